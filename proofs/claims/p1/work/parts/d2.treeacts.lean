def F_X10_newGroup (m23 : Int32) : Int32 × Int32 := (((m23 + (1 : Int32)) - (1 : Int32)), (m23 + (1 : Int32)))
set_option maxHeartbeats 4000000 in
set_option maxRecDepth 100000 in
theorem c_X10_newGroup (l : Launch) (g : Gx) (Ty : TyM) (G : Gh) (sz : Nat) (h0 : Nat) (k_h0 : Ty h0 = some (24, 0)) (hD1 : LD1 g) : Met l yX10_newGroup (wsG yX10_newGroup cX10_newGroup 1 (some .int)) ({ frames := 0, cells := 0, slots := 0, locals := 0 }) (PcT g Ty G sz [.ref h0]) (QwI g Ty sz (fun r u => u.1 = Ty ∧ FR [23] [] [] G u.2 ∧ F_X10_newGroup (G.1 23) = (r, (u.2.1 23)))) 0 0 (AF Ty sz) := by
  refine Met.ofW (cc := cX10_newGroup) (maxL := 1) (ret := (some .int)) (by decide) rfl ?_
  intro p e s m args below meth c s₁ B hml hv
  obtain ⟨rfl, hsz, hK, hH⟩ := hv
  subst hsz
  have hx := B.exec
  have hb := B.bytes
  have hr := B.returns
  have hts := atoms_spec (ws := (wsG yX10_newGroup cX10_newGroup 1 (some .int))) B.pre
  have hG : ∀ w ∈ GW, w.before ([.ref h0] : List Value).toArray s = true := fun w h => hts w (List.mem_cons_of_mem _ h)
  have hown : s.vm.findClass RX10 = some m.cls := findClass_of_methodNamed B.named
  have hlocks := B.notSynchronized
  have hl := lv_entry [.ref h0] (n := 1) (Nat.le_of_ble_eq_true rfl)
  rw [lg_entry_eq]
  generalize (lg_sl [.ref h0] ++ List.replicate (1 - (lg_sl [.ref h0]).length) Slot.unset).toArray = ls at hl ⊢
  have hl : lv_has ls 1 [(0, .ref h0)] := hl
  have hv : ((((G.1 23) + (1 : Int32)) - (1 : Int32)), ((G.1 23) + (1 : Int32))) = F_X10_newGroup (G.1 23) := rfl
  have hS : va_S (AF Ty s.heap.size) s.heap s.heap [] := va_S.rf
  refine lv_aload_n hx hb dX10_newGroup_0 rfl (lv_at hl 0 rfl) ?_
  refine lv_dup hx hb dX10_newGroup_1 rfl ?_
  obtain ⟨_, ⟨rfl, kq_2, kq_3, kq_4, t_9⟩, o_c_1⟩ := hH h0 _ k_h0
  refine hg_get hx hb hG igX10 hown hK o_c_1 rfl 6 (by decide) (hG _ mw_128) rfl dX10_newGroup_2 ?_
  refine lv_iconst (v := 1) hx hb dX10_newGroup_5 (by decide) ?_
  refine lv_iadd hx hb dX10_newGroup_6 ?_
  refine lv_topi (fun x_10 ex_10 => ?_)
  try rw [← ex_10] at hv
  refine hg_put (ty := .int) hx hb hG igX10 tyX10 tyX10_ok nmX10 hown hK hS o_c_1 (AF.of k_h0) rfl 6 (by decide) (hG _ mw_128) rfl (by decide +kernel) rfl rfl (Nat.le_of_ble_eq_true rfl) dX10_newGroup_7 (fun H locs o_c_1 hz oq hS => ?_)
  obtain ⟨G_11, eG_11⟩ : ∃ z : Gh, z = gset G 23 x_10 := ⟨_, rfl⟩
  have hH : HT g Ty G_11 H := by rw [eG_11]; exact HT.putM 23 x_10 hH k_h0 ⟨rfl, kq_2, kq_3, kq_4, t_9⟩ o_c_1 oq (⟨⟨by decide, by decide⟩, t_9⟩)
  have fr_12 : FR [23] [] [] G G_11 := FR.n FR.rf eG_11 (by decide)
  have u_13 : G_11.1 23 = x_10 := by rw [eG_11]; exact gs_eq
  clear oq hz
  refine lv_aload_n hx hb dX10_newGroup_10 rfl (lv_at hl 0 rfl) ?_
  obtain ⟨_, ⟨rfl, kq_15, kq_16, kq_17, t_22⟩, o_c_14⟩ := hH h0 _ k_h0
  refine hg_get hx hb hG igX10 hown hK o_c_14 rfl 6 (by decide) (hG _ mw_128) rfl dX10_newGroup_11 ?_
  rw [u_13]
  refine lv_iconst (v := 1) hx hb dX10_newGroup_14 (by decide) ?_
  refine lv_isub hx hb dX10_newGroup_15 ?_
  refine lv_topi (fun x_23 ex_23 => ?_)
  try rw [← ex_23] at hv
  exact W.iret hx hb hr (fun t ht hWm => ⟨⟨x_23, (Ty, G_11), rfl, ⟨rfl, ⟨fr_12, hv.symm.trans (by rw [u_13])⟩⟩, by show HT g Ty G_11 t.heap; rw [ht]; exact hH⟩, hS.F ht⟩) hS.2.2 dX10_newGroup_16

def F_X10_put (r0 : Nat → Int32) (r1 : Nat → Int32) (r2 : Nat → Int32) (m20 : Int32) (a0 : Int32) (a1 : Int32) (a2 : Int32) (a3 : Int32) : Int32 × (Nat → Int32) × (Nat → Int32) × (Nat → Int32) × Int32 := (if (24 : Int32) ≤ (F_X10_leastOf (m20 ^^^ (-1 : Int32))) then ((F_X10_leastOf (m20 ^^^ (-1 : Int32))), r0, r1, r2, m20) else ((F_X10_leastOf (m20 ^^^ (-1 : Int32))), (upd r0 (Int32.toNatClampNeg (F_X10_leastOf (m20 ^^^ (-1 : Int32)))) (((4 : Int32) * a0) + a1)), (upd r1 (Int32.toNatClampNeg (F_X10_leastOf (m20 ^^^ (-1 : Int32)))) a2), (upd r2 (Int32.toNatClampNeg (F_X10_leastOf (m20 ^^^ (-1 : Int32)))) a3), (m20 ||| ((1 : Int32) <<< ((F_X10_leastOf (m20 ^^^ (-1 : Int32))) &&& 31)))))
set_option maxHeartbeats 4000000 in
set_option maxRecDepth 100000 in
theorem c_X10_put (l : Launch) (g : Gx) (Ty : TyM) (G : Gh) (sz : Nat) (h0 : Nat) (a0 : Int32) (a1 : Int32) (a2 : Int32) (a3 : Int32) (k_h0 : Ty h0 = some (24, 0)) (hD1 : LD1 g) : Met l yX10_put (wsG yX10_put cX10_put 6 (some .int)) ({ frames := 1, cells := 0, slots := 0, locals := 22 }) (PcT g Ty G sz [.ref h0, .int a0, .int a1, .int a2, .int a3]) (QwI g Ty sz (fun r u => (rgI (0) (24) r) ∧ u.1 = Ty ∧ FR [20] [(g.2.2 70), (g.2.2 71), (g.2.2 72)] [] G u.2 ∧ F_X10_put (G.2.1 (g.2.2 70)) (G.2.1 (g.2.2 71)) (G.2.1 (g.2.2 72)) (G.1 20) a0 a1 a2 a3 = (r, (u.2.2.1 (g.2.2 70)), (u.2.2.1 (g.2.2 71)), (u.2.2.1 (g.2.2 72)), (u.2.1 20)))) 0 0 (AF Ty sz) := by
  refine Met.ofW (cc := cX10_put) (maxL := 6) (ret := (some .int)) (by decide) rfl ?_
  intro p e s m args below meth c s₁ B hml hv
  obtain ⟨rfl, hsz, hK, hH⟩ := hv
  subst hsz
  have hx := B.exec
  have hb := B.bytes
  have hr := B.returns
  have hts := atoms_spec (ws := (wsG yX10_put cX10_put 6 (some .int))) B.pre
  have hG : ∀ w ∈ GW, w.before ([.ref h0, .int a0, .int a1, .int a2, .int a3] : List Value).toArray s = true := fun w h => hts w (List.mem_cons_of_mem _ h)
  have hown : s.vm.findClass RX10 = some m.cls := findClass_of_methodNamed B.named
  have hlocks := B.notSynchronized
  have hl := lv_entry [.ref h0, .int a0, .int a1, .int a2, .int a3] (n := 6) (Nat.le_of_ble_eq_true rfl)
  rw [lg_entry_eq]
  generalize (lg_sl [.ref h0, .int a0, .int a1, .int a2, .int a3] ++ List.replicate (6 - (lg_sl [.ref h0, .int a0, .int a1, .int a2, .int a3]).length) Slot.unset).toArray = ls at hl ⊢
  have hl : lv_has ls 6 [(0, .ref h0), (1, .int a0), (2, .int a1), (3, .int a2), (4, .int a3)] := hl
  have hv : (if (24 : Int32) ≤ (F_X10_leastOf ((G.1 20) ^^^ (-1 : Int32))) then ((F_X10_leastOf ((G.1 20) ^^^ (-1 : Int32))), (G.2.1 (g.2.2 70)), (G.2.1 (g.2.2 71)), (G.2.1 (g.2.2 72)), (G.1 20)) else ((F_X10_leastOf ((G.1 20) ^^^ (-1 : Int32))), (upd (G.2.1 (g.2.2 70)) (Int32.toNatClampNeg (F_X10_leastOf ((G.1 20) ^^^ (-1 : Int32)))) (((4 : Int32) * a0) + a1)), (upd (G.2.1 (g.2.2 71)) (Int32.toNatClampNeg (F_X10_leastOf ((G.1 20) ^^^ (-1 : Int32)))) a2), (upd (G.2.1 (g.2.2 72)) (Int32.toNatClampNeg (F_X10_leastOf ((G.1 20) ^^^ (-1 : Int32)))) a3), ((G.1 20) ||| ((1 : Int32) <<< ((F_X10_leastOf ((G.1 20) ^^^ (-1 : Int32))) &&& 31))))) = F_X10_put (G.2.1 (g.2.2 70)) (G.2.1 (g.2.2 71)) (G.2.1 (g.2.2 72)) (G.1 20) a0 a1 a2 a3 := rfl
  have hS : va_S (AF Ty s.heap.size) s.heap s.heap [] := va_S.rf
  have L_61 : ∀ (H : Heap) (locs : List Loc) (G_61 : Gh) (fl0_61 : Nat → Int32) (fl1_61 : Nat → Int32) (fl2_61 : Nat → Int32) (nl20_61 : Int32) (y5_61 : Int32) (ls : Array Slot), FR [20] [(g.2.2 70), (g.2.2 71), (g.2.2 72)] [] G G_61 → G_61.2.1 (g.2.2 70) = fl0_61 → G_61.2.1 (g.2.2 71) = fl1_61 → G_61.2.1 (g.2.2 72) = fl2_61 → G_61.1 20 = nl20_61 → rgI (0) (24) y5_61 → lv_has ls 6 [(5, .int y5_61)] → (y5_61, fl0_61, fl1_61, fl2_61, nl20_61) = F_X10_put (G.2.1 (g.2.2 70)) (G.2.1 (g.2.2 71)) (G.2.1 (g.2.2 72)) (G.1 20) a0 a1 a2 a3 → HT g Ty G_61 H → va_S (AF Ty s.heap.size) s.heap H locs → Wm p l e (wsG yX10_put cX10_put 6 (some .int)) ({ frames := 1, cells := 0, slots := 0, locals := 22 }) s m [.ref h0, .int a0, .int a1, .int a2, .int a3] below meth c H locs (0) (0) (QwI g Ty s.heap.size (fun r u => (rgI (0) (24) r) ∧ u.1 = Ty ∧ FR [20] [(g.2.2 70), (g.2.2 71), (g.2.2 72)] [] G u.2 ∧ F_X10_put (G.2.1 (g.2.2 70)) (G.2.1 (g.2.2 71)) (G.2.1 (g.2.2 72)) (G.1 20) a0 a1 a2 a3 = (r, (u.2.2.1 (g.2.2 70)), (u.2.2.1 (g.2.2 71)), (u.2.2.1 (g.2.2 72)), (u.2.1 20)))) 0 0 (AF Ty s.heap.size) (F0 m 61 ls []) := by
    intro H locs G_61 fl0_61 fl1_61 fl2_61 nl20_61 y5_61 ls frL_61 efl0_61 efl1_61 efl2_61 enl20_61 ry5_61 hl hv hH hS
    refine lv_iload hx hb dX10_put_61 (lv_at hl 0 rfl) ?_
    exact W.iret hx hb hr (fun t ht hWm => ⟨⟨y5_61, (Ty, G_61), rfl, ⟨rg_w ry5_61 (by decide) (by decide), ⟨rfl, ⟨frL_61, hv.symm.trans (by rw [efl0_61, efl1_61, efl2_61, enl20_61])⟩⟩⟩, by show HT g Ty G_61 t.heap; rw [ht]; exact hH⟩, hS.F ht⟩) hS.2.2 dX10_put_63
  refine lv_aload_n hx hb dX10_put_0 rfl (lv_at hl 0 rfl) ?_
  refine lv_aload_n hx hb dX10_put_1 rfl (lv_at hl 0 rfl) ?_
  obtain ⟨_, ⟨rfl, kq_2, kq_3, kq_4, t_9⟩, o_c_1⟩ := hH h0 _ k_h0
  refine hg_get hx hb hG igX10 hown hK o_c_1 rfl 3 (by decide) (hG _ mw_118) rfl dX10_put_2 ?_
  refine lv_iconst (v := (-1)) hx hb dX10_put_5 (by decide) ?_
  refine lv_ixor hx hb dX10_put_6 ?_
  refine lv_topi (fun x_10 ex_10 => ?_)
  try rw [← ex_10] at hv
  refine vp_callSi (W.runV (As := [.int x_10]) (rest := []) ⟨hx, hb, hml, hown, hts⟩ (c_X10_leastOf l g Ty G h0 x_10 k_h0) (cwV 1 hts (gwV mw_653 mw_654 mw_655 mw_77 mw_656) rfl rfl rfl hv_X10_leastOf ⟨Nat.le_of_ble_eq_true rfl, Nat.le_of_ble_eq_true rfl⟩) ⟨PcH_blind, hg_recv hK o_c_1 rfl, PcH_pre hK hH⟩ rfl rfl hl.1 rfl (lv_room (Nat.le_of_ble_eq_true rfl)) dX10_put_7 ⟨Nat.zero_le _, Nat.zero_le _⟩) (fun x_11 hx_11 => ?_)
  have rx_11 : rgI (0) (24) x_11 := hx_11.1
  try rw [← hx_11.2] at hv
  have ex_12 : x_11 = F_X10_leastOf x_10 := hx_11.2
  try rw [← ex_12] at hv
  refine lv_istore (lv' := [(5, .int x_11), (0, .ref h0), (1, .int a0), (2, .int a1), (3, .int a2), (4, .int a3)]) hx hb dX10_put_10 hl (by decide) rfl (fun ls hl => ?_)
  refine lv_iload hx hb dX10_put_12 (lv_at hl 0 rfl) ?_
  refine lv_bipush (v := 24) hx hb dX10_put_14 (by decide) ?_
  refine lv_icmp_ge (tgt := 61) hx hb dX10_put_16 (by decide) (fun c_13 => ?_) (fun c_13 => ?_)
  · rw [if_pos c_13] at hv
    have r_14 : rgI (24) (24) x_11 := rg_w (rg_leR rl_24 rx_11 c_13) (by decide) (by decide)
    exact L_61 s.heap [] G (G.2.1 (g.2.2 70)) (G.2.1 (g.2.2 71)) (G.2.1 (g.2.2 72)) (G.1 20) x_11 ls FR.rf rfl rfl rfl rfl (rg_w r_14 (by decide) (by decide)) (lv_sub hl [0] rfl) hv hH hS
  · rw [if_neg c_13] at hv
    have r_15 : rgI (0) (23) x_11 := rg_w (rg_ltL rx_11 rl_24 (nle_lt c_13)) (by decide) (by decide)
    refine lv_aload_n hx hb dX10_put_19 rfl (lv_at hl 1 rfl) ?_
    refine lv_dup hx hb dX10_put_20 rfl ?_
    refine hg_get hx hb hG igX10 hown hK o_c_1 rfl 3 (by decide) (hG _ mw_118) rfl dX10_put_21 ?_
    refine lv_iconst (v := 1) hx hb dX10_put_24 (by decide) ?_
    refine lv_iload hx hb dX10_put_25 (lv_at hl 0 rfl) ?_
    refine lv_ishl hx hb dX10_put_27 ?_
    refine lv_topi (fun x_16 ex_16 => ?_)
    try rw [← ex_16] at hv
    refine lv_ior hx hb dX10_put_28 ?_
    refine lv_topi (fun x_17 ex_17 => ?_)
    try rw [← ex_17] at hv
    refine hg_put (ty := .int) hx hb hG igX10 tyX10 tyX10_ok nmX10 hown hK hS o_c_1 (AF.of k_h0) rfl 3 (by decide) (hG _ mw_118) rfl (by decide +kernel) rfl rfl (Nat.le_of_ble_eq_true rfl) dX10_put_29 (fun H locs o_c_1 hz oq hS => ?_)
    obtain ⟨G_18, eG_18⟩ : ∃ z : Gh, z = gset G 20 x_17 := ⟨_, rfl⟩
    have hH : HT g Ty G_18 H := by rw [eG_18]; exact HT.putM 20 x_17 hH k_h0 ⟨rfl, kq_2, kq_3, kq_4, t_9⟩ o_c_1 oq (⟨⟨by decide, by decide⟩, t_9⟩)
    have fr_19 : FR [20] [(g.2.2 70), (g.2.2 71), (g.2.2 72)] [] G G_18 := FR.n FR.rf eG_18 (by decide)
    have u_20 : G_18.1 20 = x_17 := by rw [eG_18]; exact gs_eq
    have w_21 : G_18.2.1 (g.2.2 70) = (G.2.1 (g.2.2 70)) := by rw [eG_18]; exact rfl
    have w_22 : G_18.2.1 (g.2.2 71) = (G.2.1 (g.2.2 71)) := by rw [eG_18]; exact rfl
    have w_23 : G_18.2.1 (g.2.2 72) = (G.2.1 (g.2.2 72)) := by rw [eG_18]; exact rfl
    clear oq hz
    refine lv_aload_n hx hb dX10_put_32 rfl (lv_at hl 1 rfl) ?_
    obtain ⟨_, ⟨rfl, kq_25, kq_26, kq_27, t_32⟩, o_c_24⟩ := hH h0 _ k_h0
    refine hg_get hx hb hG igX10 hown hK o_c_24 rfl 0 (by decide) (hG _ mw_115) rfl dX10_put_33 ?_
    refine lv_iload hx hb dX10_put_36 (lv_at hl 0 rfl) ?_
    refine lv_iconst (v := 4) hx hb dX10_put_38 (by decide) ?_
    refine lv_iload_n hx hb dX10_put_39 rfl (lv_at hl 2 rfl) ?_
    refine lv_imul hx hb dX10_put_40 ?_
    refine lv_topi (fun x_33 ex_33 => ?_)
    try rw [← ex_33] at hv
    refine lv_iload_n hx hb dX10_put_41 rfl (lv_at hl 3 rfl) ?_
    refine lv_iadd hx hb dX10_put_42 ?_
    refine lv_topi (fun x_34 ex_34 => ?_)
    try rw [← ex_34] at hv
    obtain ⟨_, rfl, o_c_35⟩ := hH (g.2.2 70) _ kq_25
    have o_c_35 : va_at g.1 vwCl ((g.2.2 70), .inl (g.2.1 1, 24, .inl (G_18.2.1 (g.2.2 70)))) H := o_c_35
    refine hg_iast hx hb hK hS o_c_35 (AF.of kq_25) (rg_in (n := 24) r_15 (by decide) (by decide)) dX10_put_43 (fun H locs o_c_35 hz oq hS => ?_)
    obtain ⟨G_36, eG_36⟩ : ∃ z : Gh, z = aset G_18 (g.2.2 70) (upd (G_18.2.1 (g.2.2 70)) (x_11 : Int32).toNatClampNeg x_34) := ⟨_, rfl⟩
    have hH : HT g Ty G_36 H := by rw [eG_36]; exact HT.putA (upd (G_18.2.1 (g.2.2 70)) (x_11 : Int32).toNatClampNeg x_34) hH kq_25 cf30 o_c_35 oq
    obtain ⟨f_37, ef_37⟩ : ∃ z : Nat → Int32, z = (upd (G.2.1 (g.2.2 70)) (x_11 : Int32).toNatClampNeg x_34) := ⟨_, rfl⟩
    have eaf_37 : G_36 = aset G_18 (g.2.2 70) f_37 := by rw [eG_36, ef_37, w_21]
    try rw [← ef_37] at hv
    have fr_38 : FR [20] [(g.2.2 70), (g.2.2 71), (g.2.2 72)] [] G G_36 := FR.a fr_19 eaf_37 (fun b h => h.1)
    have u_39 : G_36.1 20 = x_17 := by rw [eaf_37]; exact u_20
    have w_40 : G_36.2.1 (g.2.2 70) = f_37 := by rw [eaf_37]; exact aset_eq
    have w_41 : G_36.2.1 (g.2.2 71) = (G.2.1 (g.2.2 71)) := by rw [eaf_37]; exact (aset_ne (hD1 71 (by decide) 70 (by decide) (by decide))).trans w_22
    have w_42 : G_36.2.1 (g.2.2 72) = (G.2.1 (g.2.2 72)) := by rw [eaf_37]; exact (aset_ne (hD1 72 (by decide) 70 (by decide) (by decide))).trans w_23
    clear oq hz
    refine lv_aload_n hx hb dX10_put_44 rfl (lv_at hl 1 rfl) ?_
    obtain ⟨_, ⟨rfl, kq_44, kq_45, kq_46, t_51⟩, o_c_43⟩ := hH h0 _ k_h0
    refine hg_get hx hb hG igX10 hown hK o_c_43 rfl 1 (by decide) (hG _ mw_116) rfl dX10_put_45 ?_
    refine lv_iload hx hb dX10_put_48 (lv_at hl 0 rfl) ?_
    refine lv_iload_n hx hb dX10_put_50 rfl (lv_at hl 4 rfl) ?_
    obtain ⟨_, rfl, o_c_52⟩ := hH (g.2.2 71) _ kq_45
    have o_c_52 : va_at g.1 vwCl ((g.2.2 71), .inl (g.2.1 1, 24, .inl (G_36.2.1 (g.2.2 71)))) H := o_c_52
    refine hg_iast hx hb hK hS o_c_52 (AF.of kq_45) (rg_in (n := 24) r_15 (by decide) (by decide)) dX10_put_51 (fun H locs o_c_52 hz oq hS => ?_)
    obtain ⟨G_53, eG_53⟩ : ∃ z : Gh, z = aset G_36 (g.2.2 71) (upd (G_36.2.1 (g.2.2 71)) (x_11 : Int32).toNatClampNeg a2) := ⟨_, rfl⟩
    have hH : HT g Ty G_53 H := by rw [eG_53]; exact HT.putA (upd (G_36.2.1 (g.2.2 71)) (x_11 : Int32).toNatClampNeg a2) hH kq_45 cf30 o_c_52 oq
    obtain ⟨f_54, ef_54⟩ : ∃ z : Nat → Int32, z = (upd (G.2.1 (g.2.2 71)) (x_11 : Int32).toNatClampNeg a2) := ⟨_, rfl⟩
    have eaf_54 : G_53 = aset G_36 (g.2.2 71) f_54 := by rw [eG_53, ef_54, w_41]
    try rw [← ef_54] at hv
    have fr_55 : FR [20] [(g.2.2 70), (g.2.2 71), (g.2.2 72)] [] G G_53 := FR.a fr_38 eaf_54 (fun b h => h.2.1)
    have u_56 : G_53.1 20 = x_17 := by rw [eaf_54]; exact u_39
    have w_57 : G_53.2.1 (g.2.2 70) = f_37 := by rw [eaf_54]; exact (aset_ne (hD1 70 (by decide) 71 (by decide) (by decide))).trans w_40
    have w_58 : G_53.2.1 (g.2.2 71) = f_54 := by rw [eaf_54]; exact aset_eq
    have w_59 : G_53.2.1 (g.2.2 72) = (G.2.1 (g.2.2 72)) := by rw [eaf_54]; exact (aset_ne (hD1 72 (by decide) 71 (by decide) (by decide))).trans w_42
    clear oq hz
    refine lv_aload_n hx hb dX10_put_52 rfl (lv_at hl 1 rfl) ?_
    obtain ⟨_, ⟨rfl, kq_61, kq_62, kq_63, t_68⟩, o_c_60⟩ := hH h0 _ k_h0
    refine hg_get hx hb hG igX10 hown hK o_c_60 rfl 2 (by decide) (hG _ mw_117) rfl dX10_put_53 ?_
    refine lv_iload hx hb dX10_put_56 (lv_at hl 0 rfl) ?_
    refine lv_iload hx hb dX10_put_58 (lv_at hl 5 rfl) ?_
    obtain ⟨_, rfl, o_c_69⟩ := hH (g.2.2 72) _ kq_63
    have o_c_69 : va_at g.1 vwCl ((g.2.2 72), .inl (g.2.1 1, 24, .inl (G_53.2.1 (g.2.2 72)))) H := o_c_69
    refine hg_iast hx hb hK hS o_c_69 (AF.of kq_63) (rg_in (n := 24) r_15 (by decide) (by decide)) dX10_put_60 (fun H locs o_c_69 hz oq hS => ?_)
    obtain ⟨G_70, eG_70⟩ : ∃ z : Gh, z = aset G_53 (g.2.2 72) (upd (G_53.2.1 (g.2.2 72)) (x_11 : Int32).toNatClampNeg a3) := ⟨_, rfl⟩
    have hH : HT g Ty G_70 H := by rw [eG_70]; exact HT.putA (upd (G_53.2.1 (g.2.2 72)) (x_11 : Int32).toNatClampNeg a3) hH kq_63 cf30 o_c_69 oq
    obtain ⟨f_71, ef_71⟩ : ∃ z : Nat → Int32, z = (upd (G.2.1 (g.2.2 72)) (x_11 : Int32).toNatClampNeg a3) := ⟨_, rfl⟩
    have eaf_71 : G_70 = aset G_53 (g.2.2 72) f_71 := by rw [eG_70, ef_71, w_59]
    try rw [← ef_71] at hv
    have fr_72 : FR [20] [(g.2.2 70), (g.2.2 71), (g.2.2 72)] [] G G_70 := FR.a fr_55 eaf_71 (fun b h => h.2.2.1)
    have u_73 : G_70.1 20 = x_17 := by rw [eaf_71]; exact u_56
    have w_74 : G_70.2.1 (g.2.2 70) = f_37 := by rw [eaf_71]; exact (aset_ne (hD1 70 (by decide) 72 (by decide) (by decide))).trans w_57
    have w_75 : G_70.2.1 (g.2.2 71) = f_54 := by rw [eaf_71]; exact (aset_ne (hD1 71 (by decide) 72 (by decide) (by decide))).trans w_58
    have w_76 : G_70.2.1 (g.2.2 72) = f_71 := by rw [eaf_71]; exact aset_eq
    clear oq hz
    exact L_61 H locs G_70 f_37 f_54 f_71 x_17 x_11 ls fr_72 w_74 w_75 w_76 u_73 (rg_w r_15 (by decide) (by decide)) (lv_sub hl [0] rfl) hv hH hS

def F_X10_carry (r0 : Nat → Int32) (m20 : Int32) (a0 : Int32) (a1 : Int32) (a2 : Int32) : (Nat → Int32) := (if (F_X10_has m20 a0) = (0 : Int32) then r0 else (upd r0 (Int32.toNatClampNeg a0) (((4 : Int32) * a1) + a2)))
set_option maxHeartbeats 4000000 in
set_option maxRecDepth 100000 in
theorem c_X10_carry (l : Launch) (g : Gx) (Ty : TyM) (G : Gh) (sz : Nat) (h0 : Nat) (a0 : Int32) (a1 : Int32) (a2 : Int32) (k_h0 : Ty h0 = some (24, 0)) (hD1 : LD1 g) : Met l yX10_carry (wsG yX10_carry cX10_carry 4 none) ({ frames := 1, cells := 0, slots := 0, locals := 21 }) (PcT g Ty G sz [.ref h0, .int a0, .int a1, .int a2]) (QwV g Ty sz (fun u => u.1 = Ty ∧ FR [] [(g.2.2 70)] [] G u.2 ∧ F_X10_carry (G.2.1 (g.2.2 70)) (G.1 20) a0 a1 a2 = (u.2.2.1 (g.2.2 70)))) 0 0 (AF Ty sz) := by
  refine Met.ofW (cc := cX10_carry) (maxL := 4) (ret := none) (by decide) rfl ?_
  intro p e s m args below meth c s₁ B hml hv
  obtain ⟨rfl, hsz, hK, hH⟩ := hv
  subst hsz
  have hx := B.exec
  have hb := B.bytes
  have hr := B.returns
  have hts := atoms_spec (ws := (wsG yX10_carry cX10_carry 4 none)) B.pre
  have hG : ∀ w ∈ GW, w.before ([.ref h0, .int a0, .int a1, .int a2] : List Value).toArray s = true := fun w h => hts w (List.mem_cons_of_mem _ h)
  have hown : s.vm.findClass RX10 = some m.cls := findClass_of_methodNamed B.named
  have hlocks := B.notSynchronized
  have hl := lv_entry [.ref h0, .int a0, .int a1, .int a2] (n := 4) (Nat.le_of_ble_eq_true rfl)
  rw [lg_entry_eq]
  generalize (lg_sl [.ref h0, .int a0, .int a1, .int a2] ++ List.replicate (4 - (lg_sl [.ref h0, .int a0, .int a1, .int a2]).length) Slot.unset).toArray = ls at hl ⊢
  have hl : lv_has ls 4 [(0, .ref h0), (1, .int a0), (2, .int a1), (3, .int a2)] := hl
  have hv : (if (F_X10_has (G.1 20) a0) = (0 : Int32) then (G.2.1 (g.2.2 70)) else (upd (G.2.1 (g.2.2 70)) (Int32.toNatClampNeg a0) (((4 : Int32) * a1) + a2))) = F_X10_carry (G.2.1 (g.2.2 70)) (G.1 20) a0 a1 a2 := rfl
  have hS : va_S (AF Ty s.heap.size) s.heap s.heap [] := va_S.rf
  refine lv_aload_n hx hb dX10_carry_0 rfl (lv_at hl 0 rfl) ?_
  refine lv_iload_n hx hb dX10_carry_1 rfl (lv_at hl 1 rfl) ?_
  obtain ⟨_, ⟨rfl, kq_2, kq_3, kq_4, t_9⟩, o_c_1⟩ := hH h0 _ k_h0
  refine vp_callSi (W.runV (As := [.int a0]) (rest := []) ⟨hx, hb, hml, hown, hts⟩ (c_X10_has l g Ty G h0 a0 k_h0) (cwV 1 hts (gwV mw_644 mw_604 mw_605 mw_77 mw_606) rfl rfl rfl hv_X10_has ⟨Nat.le_of_ble_eq_true rfl, Nat.le_of_ble_eq_true rfl⟩) ⟨PcH_blind, hg_recv hK o_c_1 rfl, PcH_pre hK hH⟩ rfl rfl hl.1 rfl (lv_room (Nat.le_of_ble_eq_true rfl)) dX10_carry_2 ⟨Nat.zero_le _, Nat.zero_le _⟩) (fun x_10 hx_10 => ?_)
  have rx_10 : rgI (0) (1) x_10 := hx_10.1
  try rw [← hx_10.2.2] at hv
  have ex_11 : x_10 = F_X10_has (G.1 20) a0 := hx_10.2.2
  try rw [← ex_11] at hv
  refine lv_if_eq (tgt := 19) hx hb dX10_carry_5 (by decide) (fun c_12 => ?_) (fun c_12 => ?_)
  · rw [if_pos c_12] at hv
    have r_13 : rgI (0) (0) x_10 := rg_w (rg_eq rl_0 c_12) (by decide) (by decide)
    exact W.vret hx hb hr (fun t ht hWm => ⟨⟨(Ty, G), rfl, ⟨rfl, ⟨FR.rf, hv.symm⟩⟩, by show HT g Ty G t.heap; rw [ht]; exact hH⟩, hS.F ht⟩) hS.2.2 dX10_carry_19
  · rw [if_neg c_12] at hv
    have r_14 : rgI (1) (1) x_10 := rg_w (rg_neL rx_10 rl_0 c_12) (by decide) (by decide)
    have r_15 : rgI (0) (23) a0 := rg_w (hx_10.2.1.resolve_left c_12) (by decide) (by decide)
    refine lv_aload_n hx hb dX10_carry_8 rfl (lv_at hl 0 rfl) ?_
    refine hg_get hx hb hG igX10 hown hK o_c_1 rfl 0 (by decide) (hG _ mw_115) rfl dX10_carry_9 ?_
    refine lv_iload_n hx hb dX10_carry_12 rfl (lv_at hl 1 rfl) ?_
    refine lv_iconst (v := 4) hx hb dX10_carry_13 (by decide) ?_
    refine lv_iload_n hx hb dX10_carry_14 rfl (lv_at hl 2 rfl) ?_
    refine lv_imul hx hb dX10_carry_15 ?_
    refine lv_topi (fun x_16 ex_16 => ?_)
    try rw [← ex_16] at hv
    refine lv_iload_n hx hb dX10_carry_16 rfl (lv_at hl 3 rfl) ?_
    refine lv_iadd hx hb dX10_carry_17 ?_
    refine lv_topi (fun x_17 ex_17 => ?_)
    try rw [← ex_17] at hv
    obtain ⟨_, rfl, o_c_18⟩ := hH (g.2.2 70) _ kq_2
    have o_c_18 : va_at g.1 vwCl ((g.2.2 70), .inl (g.2.1 1, 24, .inl (G.2.1 (g.2.2 70)))) s.heap := o_c_18
    refine hg_iast hx hb hK hS o_c_18 (AF.of kq_2) (rg_in (n := 24) r_15 (by decide) (by decide)) dX10_carry_18 (fun H locs o_c_18 hz oq hS => ?_)
    obtain ⟨G_19, eG_19⟩ : ∃ z : Gh, z = aset G (g.2.2 70) (upd (G.2.1 (g.2.2 70)) (a0 : Int32).toNatClampNeg x_17) := ⟨_, rfl⟩
    have hH : HT g Ty G_19 H := by rw [eG_19]; exact HT.putA (upd (G.2.1 (g.2.2 70)) (a0 : Int32).toNatClampNeg x_17) hH kq_2 cf30 o_c_18 oq
    obtain ⟨f_20, ef_20⟩ : ∃ z : Nat → Int32, z = (upd (G.2.1 (g.2.2 70)) (a0 : Int32).toNatClampNeg x_17) := ⟨_, rfl⟩
    have eaf_20 : G_19 = aset G (g.2.2 70) f_20 := by rw [eG_19, ef_20]
    try rw [← ef_20] at hv
    have fr_21 : FR [] [(g.2.2 70)] [] G G_19 := FR.a FR.rf eaf_20 (fun b h => h.1)
    have u_22 : G_19.1 20 = (G.1 20) := by rw [eaf_20]; exact rfl
    have w_23 : G_19.2.1 (g.2.2 70) = f_20 := by rw [eaf_20]; exact aset_eq
    clear oq hz
    exact W.vret hx hb hr (fun t ht hWm => ⟨⟨(Ty, G_19), rfl, ⟨rfl, ⟨fr_21, hv.symm.trans (by rw [w_23])⟩⟩, by show HT g Ty G_19 t.heap; rw [ht]; exact hH⟩, hS.F ht⟩) hS.2.2 dX10_carry_19

def F_X10_leaveGroup_42 : Nat → Int32 → Int32 → Int32 → (Nat → Int32) → (Nat → Int32) → Int32 → (Nat → Int32) × (Nat → Int32)
  | 0, _, _, _, yr0, yr1, _ => (yr0, yr1)
  | n + 1, y1, y2, y3, yr0, yr1, yn20 => (if (24 : Int32) ≤ y3 then (yr0, yr1) else (if (yr1 (Int32.toNatClampNeg y3)) = y2 then (F_X10_leaveGroup_42 n y1 y2 (y3 + (1 : Int32)) yr0 (upd yr1 (Int32.toNatClampNeg y3) (yr1 (Int32.toNatClampNeg y1))) yn20) else (F_X10_leaveGroup_42 n y1 y2 (y3 + (1 : Int32)) yr0 yr1 yn20)))
def F_X10_leaveGroup (r0 : Nat → Int32) (r1 : Nat → Int32) (m20 : Int32) (a0 : Int32) : (Nat → Int32) × (Nat → Int32) := (if (F_X10_has m20 a0) = (0 : Int32) then (r0, r1) else (if (r0 (Int32.toNatClampNeg a0)) = (0 : Int32) then (r0, r1) else (if (F_X10_withGroup (upd r0 (Int32.toNatClampNeg a0) (0 : Int32)) (r0 (Int32.toNatClampNeg a0))) = (0 : Int32) then (tu2 (F_X10_leaveGroup_42 26 a0 (r0 (Int32.toNatClampNeg a0)) (0 : Int32) (upd r0 (Int32.toNatClampNeg a0) (0 : Int32)) r1 m20) (fun z7 z8 => (z7, z8))) else ((upd r0 (Int32.toNatClampNeg a0) (0 : Int32)), r1))))
set_option maxHeartbeats 4000000 in
set_option maxRecDepth 100000 in
theorem c_X10_leaveGroup (l : Launch) (g : Gx) (Ty : TyM) (G : Gh) (sz : Nat) (h0 : Nat) (a0 : Int32) (k_h0 : Ty h0 = some (24, 0)) (hD1 : LD1 g) : Met l yX10_leaveGroup (wsG yX10_leaveGroup cX10_leaveGroup 4 none) ({ frames := 2, cells := 0, slots := 0, locals := 44 }) (PcT g Ty G sz [.ref h0, .int a0]) (QwV g Ty sz (fun u => u.1 = Ty ∧ FR [] [(g.2.2 71), (g.2.2 72)] [] G u.2 ∧ F_X10_leaveGroup (G.2.1 (g.2.2 71)) (G.2.1 (g.2.2 72)) (G.1 20) a0 = ((u.2.2.1 (g.2.2 71)), (u.2.2.1 (g.2.2 72))))) 0 0 (AF Ty sz) := by
  refine Met.ofW (cc := cX10_leaveGroup) (maxL := 4) (ret := none) (by decide) rfl ?_
  intro p e s m args below meth c s₁ B hml hv
  obtain ⟨rfl, hsz, hK, hH⟩ := hv
  subst hsz
  have hx := B.exec
  have hb := B.bytes
  have hr := B.returns
  have hts := atoms_spec (ws := (wsG yX10_leaveGroup cX10_leaveGroup 4 none)) B.pre
  have hG : ∀ w ∈ GW, w.before ([.ref h0, .int a0] : List Value).toArray s = true := fun w h => hts w (List.mem_cons_of_mem _ h)
  have hown : s.vm.findClass RX10 = some m.cls := findClass_of_methodNamed B.named
  have hlocks := B.notSynchronized
  have hl := lv_entry [.ref h0, .int a0] (n := 4) (Nat.le_of_ble_eq_true rfl)
  rw [lg_entry_eq]
  generalize (lg_sl [.ref h0, .int a0] ++ List.replicate (4 - (lg_sl [.ref h0, .int a0]).length) Slot.unset).toArray = ls at hl ⊢
  have hl : lv_has ls 4 [(0, .ref h0), (1, .int a0)] := hl
  have hv : (if (F_X10_has (G.1 20) a0) = (0 : Int32) then ((G.2.1 (g.2.2 71)), (G.2.1 (g.2.2 72))) else (if ((G.2.1 (g.2.2 71)) (Int32.toNatClampNeg a0)) = (0 : Int32) then ((G.2.1 (g.2.2 71)), (G.2.1 (g.2.2 72))) else (if (F_X10_withGroup (upd (G.2.1 (g.2.2 71)) (Int32.toNatClampNeg a0) (0 : Int32)) ((G.2.1 (g.2.2 71)) (Int32.toNatClampNeg a0))) = (0 : Int32) then (tu2 (F_X10_leaveGroup_42 26 a0 ((G.2.1 (g.2.2 71)) (Int32.toNatClampNeg a0)) (0 : Int32) (upd (G.2.1 (g.2.2 71)) (Int32.toNatClampNeg a0) (0 : Int32)) (G.2.1 (g.2.2 72)) (G.1 20)) (fun z5 z6 => (z5, z6))) else ((upd (G.2.1 (g.2.2 71)) (Int32.toNatClampNeg a0) (0 : Int32)), (G.2.1 (g.2.2 72)))))) = F_X10_leaveGroup (G.2.1 (g.2.2 71)) (G.2.1 (g.2.2 72)) (G.1 20) a0 := rfl
  have hS : va_S (AF Ty s.heap.size) s.heap s.heap [] := va_S.rf
  have L_42 : ∀ (n_42 : Nat) (H : Heap) (locs : List Loc) (G_42 : Gh) (fl0_42 : Nat → Int32) (fl1_42 : Nat → Int32) (y2_42 : Int32) (y3_42 : Int32) (ls : Array Slot), FR [] [(g.2.2 71), (g.2.2 72)] [] G G_42 → G_42.2.1 (g.2.2 71) = fl0_42 → G_42.2.1 (g.2.2 72) = fl1_42 → rgI (0) (23) a0 → rgI (0) (24) y3_42 → (24 - (y3_42).toInt).toNat < n_42 → lv_has ls 4 [(0, .ref h0), (1, .int a0), (2, .int y2_42), (3, .int y3_42)] → (tu2 (F_X10_leaveGroup_42 n_42 a0 y2_42 y3_42 fl0_42 fl1_42 (G.1 20)) (fun z1 z2 => (z1, z2))) = F_X10_leaveGroup (G.2.1 (g.2.2 71)) (G.2.1 (g.2.2 72)) (G.1 20) a0 → HT g Ty G_42 H → va_S (AF Ty s.heap.size) s.heap H locs → Wm p l e (wsG yX10_leaveGroup cX10_leaveGroup 4 none) ({ frames := 2, cells := 0, slots := 0, locals := 44 }) s m [.ref h0, .int a0] below meth c H locs (0) (0) (QwV g Ty s.heap.size (fun u => u.1 = Ty ∧ FR [] [(g.2.2 71), (g.2.2 72)] [] G u.2 ∧ F_X10_leaveGroup (G.2.1 (g.2.2 71)) (G.2.1 (g.2.2 72)) (G.1 20) a0 = ((u.2.2.1 (g.2.2 71)), (u.2.2.1 (g.2.2 72))))) 0 0 (AF Ty s.heap.size) (F0 m 42 ls []) := by
    intro n_42
    induction n_42 with
    | zero => intro H locs G_42 fl0_42 fl1_42 y2_42 y3_42 ls frL_42 efl0_42 efl1_42 ry1_42 ry3_42 hm; exact absurd hm (Nat.not_lt_zero _)
    | succ n_42 ih_42 =>
      intro H locs G_42 fl0_42 fl1_42 y2_42 y3_42 ls frL_42 efl0_42 efl1_42 ry1_42 ry3_42 hm_42 hl hv hH hS
      have L_70 : ∀ (H : Heap) (locs : List Loc) (G_70 : Gh) (fl0_70 : Nat → Int32) (fl1_70 : Nat → Int32) (ls : Array Slot), FR [] [(g.2.2 71), (g.2.2 72)] [] G G_70 → G_70.2.1 (g.2.2 71) = fl0_70 → G_70.2.1 (g.2.2 72) = fl1_70 → rgI (0) (23) a0 → rgI (0) (23) y3_42 → lv_has ls 4 [(0, .ref h0), (1, .int a0), (2, .int y2_42), (3, .int y3_42)] → (tu2 (F_X10_leaveGroup_42 n_42 a0 y2_42 (y3_42 + (1 : Int32)) fl0_70 fl1_70 (G.1 20)) (fun z3 z4 => (z3, z4))) = F_X10_leaveGroup (G.2.1 (g.2.2 71)) (G.2.1 (g.2.2 72)) (G.1 20) a0 → HT g Ty G_70 H → va_S (AF Ty s.heap.size) s.heap H locs → Wm p l e (wsG yX10_leaveGroup cX10_leaveGroup 4 none) ({ frames := 2, cells := 0, slots := 0, locals := 44 }) s m [.ref h0, .int a0] below meth c H locs (0) (0) (QwV g Ty s.heap.size (fun u => u.1 = Ty ∧ FR [] [(g.2.2 71), (g.2.2 72)] [] G u.2 ∧ F_X10_leaveGroup (G.2.1 (g.2.2 71)) (G.2.1 (g.2.2 72)) (G.1 20) a0 = ((u.2.2.1 (g.2.2 71)), (u.2.2.1 (g.2.2 72))))) 0 0 (AF Ty s.heap.size) (F0 m 70 ls []) := by
        intro H locs G_70 fl0_70 fl1_70 ls frL_70 efl0_70 efl1_70 ry1_70 ry3_70 hl hv hH hS
        obtain ⟨x_1, ex_1⟩ : ∃ y : Int32, y = y3_42 + 1 := ⟨_, rfl⟩
        try rw [← ex_1] at hv
        have rx_1 : rgI (1) (24) x_1 := by rw [ex_1]; exact rg_w (rg_add ry3_70 rl_1 (by decide) (by decide)) (by decide) (by decide)
        have qx_1 : x_1.toInt = (y3_42 : Int32).toInt + 1 := by rw [ex_1]; exact rg_addE ry3_70 rl_1 (by decide) (by decide)
        refine lv_iinc (v := x_1) (lv' := [(3, .int x_1), (0, .ref h0), (1, .int a0), (2, .int y2_42)]) hx hb dX10_leaveGroup_70 hl (k := 3) rfl (by rw [ex_1]; rfl) (by decide) rfl (fun ls hl => ?_)
        refine lv_goto (tgt := 42) hx hb dX10_leaveGroup_73 (by decide) ?_
        exact ih_42 H locs G_70 fl0_70 fl1_70 y2_42 x_1 ls frL_70 efl0_70 efl1_70 ry1_70 (rg_w rx_1 (by decide) (by decide)) (by have h1 := qx_1; have h2 := ry3_70.1; have h3 := ry3_70.2; have h4 := hm_42; omega) (lv_sub hl [1, 2, 3, 0] rfl) hv hH hS
      rw [F_X10_leaveGroup_42] at hv
      refine lv_iload_n hx hb dX10_leaveGroup_42 rfl (lv_at hl 3 rfl) ?_
      refine lv_bipush (v := 24) hx hb dX10_leaveGroup_43 (by decide) ?_
      refine lv_icmp_ge (tgt := 76) hx hb dX10_leaveGroup_45 (by decide) (fun c_2 => ?_) (fun c_2 => ?_)
      · rw [if_pos c_2] at hv
        have r_3 : rgI (24) (24) y3_42 := rg_w (rg_leR rl_24 ry3_42 c_2) (by decide) (by decide)
        rw [tu2_eq] at hv
        exact W.vret hx hb hr (fun t ht hWm => ⟨⟨(Ty, G_42), rfl, ⟨rfl, ⟨frL_42, hv.symm.trans (by rw [efl0_42, efl1_42])⟩⟩, by show HT g Ty G_42 t.heap; rw [ht]; exact hH⟩, hS.F ht⟩) hS.2.2 dX10_leaveGroup_76
      · rw [if_neg c_2] at hv
        have r_4 : rgI (0) (23) y3_42 := rg_w (rg_ltL ry3_42 rl_24 (nle_lt c_2)) (by decide) (by decide)
        refine lv_aload_n hx hb dX10_leaveGroup_48 rfl (lv_at hl 0 rfl) ?_
        obtain ⟨_, ⟨rfl, kq_6, kq_7, kq_8, t_13⟩, o_c_5⟩ := hH h0 _ k_h0
        refine hg_get hx hb hG igX10 hown hK o_c_5 rfl 2 (by decide) (hG _ mw_117) rfl dX10_leaveGroup_49 ?_
        refine lv_iload_n hx hb dX10_leaveGroup_52 rfl (lv_at hl 3 rfl) ?_
        obtain ⟨_, rfl, o_c_14⟩ := hH (g.2.2 72) _ kq_8
        have o_c_14 : va_at g.1 vwCl ((g.2.2 72), .inl (g.2.1 1, 24, .inl (G_42.2.1 (g.2.2 72)))) H := o_c_14
        refine hg_iald hx hb hK o_c_14 (rg_in (n := 24) r_4 (by decide) (by decide)) dX10_leaveGroup_53 ?_
        rw [efl1_42]
        refine lv_topi (fun x_15 ex_15 => ?_)
        try rw [← ex_15] at hv
        refine lv_iload_n hx hb dX10_leaveGroup_54 rfl (lv_at hl 2 rfl) ?_
        refine lv_icmp_ne (tgt := 70) hx hb dX10_leaveGroup_55 (by decide) (fun c_16 => ?_) (fun c_16 => ?_)
        · rw [if_neg c_16] at hv
          exact L_70 H locs G_42 fl0_42 fl1_42 ls frL_42 efl0_42 efl1_42 ry1_42 r_4 (lv_sub hl [0, 1, 2, 3] rfl) hv hH hS
        · rw [if_pos c_16] at hv
          refine lv_aload_n hx hb dX10_leaveGroup_58 rfl (lv_at hl 0 rfl) ?_
          refine hg_get hx hb hG igX10 hown hK o_c_5 rfl 2 (by decide) (hG _ mw_117) rfl dX10_leaveGroup_59 ?_
          refine lv_iload_n hx hb dX10_leaveGroup_62 rfl (lv_at hl 3 rfl) ?_
          refine lv_aload_n hx hb dX10_leaveGroup_63 rfl (lv_at hl 0 rfl) ?_
          refine hg_get hx hb hG igX10 hown hK o_c_5 rfl 2 (by decide) (hG _ mw_117) rfl dX10_leaveGroup_64 ?_
          refine lv_iload_n hx hb dX10_leaveGroup_67 rfl (lv_at hl 1 rfl) ?_
          refine hg_iald hx hb hK o_c_14 (rg_in (n := 24) ry1_42 (by decide) (by decide)) dX10_leaveGroup_68 ?_
          rw [efl1_42]
          refine lv_topi (fun x_17 ex_17 => ?_)
          try rw [← ex_17] at hv
          refine hg_iast hx hb hK hS o_c_14 (AF.of kq_8) (rg_in (n := 24) r_4 (by decide) (by decide)) dX10_leaveGroup_69 (fun H locs o_c_14 hz oq hS => ?_)
          obtain ⟨G_18, eG_18⟩ : ∃ z : Gh, z = aset G_42 (g.2.2 72) (upd (G_42.2.1 (g.2.2 72)) (y3_42 : Int32).toNatClampNeg x_17) := ⟨_, rfl⟩
          have hH : HT g Ty G_18 H := by rw [eG_18]; exact HT.putA (upd (G_42.2.1 (g.2.2 72)) (y3_42 : Int32).toNatClampNeg x_17) hH kq_8 cf30 o_c_14 oq
          obtain ⟨f_19, ef_19⟩ : ∃ z : Nat → Int32, z = (upd fl1_42 (y3_42 : Int32).toNatClampNeg x_17) := ⟨_, rfl⟩
          have eaf_19 : G_18 = aset G_42 (g.2.2 72) f_19 := by rw [eG_18, ef_19, efl1_42]
          try rw [← ef_19] at hv
          have fr_20 : FR [] [(g.2.2 71), (g.2.2 72)] [] G G_18 := FR.a frL_42 eaf_19 (fun b h => h.2.1)
          have u_21 : G_18.1 20 = (G.1 20) := by rw [eaf_19]; exact (frL_42.1 20 (by decide))
          have w_22 : G_18.2.1 (g.2.2 71) = fl0_42 := by rw [eaf_19]; exact (aset_ne (hD1 71 (by decide) 72 (by decide) (by decide))).trans efl0_42
          have w_23 : G_18.2.1 (g.2.2 72) = f_19 := by rw [eaf_19]; exact aset_eq
          clear oq hz
          exact L_70 H locs G_18 fl0_42 f_19 ls fr_20 w_22 w_23 ry1_42 r_4 (lv_sub hl [0, 1, 2, 3] rfl) hv hH hS
  refine lv_aload_n hx hb dX10_leaveGroup_0 rfl (lv_at hl 0 rfl) ?_
  refine lv_iload_n hx hb dX10_leaveGroup_1 rfl (lv_at hl 1 rfl) ?_
  obtain ⟨_, ⟨rfl, kq_25, kq_26, kq_27, t_32⟩, o_c_24⟩ := hH h0 _ k_h0
  refine vp_callSi (W.runV (As := [.int a0]) (rest := []) ⟨hx, hb, hml, hown, hts⟩ (c_X10_has l g Ty G h0 a0 k_h0) (cwV 1 hts (gwV mw_644 mw_604 mw_605 mw_77 mw_606) rfl rfl rfl hv_X10_has ⟨Nat.le_of_ble_eq_true rfl, Nat.le_of_ble_eq_true rfl⟩) ⟨PcH_blind, hg_recv hK o_c_24 rfl, PcH_pre hK hH⟩ rfl rfl hl.1 rfl (lv_room (Nat.le_of_ble_eq_true rfl)) dX10_leaveGroup_2 ⟨Nat.zero_le _, Nat.zero_le _⟩) (fun x_33 hx_33 => ?_)
  have rx_33 : rgI (0) (1) x_33 := hx_33.1
  try rw [← hx_33.2.2] at hv
  have ex_34 : x_33 = F_X10_has (G.1 20) a0 := hx_33.2.2
  try rw [← ex_34] at hv
  refine lv_if_eq (tgt := 17) hx hb dX10_leaveGroup_5 (by decide) (fun c_35 => ?_) (fun c_35 => ?_)
  · rw [if_pos c_35] at hv
    have r_36 : rgI (0) (0) x_33 := rg_w (rg_eq rl_0 c_35) (by decide) (by decide)
    exact W.vret hx hb hr (fun t ht hWm => ⟨⟨(Ty, G), rfl, ⟨rfl, ⟨FR.rf, hv.symm⟩⟩, by show HT g Ty G t.heap; rw [ht]; exact hH⟩, hS.F ht⟩) hS.2.2 dX10_leaveGroup_17
  · rw [if_neg c_35] at hv
    have r_37 : rgI (1) (1) x_33 := rg_w (rg_neL rx_33 rl_0 c_35) (by decide) (by decide)
    have r_38 : rgI (0) (23) a0 := rg_w (hx_33.2.1.resolve_left c_35) (by decide) (by decide)
    refine lv_aload_n hx hb dX10_leaveGroup_8 rfl (lv_at hl 0 rfl) ?_
    refine hg_get hx hb hG igX10 hown hK o_c_24 rfl 1 (by decide) (hG _ mw_116) rfl dX10_leaveGroup_9 ?_
    refine lv_iload_n hx hb dX10_leaveGroup_12 rfl (lv_at hl 1 rfl) ?_
    obtain ⟨_, rfl, o_c_39⟩ := hH (g.2.2 71) _ kq_26
    have o_c_39 : va_at g.1 vwCl ((g.2.2 71), .inl (g.2.1 1, 24, .inl (G.2.1 (g.2.2 71)))) s.heap := o_c_39
    refine hg_iald hx hb hK o_c_39 (rg_in (n := 24) r_38 (by decide) (by decide)) dX10_leaveGroup_13 ?_
    refine lv_topi (fun x_40 ex_40 => ?_)
    try rw [← ex_40] at hv
    refine lv_if_ne (tgt := 18) hx hb dX10_leaveGroup_14 (by decide) (fun c_41 => ?_) (fun c_41 => ?_)
    · rw [if_neg c_41] at hv
      refine lv_aload_n hx hb dX10_leaveGroup_18 rfl (lv_at hl 0 rfl) ?_
      refine hg_get hx hb hG igX10 hown hK o_c_24 rfl 1 (by decide) (hG _ mw_116) rfl dX10_leaveGroup_19 ?_
      refine lv_iload_n hx hb dX10_leaveGroup_22 rfl (lv_at hl 1 rfl) ?_
      refine hg_iald hx hb hK o_c_39 (rg_in (n := 24) r_38 (by decide) (by decide)) dX10_leaveGroup_23 ?_
      refine lv_topi (fun x_42 ex_42 => ?_)
      try rw [← ex_42] at hv
      have q_43 : x_40 = x_42 := ex_40.trans ex_42.symm
      subst q_43
      refine lv_istore_n (lv' := [(2, .int x_40), (0, .ref h0), (1, .int a0)]) hx hb dX10_leaveGroup_24 rfl hl (by decide) rfl (fun ls hl => ?_)
      refine lv_aload_n hx hb dX10_leaveGroup_25 rfl (lv_at hl 1 rfl) ?_
      refine hg_get hx hb hG igX10 hown hK o_c_24 rfl 1 (by decide) (hG _ mw_116) rfl dX10_leaveGroup_26 ?_
      refine lv_iload_n hx hb dX10_leaveGroup_29 rfl (lv_at hl 2 rfl) ?_
      refine lv_iconst (v := 0) hx hb dX10_leaveGroup_30 (by decide) ?_
      refine hg_iast hx hb hK hS o_c_39 (AF.of kq_26) (rg_in (n := 24) r_38 (by decide) (by decide)) dX10_leaveGroup_31 (fun H locs o_c_39 hz oq hS => ?_)
      obtain ⟨G_44, eG_44⟩ : ∃ z : Gh, z = aset G (g.2.2 71) (upd (G.2.1 (g.2.2 71)) (a0 : Int32).toNatClampNeg 0) := ⟨_, rfl⟩
      have hH : HT g Ty G_44 H := by rw [eG_44]; exact HT.putA (upd (G.2.1 (g.2.2 71)) (a0 : Int32).toNatClampNeg 0) hH kq_26 cf30 o_c_39 oq
      obtain ⟨f_45, ef_45⟩ : ∃ z : Nat → Int32, z = (upd (G.2.1 (g.2.2 71)) (a0 : Int32).toNatClampNeg 0) := ⟨_, rfl⟩
      have eaf_45 : G_44 = aset G (g.2.2 71) f_45 := by rw [eG_44, ef_45]
      try rw [← ef_45] at hv
      have fr_46 : FR [] [(g.2.2 71), (g.2.2 72)] [] G G_44 := FR.a FR.rf eaf_45 (fun b h => h.1)
      have u_47 : G_44.1 20 = (G.1 20) := by rw [eaf_45]; exact rfl
      have w_48 : G_44.2.1 (g.2.2 71) = f_45 := by rw [eaf_45]; exact aset_eq
      have w_49 : G_44.2.1 (g.2.2 72) = (G.2.1 (g.2.2 72)) := by rw [eaf_45]; exact (aset_ne (hD1 72 (by decide) 71 (by decide) (by decide)))
      clear oq hz
      refine lv_aload_n hx hb dX10_leaveGroup_32 rfl (lv_at hl 1 rfl) ?_
      refine lv_iload_n hx hb dX10_leaveGroup_33 rfl (lv_at hl 0 rfl) ?_
      obtain ⟨_, ⟨rfl, kq_51, kq_52, kq_53, t_58⟩, o_c_50⟩ := hH h0 _ k_h0
      refine vp_callSi (W.runV (As := [.int x_40]) (rest := []) ⟨hx, hb, hml, hown, hts⟩ (c_X10_withGroup l g Ty G_44 h0 x_40 k_h0) (cwV 1 hts (gwV mw_658 mw_659 mw_660 mw_77 mw_661) rfl rfl rfl hv_X10_withGroup ⟨Nat.le_of_ble_eq_true rfl, Nat.le_of_ble_eq_true rfl⟩) ⟨PcH_blind, hg_recv hK o_c_50 rfl, PcH_pre hK hH⟩ rfl rfl hl.1 rfl (lv_room (Nat.le_of_ble_eq_true rfl)) dX10_leaveGroup_34 ⟨Nat.zero_le _, Nat.zero_le _⟩) (fun x_59 hx_59 => ?_)
      try rw [← hx_59] at hv
      have ex_60 : x_59 = F_X10_withGroup f_45 x_40 := hx_59.trans (by rw [w_48])
      try rw [← ex_60] at hv
      refine lv_if_ne (tgt := 76) hx hb dX10_leaveGroup_37 (by decide) (fun c_61 => ?_) (fun c_61 => ?_)
      · rw [if_neg c_61] at hv
        exact W.vret hx hb hr (fun t ht hWm => ⟨⟨(Ty, G_44), rfl, ⟨rfl, ⟨fr_46, hv.symm.trans (by rw [w_48, w_49])⟩⟩, by show HT g Ty G_44 t.heap; rw [ht]; exact hH⟩, hS.F ht⟩) hS.2.2 dX10_leaveGroup_76
      · rw [if_pos c_61] at hv
        have r_62 : rgI (0) (0) x_59 := rg_w (rg_eq rl_0 c_61) (by decide) (by decide)
        refine lv_iconst (v := 0) hx hb dX10_leaveGroup_40 (by decide) ?_
        refine lv_istore_n (lv' := [(3, .int 0), (2, .int x_40), (0, .ref h0), (1, .int a0)]) hx hb dX10_leaveGroup_41 rfl hl (by decide) rfl (fun ls hl => ?_)
        exact L_42 26 H locs G_44 f_45 (G.2.1 (g.2.2 72)) x_40 0 ls fr_46 w_48 w_49 r_38 (rg_w rl_0 (by decide) (by decide)) (by decide) (lv_sub hl [2, 3, 1, 0] rfl) hv hH hS
    · rw [if_pos c_41] at hv
      have r_63 : rgI (0) (0) x_40 := rg_w (rg_eq rl_0 c_41) (by decide) (by decide)
      exact W.vret hx hb hr (fun t ht hWm => ⟨⟨(Ty, G), rfl, ⟨rfl, ⟨FR.rf, hv.symm⟩⟩, by show HT g Ty G t.heap; rw [ht]; exact hH⟩, hS.F ht⟩) hS.2.2 dX10_leaveGroup_17

def F_X10_remove (r0 : Nat → Int32) (r1 : Nat → Int32) (r2 : Nat → Int32) (m20 : Int32) (m21 : Int32) (a0 : Int32) : (Nat → Int32) × (Nat → Int32) × (Nat → Int32) × Int32 × Int32 := (if (F_X10_has m20 a0) = (0 : Int32) then (r0, r1, r2, m20, m21) else (tu2 (F_X10_leaveGroup r1 r2 m20 a0) (fun z3 z4 => ((upd r0 (Int32.toNatClampNeg a0) (-1 : Int32)), z3, (upd z4 (Int32.toNatClampNeg a0) (0 : Int32)), (m20 &&& (((1 : Int32) <<< (a0 &&& 31)) ^^^ (-1 : Int32))), (m21 &&& (((1 : Int32) <<< (a0 &&& 31)) ^^^ (-1 : Int32)))))))
set_option maxHeartbeats 4000000 in
set_option maxRecDepth 100000 in
theorem c_X10_remove (l : Launch) (g : Gx) (Ty : TyM) (G : Gh) (sz : Nat) (h0 : Nat) (a0 : Int32) (k_h0 : Ty h0 = some (24, 0)) (hD1 : LD1 g) : Met l yX10_remove (wsG yX10_remove cX10_remove 2 none) ({ frames := 3, cells := 0, slots := 0, locals := 67 }) (PcT g Ty G sz [.ref h0, .int a0]) (QwV g Ty sz (fun u => u.1 = Ty ∧ FR [20, 21] [(g.2.2 70), (g.2.2 71), (g.2.2 72)] [] G u.2 ∧ F_X10_remove (G.2.1 (g.2.2 70)) (G.2.1 (g.2.2 71)) (G.2.1 (g.2.2 72)) (G.1 20) (G.1 21) a0 = ((u.2.2.1 (g.2.2 70)), (u.2.2.1 (g.2.2 71)), (u.2.2.1 (g.2.2 72)), (u.2.1 20), (u.2.1 21)))) 0 0 (AF Ty sz) := by
  refine Met.ofW (cc := cX10_remove) (maxL := 2) (ret := none) (by decide) rfl ?_
  intro p e s m args below meth c s₁ B hml hv
  obtain ⟨rfl, hsz, hK, hH⟩ := hv
  subst hsz
  have hx := B.exec
  have hb := B.bytes
  have hr := B.returns
  have hts := atoms_spec (ws := (wsG yX10_remove cX10_remove 2 none)) B.pre
  have hG : ∀ w ∈ GW, w.before ([.ref h0, .int a0] : List Value).toArray s = true := fun w h => hts w (List.mem_cons_of_mem _ h)
  have hown : s.vm.findClass RX10 = some m.cls := findClass_of_methodNamed B.named
  have hlocks := B.notSynchronized
  have hl := lv_entry [.ref h0, .int a0] (n := 2) (Nat.le_of_ble_eq_true rfl)
  rw [lg_entry_eq]
  generalize (lg_sl [.ref h0, .int a0] ++ List.replicate (2 - (lg_sl [.ref h0, .int a0]).length) Slot.unset).toArray = ls at hl ⊢
  have hl : lv_has ls 2 [(0, .ref h0), (1, .int a0)] := hl
  have hv : (if (F_X10_has (G.1 20) a0) = (0 : Int32) then ((G.2.1 (g.2.2 70)), (G.2.1 (g.2.2 71)), (G.2.1 (g.2.2 72)), (G.1 20), (G.1 21)) else (tu2 (F_X10_leaveGroup (G.2.1 (g.2.2 71)) (G.2.1 (g.2.2 72)) (G.1 20) a0) (fun z1 z2 => ((upd (G.2.1 (g.2.2 70)) (Int32.toNatClampNeg a0) (-1 : Int32)), z1, (upd z2 (Int32.toNatClampNeg a0) (0 : Int32)), ((G.1 20) &&& (((1 : Int32) <<< (a0 &&& 31)) ^^^ (-1 : Int32))), ((G.1 21) &&& (((1 : Int32) <<< (a0 &&& 31)) ^^^ (-1 : Int32))))))) = F_X10_remove (G.2.1 (g.2.2 70)) (G.2.1 (g.2.2 71)) (G.2.1 (g.2.2 72)) (G.1 20) (G.1 21) a0 := rfl
  have hS : va_S (AF Ty s.heap.size) s.heap s.heap [] := va_S.rf
  refine lv_aload_n hx hb dX10_remove_0 rfl (lv_at hl 0 rfl) ?_
  refine lv_iload_n hx hb dX10_remove_1 rfl (lv_at hl 1 rfl) ?_
  obtain ⟨_, ⟨rfl, kq_2, kq_3, kq_4, t_9⟩, o_c_1⟩ := hH h0 _ k_h0
  refine vp_callSi (W.runV (As := [.int a0]) (rest := []) ⟨hx, hb, hml, hown, hts⟩ (c_X10_has l g Ty G h0 a0 k_h0) (cwV 1 hts (gwV mw_644 mw_604 mw_605 mw_77 mw_606) rfl rfl rfl hv_X10_has ⟨Nat.le_of_ble_eq_true rfl, Nat.le_of_ble_eq_true rfl⟩) ⟨PcH_blind, hg_recv hK o_c_1 rfl, PcH_pre hK hH⟩ rfl rfl hl.1 rfl (lv_room (Nat.le_of_ble_eq_true rfl)) dX10_remove_2 ⟨Nat.zero_le _, Nat.zero_le _⟩) (fun x_10 hx_10 => ?_)
  have rx_10 : rgI (0) (1) x_10 := hx_10.1
  try rw [← hx_10.2.2] at hv
  have ex_11 : x_10 = F_X10_has (G.1 20) a0 := hx_10.2.2
  try rw [← ex_11] at hv
  refine lv_if_eq (tgt := 55) hx hb dX10_remove_5 (by decide) (fun c_12 => ?_) (fun c_12 => ?_)
  · rw [if_pos c_12] at hv
    have r_13 : rgI (0) (0) x_10 := rg_w (rg_eq rl_0 c_12) (by decide) (by decide)
    exact W.vret hx hb hr (fun t ht hWm => ⟨⟨(Ty, G), rfl, ⟨rfl, ⟨FR.rf, hv.symm⟩⟩, by show HT g Ty G t.heap; rw [ht]; exact hH⟩, hS.F ht⟩) hS.2.2 dX10_remove_55
  · rw [if_neg c_12] at hv
    have r_14 : rgI (1) (1) x_10 := rg_w (rg_neL rx_10 rl_0 c_12) (by decide) (by decide)
    have r_15 : rgI (0) (23) a0 := rg_w (hx_10.2.1.resolve_left c_12) (by decide) (by decide)
    refine lv_aload_n hx hb dX10_remove_8 rfl (lv_at hl 0 rfl) ?_
    refine lv_iload_n hx hb dX10_remove_9 rfl (lv_at hl 1 rfl) ?_
    refine va_callv (va_runV (As := [.int a0]) (rest := []) ⟨hx, hb, hml, hown, hts⟩ (c_X10_leaveGroup l g Ty G s.heap.size h0 a0 k_h0 hD1) (cwV 1 hts (gwV mw_801 mw_802 mw_803 mw_77 mw_804) rfl rfl rfl hv_X10_leaveGroup ⟨Nat.le_of_ble_eq_true rfl, Nat.le_of_ble_eq_true rfl⟩) ⟨PcT_blind, hg_recv hK o_c_1 rfl, PcT_pre hK hH⟩ rfl rfl hl.1 rfl (lv_room (Nat.le_of_ble_eq_true rfl)) dX10_remove_10 ⟨Nat.zero_le _, Nat.zero_le _⟩) hS (fun q _ h => AF.mono hS.1 h) (fun q h => AF.mono hS.1 h) (fun ux_16 t H locs ht hvm hx_16 hB hz hk hS => ?_)
    obtain ⟨eTx_16, eGx_16⟩ := hx_16
    obtain ⟨G_17, eG_17⟩ : ∃ z, z = ux_16.2 := ⟨_, rfl⟩
    rw [← eG_17] at eGx_16
    obtain ⟨hfr_18, hex_19⟩ := eGx_16
    have fr_20 : FR [20, 21] [(g.2.2 70), (g.2.2 71), (g.2.2 72)] [] G G_17 := FR.tr FR.rf hfr_18 (by decide) (fun b h => ⟨h.2.1, h.2.2.1, trivial⟩) (by decide)
    have u_21 : G_17.1 20 = (G.1 20) := (hfr_18.1 20 (by decide))
    have u_22 : G_17.1 21 = (G.1 21) := (hfr_18.1 21 (by decide))
    have w_23 : G_17.2.1 (g.2.2 70) = (G.2.1 (g.2.2 70)) := (hfr_18.2.1 (g.2.2 70) ⟨(hD1 70 (by decide) 71 (by decide) (by decide)), (hD1 70 (by decide) 72 (by decide) (by decide)), trivial⟩)
    obtain ⟨f_24, ef_24⟩ : ∃ z : Nat → Int32, G_17.2.1 (g.2.2 71) = z := ⟨_, rfl⟩
    obtain ⟨f_25, ef_25⟩ : ∃ z : Nat → Int32, G_17.2.1 (g.2.2 72) = z := ⟨_, rfl⟩
    have hq_26 : F_X10_leaveGroup (G.2.1 (g.2.2 71)) (G.2.1 (g.2.2 72)) (G.1 20) a0 = (f_24, f_25) := by have q := hex_19; rw [ef_24, ef_25] at q; exact q
    rw [hq_26, tu2_eq] at hv
    have hH : HT g Ty G_17 H := by rw [← ht, ← eTx_16, eG_17]; exact hB
    refine lv_aload_n hx hb dX10_remove_13 rfl (lv_at hl 0 rfl) ?_
    refine lv_dup hx hb dX10_remove_14 rfl ?_
    obtain ⟨_, ⟨rfl, kq_28, kq_29, kq_30, t_35⟩, o_c_27⟩ := hH h0 _ k_h0
    refine hg_get hx hb hG igX10 hown hK o_c_27 rfl 3 (by decide) (hG _ mw_118) rfl dX10_remove_15 ?_
    rw [u_21]
    refine lv_iconst (v := 1) hx hb dX10_remove_18 (by decide) ?_
    refine lv_iload_n hx hb dX10_remove_19 rfl (lv_at hl 1 rfl) ?_
    refine lv_ishl hx hb dX10_remove_20 ?_
    refine lv_topi (fun x_36 ex_36 => ?_)
    try rw [← ex_36] at hv
    refine lv_iconst (v := (-1)) hx hb dX10_remove_21 (by decide) ?_
    refine lv_ixor hx hb dX10_remove_22 ?_
    refine lv_topi (fun x_37 ex_37 => ?_)
    try rw [← ex_37] at hv
    refine lv_iand hx hb dX10_remove_23 ?_
    refine lv_topi (fun x_38 ex_38 => ?_)
    try rw [← ex_38] at hv
    refine hg_put (ty := .int) hx hb hG igX10 tyX10 tyX10_ok nmX10 hown hK hS o_c_27 (AF.of k_h0) rfl 3 (by decide) (hG _ mw_118) rfl (by decide +kernel) rfl rfl (Nat.le_of_ble_eq_true rfl) dX10_remove_24 (fun H locs o_c_27 hz oq hS => ?_)
    obtain ⟨G_39, eG_39⟩ : ∃ z : Gh, z = gset G_17 20 x_38 := ⟨_, rfl⟩
    have hH : HT g Ty G_39 H := by rw [eG_39]; exact HT.putM 20 x_38 hH k_h0 ⟨rfl, kq_28, kq_29, kq_30, t_35⟩ o_c_27 oq (⟨⟨by decide, by decide⟩, t_35⟩)
    have fr_40 : FR [20, 21] [(g.2.2 70), (g.2.2 71), (g.2.2 72)] [] G G_39 := FR.n fr_20 eG_39 (by decide)
    have u_41 : G_39.1 21 = (G.1 21) := by rw [eG_39]; exact (gs_ne (by decide)).trans u_22
    have u_42 : G_39.1 20 = x_38 := by rw [eG_39]; exact gs_eq
    have w_43 : G_39.2.1 (g.2.2 70) = (G.2.1 (g.2.2 70)) := by rw [eG_39]; exact w_23
    have w_44 : G_39.2.1 (g.2.2 71) = f_24 := by rw [eG_39]; exact ef_24
    have w_45 : G_39.2.1 (g.2.2 72) = f_25 := by rw [eG_39]; exact ef_25
    clear oq hz
    refine lv_aload_n hx hb dX10_remove_27 rfl (lv_at hl 0 rfl) ?_
    refine lv_dup hx hb dX10_remove_28 rfl ?_
    obtain ⟨_, ⟨rfl, kq_47, kq_48, kq_49, t_54⟩, o_c_46⟩ := hH h0 _ k_h0
    refine hg_get hx hb hG igX10 hown hK o_c_46 rfl 4 (by decide) (hG _ mw_122) rfl dX10_remove_29 ?_
    rw [u_41]
    refine lv_iconst (v := 1) hx hb dX10_remove_32 (by decide) ?_
    refine lv_iload_n hx hb dX10_remove_33 rfl (lv_at hl 1 rfl) ?_
    refine lv_ishl hx hb dX10_remove_34 ?_
    refine lv_topi (fun x_55 ex_55 => ?_)
    try rw [← ex_55] at hv
    have q_56 : x_36 = x_55 := ex_36.trans ex_55.symm
    subst q_56
    refine lv_iconst (v := (-1)) hx hb dX10_remove_35 (by decide) ?_
    refine lv_ixor hx hb dX10_remove_36 ?_
    refine lv_topi (fun x_57 ex_57 => ?_)
    try rw [← ex_57] at hv
    have q_58 : x_37 = x_57 := ex_37.trans ex_57.symm
    subst q_58
    refine lv_iand hx hb dX10_remove_37 ?_
    refine lv_topi (fun x_59 ex_59 => ?_)
    try rw [← ex_59] at hv
    refine hg_put (ty := .int) hx hb hG igX10 tyX10 tyX10_ok nmX10 hown hK hS o_c_46 (AF.of k_h0) rfl 4 (by decide) (hG _ mw_122) rfl (by decide +kernel) rfl rfl (Nat.le_of_ble_eq_true rfl) dX10_remove_38 (fun H locs o_c_46 hz oq hS => ?_)
    obtain ⟨G_60, eG_60⟩ : ∃ z : Gh, z = gset G_39 21 x_59 := ⟨_, rfl⟩
    have hH : HT g Ty G_60 H := by rw [eG_60]; exact HT.putM 21 x_59 hH k_h0 ⟨rfl, kq_47, kq_48, kq_49, t_54⟩ o_c_46 oq (⟨⟨by decide, by decide⟩, t_54⟩)
    have fr_61 : FR [20, 21] [(g.2.2 70), (g.2.2 71), (g.2.2 72)] [] G G_60 := FR.n fr_40 eG_60 (by decide)
    have u_62 : G_60.1 20 = x_38 := by rw [eG_60]; exact (gs_ne (by decide)).trans u_42
    have u_63 : G_60.1 21 = x_59 := by rw [eG_60]; exact gs_eq
    have w_64 : G_60.2.1 (g.2.2 70) = (G.2.1 (g.2.2 70)) := by rw [eG_60]; exact w_43
    have w_65 : G_60.2.1 (g.2.2 71) = f_24 := by rw [eG_60]; exact w_44
    have w_66 : G_60.2.1 (g.2.2 72) = f_25 := by rw [eG_60]; exact w_45
    clear oq hz
    refine lv_aload_n hx hb dX10_remove_41 rfl (lv_at hl 0 rfl) ?_
    obtain ⟨_, ⟨rfl, kq_68, kq_69, kq_70, t_75⟩, o_c_67⟩ := hH h0 _ k_h0
    refine hg_get hx hb hG igX10 hown hK o_c_67 rfl 0 (by decide) (hG _ mw_115) rfl dX10_remove_42 ?_
    refine lv_iload_n hx hb dX10_remove_45 rfl (lv_at hl 1 rfl) ?_
    refine lv_iconst (v := (-1)) hx hb dX10_remove_46 (by decide) ?_
    obtain ⟨_, rfl, o_c_76⟩ := hH (g.2.2 70) _ kq_68
    have o_c_76 : va_at g.1 vwCl ((g.2.2 70), .inl (g.2.1 1, 24, .inl (G_60.2.1 (g.2.2 70)))) H := o_c_76
    refine hg_iast hx hb hK hS o_c_76 (AF.of kq_68) (rg_in (n := 24) r_15 (by decide) (by decide)) dX10_remove_47 (fun H locs o_c_76 hz oq hS => ?_)
    obtain ⟨G_77, eG_77⟩ : ∃ z : Gh, z = aset G_60 (g.2.2 70) (upd (G_60.2.1 (g.2.2 70)) (a0 : Int32).toNatClampNeg (-1)) := ⟨_, rfl⟩
    have hH : HT g Ty G_77 H := by rw [eG_77]; exact HT.putA (upd (G_60.2.1 (g.2.2 70)) (a0 : Int32).toNatClampNeg (-1)) hH kq_68 cf30 o_c_76 oq
    obtain ⟨f_78, ef_78⟩ : ∃ z : Nat → Int32, z = (upd (G.2.1 (g.2.2 70)) (a0 : Int32).toNatClampNeg (-1)) := ⟨_, rfl⟩
    have eaf_78 : G_77 = aset G_60 (g.2.2 70) f_78 := by rw [eG_77, ef_78, w_64]
    try rw [← ef_78] at hv
    have fr_79 : FR [20, 21] [(g.2.2 70), (g.2.2 71), (g.2.2 72)] [] G G_77 := FR.a fr_61 eaf_78 (fun b h => h.1)
    have u_80 : G_77.1 20 = x_38 := by rw [eaf_78]; exact u_62
    have u_81 : G_77.1 21 = x_59 := by rw [eaf_78]; exact u_63
    have w_82 : G_77.2.1 (g.2.2 70) = f_78 := by rw [eaf_78]; exact aset_eq
    have w_83 : G_77.2.1 (g.2.2 71) = f_24 := by rw [eaf_78]; exact (aset_ne (hD1 71 (by decide) 70 (by decide) (by decide))).trans w_65
    have w_84 : G_77.2.1 (g.2.2 72) = f_25 := by rw [eaf_78]; exact (aset_ne (hD1 72 (by decide) 70 (by decide) (by decide))).trans w_66
    clear oq hz
    refine lv_aload_n hx hb dX10_remove_48 rfl (lv_at hl 0 rfl) ?_
    obtain ⟨_, ⟨rfl, kq_86, kq_87, kq_88, t_93⟩, o_c_85⟩ := hH h0 _ k_h0
    refine hg_get hx hb hG igX10 hown hK o_c_85 rfl 2 (by decide) (hG _ mw_117) rfl dX10_remove_49 ?_
    refine lv_iload_n hx hb dX10_remove_52 rfl (lv_at hl 1 rfl) ?_
    refine lv_iconst (v := 0) hx hb dX10_remove_53 (by decide) ?_
    obtain ⟨_, rfl, o_c_94⟩ := hH (g.2.2 72) _ kq_88
    have o_c_94 : va_at g.1 vwCl ((g.2.2 72), .inl (g.2.1 1, 24, .inl (G_77.2.1 (g.2.2 72)))) H := o_c_94
    refine hg_iast hx hb hK hS o_c_94 (AF.of kq_88) (rg_in (n := 24) r_15 (by decide) (by decide)) dX10_remove_54 (fun H locs o_c_94 hz oq hS => ?_)
    obtain ⟨G_95, eG_95⟩ : ∃ z : Gh, z = aset G_77 (g.2.2 72) (upd (G_77.2.1 (g.2.2 72)) (a0 : Int32).toNatClampNeg 0) := ⟨_, rfl⟩
    have hH : HT g Ty G_95 H := by rw [eG_95]; exact HT.putA (upd (G_77.2.1 (g.2.2 72)) (a0 : Int32).toNatClampNeg 0) hH kq_88 cf30 o_c_94 oq
    obtain ⟨f_96, ef_96⟩ : ∃ z : Nat → Int32, z = (upd f_25 (a0 : Int32).toNatClampNeg 0) := ⟨_, rfl⟩
    have eaf_96 : G_95 = aset G_77 (g.2.2 72) f_96 := by rw [eG_95, ef_96, w_84]
    try rw [← ef_96] at hv
    have fr_97 : FR [20, 21] [(g.2.2 70), (g.2.2 71), (g.2.2 72)] [] G G_95 := FR.a fr_79 eaf_96 (fun b h => h.2.2.1)
    have u_98 : G_95.1 20 = x_38 := by rw [eaf_96]; exact u_80
    have u_99 : G_95.1 21 = x_59 := by rw [eaf_96]; exact u_81
    have w_100 : G_95.2.1 (g.2.2 70) = f_78 := by rw [eaf_96]; exact (aset_ne (hD1 70 (by decide) 72 (by decide) (by decide))).trans w_82
    have w_101 : G_95.2.1 (g.2.2 71) = f_24 := by rw [eaf_96]; exact (aset_ne (hD1 71 (by decide) 72 (by decide) (by decide))).trans w_83
    have w_102 : G_95.2.1 (g.2.2 72) = f_96 := by rw [eaf_96]; exact aset_eq
    clear oq hz
    exact W.vret hx hb hr (fun t ht hWm => ⟨⟨(Ty, G_95), rfl, ⟨rfl, ⟨fr_97, hv.symm.trans (by rw [w_100, w_101, w_102, u_98, u_99])⟩⟩, by show HT g Ty G_95 t.heap; rw [ht]; exact hH⟩, hS.F ht⟩) hS.2.2 dX10_remove_55

def F_X10_makePrivate (r0 : Nat → Int32) (r1 : Nat → Int32) (m20 : Int32) (m21 : Int32) (a0 : Int32) : (Nat → Int32) × (Nat → Int32) × Int32 := (if (F_X10_has m20 a0) = (0 : Int32) then (r0, r1, m21) else (tu2 (F_X10_leaveGroup r0 r1 m20 a0) (fun z3 z4 => (z3, (upd z4 (Int32.toNatClampNeg a0) (0 : Int32)), (m21 &&& (((1 : Int32) <<< (a0 &&& 31)) ^^^ (-1 : Int32)))))))
set_option maxHeartbeats 4000000 in
set_option maxRecDepth 100000 in
theorem c_X10_makePrivate (l : Launch) (g : Gx) (Ty : TyM) (G : Gh) (sz : Nat) (h0 : Nat) (a0 : Int32) (k_h0 : Ty h0 = some (24, 0)) (hD1 : LD1 g) : Met l yX10_makePrivate (wsG yX10_makePrivate cX10_makePrivate 2 none) ({ frames := 3, cells := 0, slots := 0, locals := 67 }) (PcT g Ty G sz [.ref h0, .int a0]) (QwV g Ty sz (fun u => u.1 = Ty ∧ FR [21] [(g.2.2 71), (g.2.2 72)] [] G u.2 ∧ F_X10_makePrivate (G.2.1 (g.2.2 71)) (G.2.1 (g.2.2 72)) (G.1 20) (G.1 21) a0 = ((u.2.2.1 (g.2.2 71)), (u.2.2.1 (g.2.2 72)), (u.2.1 21)))) 0 0 (AF Ty sz) := by
  refine Met.ofW (cc := cX10_makePrivate) (maxL := 2) (ret := none) (by decide) rfl ?_
  intro p e s m args below meth c s₁ B hml hv
  obtain ⟨rfl, hsz, hK, hH⟩ := hv
  subst hsz
  have hx := B.exec
  have hb := B.bytes
  have hr := B.returns
  have hts := atoms_spec (ws := (wsG yX10_makePrivate cX10_makePrivate 2 none)) B.pre
  have hG : ∀ w ∈ GW, w.before ([.ref h0, .int a0] : List Value).toArray s = true := fun w h => hts w (List.mem_cons_of_mem _ h)
  have hown : s.vm.findClass RX10 = some m.cls := findClass_of_methodNamed B.named
  have hlocks := B.notSynchronized
  have hl := lv_entry [.ref h0, .int a0] (n := 2) (Nat.le_of_ble_eq_true rfl)
  rw [lg_entry_eq]
  generalize (lg_sl [.ref h0, .int a0] ++ List.replicate (2 - (lg_sl [.ref h0, .int a0]).length) Slot.unset).toArray = ls at hl ⊢
  have hl : lv_has ls 2 [(0, .ref h0), (1, .int a0)] := hl
  have hv : (if (F_X10_has (G.1 20) a0) = (0 : Int32) then ((G.2.1 (g.2.2 71)), (G.2.1 (g.2.2 72)), (G.1 21)) else (tu2 (F_X10_leaveGroup (G.2.1 (g.2.2 71)) (G.2.1 (g.2.2 72)) (G.1 20) a0) (fun z1 z2 => (z1, (upd z2 (Int32.toNatClampNeg a0) (0 : Int32)), ((G.1 21) &&& (((1 : Int32) <<< (a0 &&& 31)) ^^^ (-1 : Int32))))))) = F_X10_makePrivate (G.2.1 (g.2.2 71)) (G.2.1 (g.2.2 72)) (G.1 20) (G.1 21) a0 := rfl
  have hS : va_S (AF Ty s.heap.size) s.heap s.heap [] := va_S.rf
  refine lv_aload_n hx hb dX10_makePrivate_0 rfl (lv_at hl 0 rfl) ?_
  refine lv_iload_n hx hb dX10_makePrivate_1 rfl (lv_at hl 1 rfl) ?_
  obtain ⟨_, ⟨rfl, kq_2, kq_3, kq_4, t_9⟩, o_c_1⟩ := hH h0 _ k_h0
  refine vp_callSi (W.runV (As := [.int a0]) (rest := []) ⟨hx, hb, hml, hown, hts⟩ (c_X10_has l g Ty G h0 a0 k_h0) (cwV 1 hts (gwV mw_644 mw_604 mw_605 mw_77 mw_606) rfl rfl rfl hv_X10_has ⟨Nat.le_of_ble_eq_true rfl, Nat.le_of_ble_eq_true rfl⟩) ⟨PcH_blind, hg_recv hK o_c_1 rfl, PcH_pre hK hH⟩ rfl rfl hl.1 rfl (lv_room (Nat.le_of_ble_eq_true rfl)) dX10_makePrivate_2 ⟨Nat.zero_le _, Nat.zero_le _⟩) (fun x_10 hx_10 => ?_)
  have rx_10 : rgI (0) (1) x_10 := hx_10.1
  try rw [← hx_10.2.2] at hv
  have ex_11 : x_10 = F_X10_has (G.1 20) a0 := hx_10.2.2
  try rw [← ex_11] at hv
  refine lv_if_eq (tgt := 34) hx hb dX10_makePrivate_5 (by decide) (fun c_12 => ?_) (fun c_12 => ?_)
  · rw [if_pos c_12] at hv
    have r_13 : rgI (0) (0) x_10 := rg_w (rg_eq rl_0 c_12) (by decide) (by decide)
    exact W.vret hx hb hr (fun t ht hWm => ⟨⟨(Ty, G), rfl, ⟨rfl, ⟨FR.rf, hv.symm⟩⟩, by show HT g Ty G t.heap; rw [ht]; exact hH⟩, hS.F ht⟩) hS.2.2 dX10_makePrivate_34
  · rw [if_neg c_12] at hv
    have r_14 : rgI (1) (1) x_10 := rg_w (rg_neL rx_10 rl_0 c_12) (by decide) (by decide)
    have r_15 : rgI (0) (23) a0 := rg_w (hx_10.2.1.resolve_left c_12) (by decide) (by decide)
    refine lv_aload_n hx hb dX10_makePrivate_8 rfl (lv_at hl 0 rfl) ?_
    refine lv_iload_n hx hb dX10_makePrivate_9 rfl (lv_at hl 1 rfl) ?_
    refine va_callv (va_runV (As := [.int a0]) (rest := []) ⟨hx, hb, hml, hown, hts⟩ (c_X10_leaveGroup l g Ty G s.heap.size h0 a0 k_h0 hD1) (cwV 1 hts (gwV mw_801 mw_802 mw_803 mw_77 mw_804) rfl rfl rfl hv_X10_leaveGroup ⟨Nat.le_of_ble_eq_true rfl, Nat.le_of_ble_eq_true rfl⟩) ⟨PcT_blind, hg_recv hK o_c_1 rfl, PcT_pre hK hH⟩ rfl rfl hl.1 rfl (lv_room (Nat.le_of_ble_eq_true rfl)) dX10_makePrivate_10 ⟨Nat.zero_le _, Nat.zero_le _⟩) hS (fun q _ h => AF.mono hS.1 h) (fun q h => AF.mono hS.1 h) (fun ux_16 t H locs ht hvm hx_16 hB hz hk hS => ?_)
    obtain ⟨eTx_16, eGx_16⟩ := hx_16
    obtain ⟨G_17, eG_17⟩ : ∃ z, z = ux_16.2 := ⟨_, rfl⟩
    rw [← eG_17] at eGx_16
    obtain ⟨hfr_18, hex_19⟩ := eGx_16
    have fr_20 : FR [21] [(g.2.2 71), (g.2.2 72)] [] G G_17 := FR.tr FR.rf hfr_18 (by decide) (fun b h => ⟨h.1, h.2.1, trivial⟩) (by decide)
    have u_21 : G_17.1 20 = (G.1 20) := (hfr_18.1 20 (by decide))
    have u_22 : G_17.1 21 = (G.1 21) := (hfr_18.1 21 (by decide))
    obtain ⟨f_23, ef_23⟩ : ∃ z : Nat → Int32, G_17.2.1 (g.2.2 71) = z := ⟨_, rfl⟩
    obtain ⟨f_24, ef_24⟩ : ∃ z : Nat → Int32, G_17.2.1 (g.2.2 72) = z := ⟨_, rfl⟩
    have hq_25 : F_X10_leaveGroup (G.2.1 (g.2.2 71)) (G.2.1 (g.2.2 72)) (G.1 20) a0 = (f_23, f_24) := by have q := hex_19; rw [ef_23, ef_24] at q; exact q
    rw [hq_25, tu2_eq] at hv
    have hH : HT g Ty G_17 H := by rw [← ht, ← eTx_16, eG_17]; exact hB
    refine lv_aload_n hx hb dX10_makePrivate_13 rfl (lv_at hl 0 rfl) ?_
    obtain ⟨_, ⟨rfl, kq_27, kq_28, kq_29, t_34⟩, o_c_26⟩ := hH h0 _ k_h0
    refine hg_get hx hb hG igX10 hown hK o_c_26 rfl 2 (by decide) (hG _ mw_117) rfl dX10_makePrivate_14 ?_
    refine lv_iload_n hx hb dX10_makePrivate_17 rfl (lv_at hl 1 rfl) ?_
    refine lv_iconst (v := 0) hx hb dX10_makePrivate_18 (by decide) ?_
    obtain ⟨_, rfl, o_c_35⟩ := hH (g.2.2 72) _ kq_29
    have o_c_35 : va_at g.1 vwCl ((g.2.2 72), .inl (g.2.1 1, 24, .inl (G_17.2.1 (g.2.2 72)))) H := o_c_35
    refine hg_iast hx hb hK hS o_c_35 (AF.of kq_29) (rg_in (n := 24) r_15 (by decide) (by decide)) dX10_makePrivate_19 (fun H locs o_c_35 hz oq hS => ?_)
    obtain ⟨G_36, eG_36⟩ : ∃ z : Gh, z = aset G_17 (g.2.2 72) (upd (G_17.2.1 (g.2.2 72)) (a0 : Int32).toNatClampNeg 0) := ⟨_, rfl⟩
    have hH : HT g Ty G_36 H := by rw [eG_36]; exact HT.putA (upd (G_17.2.1 (g.2.2 72)) (a0 : Int32).toNatClampNeg 0) hH kq_29 cf30 o_c_35 oq
    obtain ⟨f_37, ef_37⟩ : ∃ z : Nat → Int32, z = (upd f_24 (a0 : Int32).toNatClampNeg 0) := ⟨_, rfl⟩
    have eaf_37 : G_36 = aset G_17 (g.2.2 72) f_37 := by rw [eG_36, ef_37, ef_24]
    try rw [← ef_37] at hv
    have fr_38 : FR [21] [(g.2.2 71), (g.2.2 72)] [] G G_36 := FR.a fr_20 eaf_37 (fun b h => h.2.1)
    have u_39 : G_36.1 20 = (G.1 20) := by rw [eaf_37]; exact u_21
    have u_40 : G_36.1 21 = (G.1 21) := by rw [eaf_37]; exact u_22
    have w_41 : G_36.2.1 (g.2.2 71) = f_23 := by rw [eaf_37]; exact (aset_ne (hD1 71 (by decide) 72 (by decide) (by decide))).trans ef_23
    have w_42 : G_36.2.1 (g.2.2 72) = f_37 := by rw [eaf_37]; exact aset_eq
    clear oq hz
    refine lv_aload_n hx hb dX10_makePrivate_20 rfl (lv_at hl 0 rfl) ?_
    refine lv_dup hx hb dX10_makePrivate_21 rfl ?_
    obtain ⟨_, ⟨rfl, kq_44, kq_45, kq_46, t_51⟩, o_c_43⟩ := hH h0 _ k_h0
    refine hg_get hx hb hG igX10 hown hK o_c_43 rfl 4 (by decide) (hG _ mw_122) rfl dX10_makePrivate_22 ?_
    rw [u_40]
    refine lv_iconst (v := 1) hx hb dX10_makePrivate_25 (by decide) ?_
    refine lv_iload_n hx hb dX10_makePrivate_26 rfl (lv_at hl 1 rfl) ?_
    refine lv_ishl hx hb dX10_makePrivate_27 ?_
    refine lv_topi (fun x_52 ex_52 => ?_)
    try rw [← ex_52] at hv
    refine lv_iconst (v := (-1)) hx hb dX10_makePrivate_28 (by decide) ?_
    refine lv_ixor hx hb dX10_makePrivate_29 ?_
    refine lv_topi (fun x_53 ex_53 => ?_)
    try rw [← ex_53] at hv
    refine lv_iand hx hb dX10_makePrivate_30 ?_
    refine lv_topi (fun x_54 ex_54 => ?_)
    try rw [← ex_54] at hv
    refine hg_put (ty := .int) hx hb hG igX10 tyX10 tyX10_ok nmX10 hown hK hS o_c_43 (AF.of k_h0) rfl 4 (by decide) (hG _ mw_122) rfl (by decide +kernel) rfl rfl (Nat.le_of_ble_eq_true rfl) dX10_makePrivate_31 (fun H locs o_c_43 hz oq hS => ?_)
    obtain ⟨G_55, eG_55⟩ : ∃ z : Gh, z = gset G_36 21 x_54 := ⟨_, rfl⟩
    have hH : HT g Ty G_55 H := by rw [eG_55]; exact HT.putM 21 x_54 hH k_h0 ⟨rfl, kq_44, kq_45, kq_46, t_51⟩ o_c_43 oq (⟨⟨by decide, by decide⟩, t_51⟩)
    have fr_56 : FR [21] [(g.2.2 71), (g.2.2 72)] [] G G_55 := FR.n fr_38 eG_55 (by decide)
    have u_57 : G_55.1 20 = (G.1 20) := by rw [eG_55]; exact (gs_ne (by decide)).trans u_39
    have u_58 : G_55.1 21 = x_54 := by rw [eG_55]; exact gs_eq
    have w_59 : G_55.2.1 (g.2.2 71) = f_23 := by rw [eG_55]; exact w_41
    have w_60 : G_55.2.1 (g.2.2 72) = f_37 := by rw [eG_55]; exact w_42
    clear oq hz
    exact W.vret hx hb hr (fun t ht hWm => ⟨⟨(Ty, G_55), rfl, ⟨rfl, ⟨fr_56, hv.symm.trans (by rw [w_59, w_60, u_58])⟩⟩, by show HT g Ty G_55 t.heap; rw [ht]; exact hH⟩, hS.F ht⟩) hS.2.2 dX10_makePrivate_34

def F_X10_makeUnbindable (r0 : Nat → Int32) (r1 : Nat → Int32) (m20 : Int32) (m21 : Int32) (a0 : Int32) : (Nat → Int32) × (Nat → Int32) × Int32 := (if (F_X10_has m20 a0) = (0 : Int32) then (r0, r1, m21) else (tu3 (F_X10_makePrivate r0 r1 m20 m21 a0) (fun z4 z5 z6 => (z4, z5, (z6 ||| ((1 : Int32) <<< (a0 &&& 31)))))))
set_option maxHeartbeats 4000000 in
set_option maxRecDepth 100000 in
theorem c_X10_makeUnbindable (l : Launch) (g : Gx) (Ty : TyM) (G : Gh) (sz : Nat) (h0 : Nat) (a0 : Int32) (k_h0 : Ty h0 = some (24, 0)) (hD1 : LD1 g) : Met l yX10_makeUnbindable (wsG yX10_makeUnbindable cX10_makeUnbindable 2 none) ({ frames := 4, cells := 0, slots := 0, locals := 88 }) (PcT g Ty G sz [.ref h0, .int a0]) (QwV g Ty sz (fun u => u.1 = Ty ∧ FR [21] [(g.2.2 71), (g.2.2 72)] [] G u.2 ∧ F_X10_makeUnbindable (G.2.1 (g.2.2 71)) (G.2.1 (g.2.2 72)) (G.1 20) (G.1 21) a0 = ((u.2.2.1 (g.2.2 71)), (u.2.2.1 (g.2.2 72)), (u.2.1 21)))) 0 0 (AF Ty sz) := by
  refine Met.ofW (cc := cX10_makeUnbindable) (maxL := 2) (ret := none) (by decide) rfl ?_
  intro p e s m args below meth c s₁ B hml hv
  obtain ⟨rfl, hsz, hK, hH⟩ := hv
  subst hsz
  have hx := B.exec
  have hb := B.bytes
  have hr := B.returns
  have hts := atoms_spec (ws := (wsG yX10_makeUnbindable cX10_makeUnbindable 2 none)) B.pre
  have hG : ∀ w ∈ GW, w.before ([.ref h0, .int a0] : List Value).toArray s = true := fun w h => hts w (List.mem_cons_of_mem _ h)
  have hown : s.vm.findClass RX10 = some m.cls := findClass_of_methodNamed B.named
  have hlocks := B.notSynchronized
  have hl := lv_entry [.ref h0, .int a0] (n := 2) (Nat.le_of_ble_eq_true rfl)
  rw [lg_entry_eq]
  generalize (lg_sl [.ref h0, .int a0] ++ List.replicate (2 - (lg_sl [.ref h0, .int a0]).length) Slot.unset).toArray = ls at hl ⊢
  have hl : lv_has ls 2 [(0, .ref h0), (1, .int a0)] := hl
  have hv : (if (F_X10_has (G.1 20) a0) = (0 : Int32) then ((G.2.1 (g.2.2 71)), (G.2.1 (g.2.2 72)), (G.1 21)) else (tu3 (F_X10_makePrivate (G.2.1 (g.2.2 71)) (G.2.1 (g.2.2 72)) (G.1 20) (G.1 21) a0) (fun z1 z2 z3 => (z1, z2, (z3 ||| ((1 : Int32) <<< (a0 &&& 31))))))) = F_X10_makeUnbindable (G.2.1 (g.2.2 71)) (G.2.1 (g.2.2 72)) (G.1 20) (G.1 21) a0 := rfl
  have hS : va_S (AF Ty s.heap.size) s.heap s.heap [] := va_S.rf
  refine lv_aload_n hx hb dX10_makeUnbindable_0 rfl (lv_at hl 0 rfl) ?_
  refine lv_iload_n hx hb dX10_makeUnbindable_1 rfl (lv_at hl 1 rfl) ?_
  obtain ⟨_, ⟨rfl, kq_2, kq_3, kq_4, t_9⟩, o_c_1⟩ := hH h0 _ k_h0
  refine vp_callSi (W.runV (As := [.int a0]) (rest := []) ⟨hx, hb, hml, hown, hts⟩ (c_X10_has l g Ty G h0 a0 k_h0) (cwV 1 hts (gwV mw_644 mw_604 mw_605 mw_77 mw_606) rfl rfl rfl hv_X10_has ⟨Nat.le_of_ble_eq_true rfl, Nat.le_of_ble_eq_true rfl⟩) ⟨PcH_blind, hg_recv hK o_c_1 rfl, PcH_pre hK hH⟩ rfl rfl hl.1 rfl (lv_room (Nat.le_of_ble_eq_true rfl)) dX10_makeUnbindable_2 ⟨Nat.zero_le _, Nat.zero_le _⟩) (fun x_10 hx_10 => ?_)
  have rx_10 : rgI (0) (1) x_10 := hx_10.1
  try rw [← hx_10.2.2] at hv
  have ex_11 : x_10 = F_X10_has (G.1 20) a0 := hx_10.2.2
  try rw [← ex_11] at hv
  refine lv_if_eq (tgt := 25) hx hb dX10_makeUnbindable_5 (by decide) (fun c_12 => ?_) (fun c_12 => ?_)
  · rw [if_pos c_12] at hv
    have r_13 : rgI (0) (0) x_10 := rg_w (rg_eq rl_0 c_12) (by decide) (by decide)
    exact W.vret hx hb hr (fun t ht hWm => ⟨⟨(Ty, G), rfl, ⟨rfl, ⟨FR.rf, hv.symm⟩⟩, by show HT g Ty G t.heap; rw [ht]; exact hH⟩, hS.F ht⟩) hS.2.2 dX10_makeUnbindable_25
  · rw [if_neg c_12] at hv
    have r_14 : rgI (1) (1) x_10 := rg_w (rg_neL rx_10 rl_0 c_12) (by decide) (by decide)
    have r_15 : rgI (0) (23) a0 := rg_w (hx_10.2.1.resolve_left c_12) (by decide) (by decide)
    refine lv_aload_n hx hb dX10_makeUnbindable_8 rfl (lv_at hl 0 rfl) ?_
    refine lv_iload_n hx hb dX10_makeUnbindable_9 rfl (lv_at hl 1 rfl) ?_
    refine va_callv (va_runV (As := [.int a0]) (rest := []) ⟨hx, hb, hml, hown, hts⟩ (c_X10_makePrivate l g Ty G s.heap.size h0 a0 k_h0 hD1) (cwV 1 hts (gwV mw_818 mw_798 mw_799 mw_77 mw_800) rfl rfl rfl hv_X10_makePrivate ⟨Nat.le_of_ble_eq_true rfl, Nat.le_of_ble_eq_true rfl⟩) ⟨PcT_blind, hg_recv hK o_c_1 rfl, PcT_pre hK hH⟩ rfl rfl hl.1 rfl (lv_room (Nat.le_of_ble_eq_true rfl)) dX10_makeUnbindable_10 ⟨Nat.zero_le _, Nat.zero_le _⟩) hS (fun q _ h => AF.mono hS.1 h) (fun q h => AF.mono hS.1 h) (fun ux_16 t H locs ht hvm hx_16 hB hz hk hS => ?_)
    obtain ⟨eTx_16, eGx_16⟩ := hx_16
    obtain ⟨G_17, eG_17⟩ : ∃ z, z = ux_16.2 := ⟨_, rfl⟩
    rw [← eG_17] at eGx_16
    obtain ⟨hfr_18, hex_19⟩ := eGx_16
    have fr_20 : FR [21] [(g.2.2 71), (g.2.2 72)] [] G G_17 := FR.tr FR.rf hfr_18 (by decide) (fun b h => ⟨h.1, h.2.1, trivial⟩) (by decide)
    have u_21 : G_17.1 20 = (G.1 20) := (hfr_18.1 20 (by decide))
    obtain ⟨f_22, ef_22⟩ : ∃ z : Nat → Int32, G_17.2.1 (g.2.2 71) = z := ⟨_, rfl⟩
    obtain ⟨f_23, ef_23⟩ : ∃ z : Nat → Int32, G_17.2.1 (g.2.2 72) = z := ⟨_, rfl⟩
    obtain ⟨n_24, en_24⟩ : ∃ z : Int32, G_17.1 21 = z := ⟨_, rfl⟩
    have hq_25 : F_X10_makePrivate (G.2.1 (g.2.2 71)) (G.2.1 (g.2.2 72)) (G.1 20) (G.1 21) a0 = (f_22, f_23, n_24) := by have q := hex_19; rw [ef_22, ef_23, en_24] at q; exact q
    rw [hq_25, tu3_eq] at hv
    have hH : HT g Ty G_17 H := by rw [← ht, ← eTx_16, eG_17]; exact hB
    refine lv_aload_n hx hb dX10_makeUnbindable_13 rfl (lv_at hl 0 rfl) ?_
    refine lv_dup hx hb dX10_makeUnbindable_14 rfl ?_
    obtain ⟨_, ⟨rfl, kq_27, kq_28, kq_29, t_34⟩, o_c_26⟩ := hH h0 _ k_h0
    refine hg_get hx hb hG igX10 hown hK o_c_26 rfl 4 (by decide) (hG _ mw_122) rfl dX10_makeUnbindable_15 ?_
    rw [en_24]
    refine lv_iconst (v := 1) hx hb dX10_makeUnbindable_18 (by decide) ?_
    refine lv_iload_n hx hb dX10_makeUnbindable_19 rfl (lv_at hl 1 rfl) ?_
    refine lv_ishl hx hb dX10_makeUnbindable_20 ?_
    refine lv_topi (fun x_35 ex_35 => ?_)
    try rw [← ex_35] at hv
    refine lv_ior hx hb dX10_makeUnbindable_21 ?_
    refine lv_topi (fun x_36 ex_36 => ?_)
    try rw [← ex_36] at hv
    refine hg_put (ty := .int) hx hb hG igX10 tyX10 tyX10_ok nmX10 hown hK hS o_c_26 (AF.of k_h0) rfl 4 (by decide) (hG _ mw_122) rfl (by decide +kernel) rfl rfl (Nat.le_of_ble_eq_true rfl) dX10_makeUnbindable_22 (fun H locs o_c_26 hz oq hS => ?_)
    obtain ⟨G_37, eG_37⟩ : ∃ z : Gh, z = gset G_17 21 x_36 := ⟨_, rfl⟩
    have hH : HT g Ty G_37 H := by rw [eG_37]; exact HT.putM 21 x_36 hH k_h0 ⟨rfl, kq_27, kq_28, kq_29, t_34⟩ o_c_26 oq (⟨⟨by decide, by decide⟩, t_34⟩)
    have fr_38 : FR [21] [(g.2.2 71), (g.2.2 72)] [] G G_37 := FR.n fr_20 eG_37 (by decide)
    have u_39 : G_37.1 20 = (G.1 20) := by rw [eG_37]; exact (gs_ne (by decide)).trans u_21
    have u_40 : G_37.1 21 = x_36 := by rw [eG_37]; exact gs_eq
    have w_41 : G_37.2.1 (g.2.2 71) = f_22 := by rw [eG_37]; exact ef_22
    have w_42 : G_37.2.1 (g.2.2 72) = f_23 := by rw [eG_37]; exact ef_23
    clear oq hz
    exact W.vret hx hb hr (fun t ht hWm => ⟨⟨(Ty, G_37), rfl, ⟨rfl, ⟨fr_38, hv.symm.trans (by rw [w_41, w_42, u_40])⟩⟩, by show HT g Ty G_37 t.heap; rw [ht]; exact hH⟩, hS.F ht⟩) hS.2.2 dX10_makeUnbindable_25

def F_X10_makeShared (r0 : Nat → Int32) (m20 : Int32) (m21 : Int32) (m23 : Int32) (a0 : Int32) : (Nat → Int32) × Int32 × Int32 := (if (F_X10_has m20 a0) = (0 : Int32) then (r0, m21, m23) else (if (r0 (Int32.toNatClampNeg a0)) = (0 : Int32) then (tu2 (F_X10_newGroup m23) (fun z3 z4 => ((upd r0 (Int32.toNatClampNeg a0) z3), (m21 &&& (((1 : Int32) <<< (a0 &&& 31)) ^^^ (-1 : Int32))), z4))) else (r0, (m21 &&& (((1 : Int32) <<< (a0 &&& 31)) ^^^ (-1 : Int32))), m23)))
set_option maxHeartbeats 4000000 in
set_option maxRecDepth 100000 in
theorem c_X10_makeShared (l : Launch) (g : Gx) (Ty : TyM) (G : Gh) (sz : Nat) (h0 : Nat) (a0 : Int32) (k_h0 : Ty h0 = some (24, 0)) (hD1 : LD1 g) : Met l yX10_makeShared (wsG yX10_makeShared cX10_makeShared 2 none) ({ frames := 1, cells := 0, slots := 0, locals := 21 }) (PcT g Ty G sz [.ref h0, .int a0]) (QwV g Ty sz (fun u => u.1 = Ty ∧ FR [21, 23] [(g.2.2 71)] [] G u.2 ∧ F_X10_makeShared (G.2.1 (g.2.2 71)) (G.1 20) (G.1 21) (G.1 23) a0 = ((u.2.2.1 (g.2.2 71)), (u.2.1 21), (u.2.1 23)))) 0 0 (AF Ty sz) := by
  refine Met.ofW (cc := cX10_makeShared) (maxL := 2) (ret := none) (by decide) rfl ?_
  intro p e s m args below meth c s₁ B hml hv
  obtain ⟨rfl, hsz, hK, hH⟩ := hv
  subst hsz
  have hx := B.exec
  have hb := B.bytes
  have hr := B.returns
  have hts := atoms_spec (ws := (wsG yX10_makeShared cX10_makeShared 2 none)) B.pre
  have hG : ∀ w ∈ GW, w.before ([.ref h0, .int a0] : List Value).toArray s = true := fun w h => hts w (List.mem_cons_of_mem _ h)
  have hown : s.vm.findClass RX10 = some m.cls := findClass_of_methodNamed B.named
  have hlocks := B.notSynchronized
  have hl := lv_entry [.ref h0, .int a0] (n := 2) (Nat.le_of_ble_eq_true rfl)
  rw [lg_entry_eq]
  generalize (lg_sl [.ref h0, .int a0] ++ List.replicate (2 - (lg_sl [.ref h0, .int a0]).length) Slot.unset).toArray = ls at hl ⊢
  have hl : lv_has ls 2 [(0, .ref h0), (1, .int a0)] := hl
  have hv : (if (F_X10_has (G.1 20) a0) = (0 : Int32) then ((G.2.1 (g.2.2 71)), (G.1 21), (G.1 23)) else (if ((G.2.1 (g.2.2 71)) (Int32.toNatClampNeg a0)) = (0 : Int32) then (tu2 (F_X10_newGroup (G.1 23)) (fun z1 z2 => ((upd (G.2.1 (g.2.2 71)) (Int32.toNatClampNeg a0) z1), ((G.1 21) &&& (((1 : Int32) <<< (a0 &&& 31)) ^^^ (-1 : Int32))), z2))) else ((G.2.1 (g.2.2 71)), ((G.1 21) &&& (((1 : Int32) <<< (a0 &&& 31)) ^^^ (-1 : Int32))), (G.1 23)))) = F_X10_makeShared (G.2.1 (g.2.2 71)) (G.1 20) (G.1 21) (G.1 23) a0 := rfl
  have hS : va_S (AF Ty s.heap.size) s.heap s.heap [] := va_S.rf
  refine lv_aload_n hx hb dX10_makeShared_0 rfl (lv_at hl 0 rfl) ?_
  refine lv_iload_n hx hb dX10_makeShared_1 rfl (lv_at hl 1 rfl) ?_
  obtain ⟨_, ⟨rfl, kq_2, kq_3, kq_4, t_9⟩, o_c_1⟩ := hH h0 _ k_h0
  refine vp_callSi (W.runV (As := [.int a0]) (rest := []) ⟨hx, hb, hml, hown, hts⟩ (c_X10_has l g Ty G h0 a0 k_h0) (cwV 1 hts (gwV mw_644 mw_604 mw_605 mw_77 mw_606) rfl rfl rfl hv_X10_has ⟨Nat.le_of_ble_eq_true rfl, Nat.le_of_ble_eq_true rfl⟩) ⟨PcH_blind, hg_recv hK o_c_1 rfl, PcH_pre hK hH⟩ rfl rfl hl.1 rfl (lv_room (Nat.le_of_ble_eq_true rfl)) dX10_makeShared_2 ⟨Nat.zero_le _, Nat.zero_le _⟩) (fun x_10 hx_10 => ?_)
  have rx_10 : rgI (0) (1) x_10 := hx_10.1
  try rw [← hx_10.2.2] at hv
  have ex_11 : x_10 = F_X10_has (G.1 20) a0 := hx_10.2.2
  try rw [← ex_11] at hv
  refine lv_if_eq (tgt := 41) hx hb dX10_makeShared_5 (by decide) (fun c_12 => ?_) (fun c_12 => ?_)
  · rw [if_pos c_12] at hv
    have r_13 : rgI (0) (0) x_10 := rg_w (rg_eq rl_0 c_12) (by decide) (by decide)
    exact W.vret hx hb hr (fun t ht hWm => ⟨⟨(Ty, G), rfl, ⟨rfl, ⟨FR.rf, hv.symm⟩⟩, by show HT g Ty G t.heap; rw [ht]; exact hH⟩, hS.F ht⟩) hS.2.2 dX10_makeShared_41
  · rw [if_neg c_12] at hv
    have r_14 : rgI (1) (1) x_10 := rg_w (rg_neL rx_10 rl_0 c_12) (by decide) (by decide)
    have r_15 : rgI (0) (23) a0 := rg_w (hx_10.2.1.resolve_left c_12) (by decide) (by decide)
    refine lv_aload_n hx hb dX10_makeShared_8 rfl (lv_at hl 0 rfl) ?_
    refine lv_dup hx hb dX10_makeShared_9 rfl ?_
    refine hg_get hx hb hG igX10 hown hK o_c_1 rfl 4 (by decide) (hG _ mw_122) rfl dX10_makeShared_10 ?_
    refine lv_iconst (v := 1) hx hb dX10_makeShared_13 (by decide) ?_
    refine lv_iload_n hx hb dX10_makeShared_14 rfl (lv_at hl 1 rfl) ?_
    refine lv_ishl hx hb dX10_makeShared_15 ?_
    refine lv_topi (fun x_16 ex_16 => ?_)
    try rw [← ex_16] at hv
    refine lv_iconst (v := (-1)) hx hb dX10_makeShared_16 (by decide) ?_
    refine lv_ixor hx hb dX10_makeShared_17 ?_
    refine lv_topi (fun x_17 ex_17 => ?_)
    try rw [← ex_17] at hv
    refine lv_iand hx hb dX10_makeShared_18 ?_
    refine lv_topi (fun x_18 ex_18 => ?_)
    try rw [← ex_18] at hv
    refine hg_put (ty := .int) hx hb hG igX10 tyX10 tyX10_ok nmX10 hown hK hS o_c_1 (AF.of k_h0) rfl 4 (by decide) (hG _ mw_122) rfl (by decide +kernel) rfl rfl (Nat.le_of_ble_eq_true rfl) dX10_makeShared_19 (fun H locs o_c_1 hz oq hS => ?_)
    obtain ⟨G_19, eG_19⟩ : ∃ z : Gh, z = gset G 21 x_18 := ⟨_, rfl⟩
    have hH : HT g Ty G_19 H := by rw [eG_19]; exact HT.putM 21 x_18 hH k_h0 ⟨rfl, kq_2, kq_3, kq_4, t_9⟩ o_c_1 oq (⟨⟨by decide, by decide⟩, t_9⟩)
    have fr_20 : FR [21, 23] [(g.2.2 71)] [] G G_19 := FR.n FR.rf eG_19 (by decide)
    have u_21 : G_19.1 20 = (G.1 20) := by rw [eG_19]; exact (gs_ne (by decide))
    have u_22 : G_19.1 23 = (G.1 23) := by rw [eG_19]; exact (gs_ne (by decide))
    have u_23 : G_19.1 21 = x_18 := by rw [eG_19]; exact gs_eq
    have w_24 : G_19.2.1 (g.2.2 71) = (G.2.1 (g.2.2 71)) := by rw [eG_19]; exact rfl
    clear oq hz
    refine lv_aload_n hx hb dX10_makeShared_22 rfl (lv_at hl 0 rfl) ?_
    obtain ⟨_, ⟨rfl, kq_26, kq_27, kq_28, t_33⟩, o_c_25⟩ := hH h0 _ k_h0
    refine hg_get hx hb hG igX10 hown hK o_c_25 rfl 1 (by decide) (hG _ mw_116) rfl dX10_makeShared_23 ?_
    refine lv_iload_n hx hb dX10_makeShared_26 rfl (lv_at hl 1 rfl) ?_
    obtain ⟨_, rfl, o_c_34⟩ := hH (g.2.2 71) _ kq_27
    have o_c_34 : va_at g.1 vwCl ((g.2.2 71), .inl (g.2.1 1, 24, .inl (G_19.2.1 (g.2.2 71)))) H := o_c_34
    refine hg_iald hx hb hK o_c_34 (rg_in (n := 24) r_15 (by decide) (by decide)) dX10_makeShared_27 ?_
    rw [w_24]
    refine lv_topi (fun x_35 ex_35 => ?_)
    try rw [← ex_35] at hv
    refine lv_if_ne (tgt := 41) hx hb dX10_makeShared_28 (by decide) (fun c_36 => ?_) (fun c_36 => ?_)
    · rw [if_neg c_36] at hv
      exact W.vret hx hb hr (fun t ht hWm => ⟨⟨(Ty, G_19), rfl, ⟨rfl, ⟨fr_20, hv.symm.trans (by rw [w_24, u_23, u_22])⟩⟩, by show HT g Ty G_19 t.heap; rw [ht]; exact hH⟩, hS.F ht⟩) hS.2.2 dX10_makeShared_41
    · rw [if_pos c_36] at hv
      have r_37 : rgI (0) (0) x_35 := rg_w (rg_eq rl_0 c_36) (by decide) (by decide)
      refine lv_aload_n hx hb dX10_makeShared_31 rfl (lv_at hl 0 rfl) ?_
      refine hg_get hx hb hG igX10 hown hK o_c_25 rfl 1 (by decide) (hG _ mw_116) rfl dX10_makeShared_32 ?_
      refine lv_iload_n hx hb dX10_makeShared_35 rfl (lv_at hl 1 rfl) ?_
      refine lv_aload_n hx hb dX10_makeShared_36 rfl (lv_at hl 0 rfl) ?_
      refine va_calli (va_runV (As := []) (rest := [.int a0, .ref (g.2.2 71)]) ⟨hx, hb, hml, hown, hts⟩ (c_X10_newGroup l g Ty G_19 H.size h0 k_h0 hD1) (cwV 0 hts (gwV mw_809 mw_721 mw_722 mw_77 mw_723) rfl rfl rfl hv_X10_newGroup ⟨Nat.le_of_ble_eq_true rfl, Nat.le_of_ble_eq_true rfl⟩) ⟨PcT_blind, hg_recv hK o_c_25 rfl, PcT_pre hK hH⟩ rfl rfl hl.1 rfl (lv_room (Nat.le_of_ble_eq_true rfl)) dX10_makeShared_37 ⟨Nat.zero_le _, Nat.zero_le _⟩) hS (fun q _ h => AF.mono hS.1 h) (fun q h => AF.mono hS.1 h) (fun x_38 ux_38 t H locs ht hvm hx_38 hB hz hk hS => ?_)
      obtain ⟨eTx_38, eGx_38⟩ := hx_38
      obtain ⟨G_39, eG_39⟩ : ∃ z, z = ux_38.2 := ⟨_, rfl⟩
      rw [← eG_39] at eGx_38
      obtain ⟨hfr_40, hex_41⟩ := eGx_38
      have fr_42 : FR [21, 23] [(g.2.2 71)] [] G G_39 := FR.tr fr_20 hfr_40 (by decide) (fun _ _ => trivial) (by decide)
      have u_43 : G_39.1 20 = (G.1 20) := (hfr_40.1 20 (by decide)).trans u_21
      have u_44 : G_39.1 21 = x_18 := (hfr_40.1 21 (by decide)).trans u_23
      have w_45 : G_39.2.1 (g.2.2 71) = (G.2.1 (g.2.2 71)) := (hfr_40.2.1 (g.2.2 71) trivial).trans w_24
      obtain ⟨n_46, en_46⟩ : ∃ z : Int32, G_39.1 23 = z := ⟨_, rfl⟩
      have hq_47 : F_X10_newGroup (G.1 23) = (x_38, n_46) := by have q := hex_41; rw [u_22, en_46] at q; exact q
      rw [hq_47, tu2_eq] at hv
      have hH : HT g Ty G_39 H := by rw [← ht, ← eTx_38, eG_39]; exact hB
      obtain ⟨_, rfl, o_c_48⟩ := hH (g.2.2 71) _ kq_27
      have o_c_48 : va_at g.1 vwCl ((g.2.2 71), .inl (g.2.1 1, 24, .inl (G_39.2.1 (g.2.2 71)))) H := o_c_48
      refine hg_iast hx hb hK hS o_c_48 (AF.of kq_27) (rg_in (n := 24) r_15 (by decide) (by decide)) dX10_makeShared_40 (fun H locs o_c_48 hz oq hS => ?_)
      obtain ⟨G_49, eG_49⟩ : ∃ z : Gh, z = aset G_39 (g.2.2 71) (upd (G_39.2.1 (g.2.2 71)) (a0 : Int32).toNatClampNeg x_38) := ⟨_, rfl⟩
      have hH : HT g Ty G_49 H := by rw [eG_49]; exact HT.putA (upd (G_39.2.1 (g.2.2 71)) (a0 : Int32).toNatClampNeg x_38) hH kq_27 cf30 o_c_48 oq
      obtain ⟨f_50, ef_50⟩ : ∃ z : Nat → Int32, z = (upd (G.2.1 (g.2.2 71)) (a0 : Int32).toNatClampNeg x_38) := ⟨_, rfl⟩
      have eaf_50 : G_49 = aset G_39 (g.2.2 71) f_50 := by rw [eG_49, ef_50, w_45]
      try rw [← ef_50] at hv
      have fr_51 : FR [21, 23] [(g.2.2 71)] [] G G_49 := FR.a fr_42 eaf_50 (fun b h => h.1)
      have u_52 : G_49.1 20 = (G.1 20) := by rw [eaf_50]; exact u_43
      have u_53 : G_49.1 21 = x_18 := by rw [eaf_50]; exact u_44
      have u_54 : G_49.1 23 = n_46 := by rw [eaf_50]; exact en_46
      have w_55 : G_49.2.1 (g.2.2 71) = f_50 := by rw [eaf_50]; exact aset_eq
      clear oq hz
      exact W.vret hx hb hr (fun t ht hWm => ⟨⟨(Ty, G_49), rfl, ⟨rfl, ⟨fr_51, hv.symm.trans (by rw [w_55, u_53, u_54])⟩⟩, by show HT g Ty G_49 t.heap; rw [ht]; exact hH⟩, hS.F ht⟩) hS.2.2 dX10_makeShared_41

def F_X10_makeSlave (r0 : Nat → Int32) (r1 : Nat → Int32) (m20 : Int32) (a0 : Int32) : (Nat → Int32) × (Nat → Int32) := (if (F_X10_has m20 a0) = (0 : Int32) then (r0, r1) else (if (F_X10_withGroup r0 (r0 (Int32.toNatClampNeg a0))) = ((1 : Int32) <<< (a0 &&& 31)) then (tu2 (F_X10_leaveGroup r0 r1 m20 a0) (fun z7 z8 => (z7, z8))) else (tu2 (F_X10_leaveGroup r0 (upd r1 (Int32.toNatClampNeg a0) (r0 (Int32.toNatClampNeg a0))) m20 a0) (fun z9 z10 => (z9, z10)))))
set_option maxHeartbeats 4000000 in
set_option maxRecDepth 100000 in
theorem c_X10_makeSlave (l : Launch) (g : Gx) (Ty : TyM) (G : Gh) (sz : Nat) (h0 : Nat) (a0 : Int32) (k_h0 : Ty h0 = some (24, 0)) (hD1 : LD1 g) : Met l yX10_makeSlave (wsG yX10_makeSlave cX10_makeSlave 2 none) ({ frames := 3, cells := 0, slots := 0, locals := 67 }) (PcT g Ty G sz [.ref h0, .int a0]) (QwV g Ty sz (fun u => u.1 = Ty ∧ FR [] [(g.2.2 71), (g.2.2 72)] [] G u.2 ∧ F_X10_makeSlave (G.2.1 (g.2.2 71)) (G.2.1 (g.2.2 72)) (G.1 20) a0 = ((u.2.2.1 (g.2.2 71)), (u.2.2.1 (g.2.2 72))))) 0 0 (AF Ty sz) := by
  refine Met.ofW (cc := cX10_makeSlave) (maxL := 2) (ret := none) (by decide) rfl ?_
  intro p e s m args below meth c s₁ B hml hv
  obtain ⟨rfl, hsz, hK, hH⟩ := hv
  subst hsz
  have hx := B.exec
  have hb := B.bytes
  have hr := B.returns
  have hts := atoms_spec (ws := (wsG yX10_makeSlave cX10_makeSlave 2 none)) B.pre
  have hG : ∀ w ∈ GW, w.before ([.ref h0, .int a0] : List Value).toArray s = true := fun w h => hts w (List.mem_cons_of_mem _ h)
  have hown : s.vm.findClass RX10 = some m.cls := findClass_of_methodNamed B.named
  have hlocks := B.notSynchronized
  have hl := lv_entry [.ref h0, .int a0] (n := 2) (Nat.le_of_ble_eq_true rfl)
  rw [lg_entry_eq]
  generalize (lg_sl [.ref h0, .int a0] ++ List.replicate (2 - (lg_sl [.ref h0, .int a0]).length) Slot.unset).toArray = ls at hl ⊢
  have hl : lv_has ls 2 [(0, .ref h0), (1, .int a0)] := hl
  have hv : (if (F_X10_has (G.1 20) a0) = (0 : Int32) then ((G.2.1 (g.2.2 71)), (G.2.1 (g.2.2 72))) else (if (F_X10_withGroup (G.2.1 (g.2.2 71)) ((G.2.1 (g.2.2 71)) (Int32.toNatClampNeg a0))) = ((1 : Int32) <<< (a0 &&& 31)) then (tu2 (F_X10_leaveGroup (G.2.1 (g.2.2 71)) (G.2.1 (g.2.2 72)) (G.1 20) a0) (fun z3 z4 => (z3, z4))) else (tu2 (F_X10_leaveGroup (G.2.1 (g.2.2 71)) (upd (G.2.1 (g.2.2 72)) (Int32.toNatClampNeg a0) ((G.2.1 (g.2.2 71)) (Int32.toNatClampNeg a0))) (G.1 20) a0) (fun z5 z6 => (z5, z6))))) = F_X10_makeSlave (G.2.1 (g.2.2 71)) (G.2.1 (g.2.2 72)) (G.1 20) a0 := rfl
  have hS : va_S (AF Ty s.heap.size) s.heap s.heap [] := va_S.rf
  have L_36 : ∀ (H : Heap) (locs : List Loc) (G_36 : Gh) (fl0_36 : Nat → Int32) (fl1_36 : Nat → Int32) (ls : Array Slot), FR [] [(g.2.2 71), (g.2.2 72)] [] G G_36 → G_36.2.1 (g.2.2 71) = fl0_36 → G_36.2.1 (g.2.2 72) = fl1_36 → rgI (0) (23) a0 → lv_has ls 2 [(0, .ref h0), (1, .int a0)] → (tu2 (F_X10_leaveGroup fl0_36 fl1_36 (G.1 20) a0) (fun z1 z2 => (z1, z2))) = F_X10_makeSlave (G.2.1 (g.2.2 71)) (G.2.1 (g.2.2 72)) (G.1 20) a0 → HT g Ty G_36 H → va_S (AF Ty s.heap.size) s.heap H locs → Wm p l e (wsG yX10_makeSlave cX10_makeSlave 2 none) ({ frames := 3, cells := 0, slots := 0, locals := 67 }) s m [.ref h0, .int a0] below meth c H locs (0) (0) (QwV g Ty s.heap.size (fun u => u.1 = Ty ∧ FR [] [(g.2.2 71), (g.2.2 72)] [] G u.2 ∧ F_X10_makeSlave (G.2.1 (g.2.2 71)) (G.2.1 (g.2.2 72)) (G.1 20) a0 = ((u.2.2.1 (g.2.2 71)), (u.2.2.1 (g.2.2 72))))) 0 0 (AF Ty s.heap.size) (F0 m 36 ls []) := by
    intro H locs G_36 fl0_36 fl1_36 ls frL_36 efl0_36 efl1_36 ry1_36 hl hv hH hS
    refine lv_aload_n hx hb dX10_makeSlave_36 rfl (lv_at hl 0 rfl) ?_
    refine lv_iload_n hx hb dX10_makeSlave_37 rfl (lv_at hl 1 rfl) ?_
    obtain ⟨_, ⟨rfl, kq_2, kq_3, kq_4, t_9⟩, o_c_1⟩ := hH h0 _ k_h0
    refine va_callv (va_runV (As := [.int a0]) (rest := []) ⟨hx, hb, hml, hown, hts⟩ (c_X10_leaveGroup l g Ty G_36 H.size h0 a0 k_h0 hD1) (cwV 1 hts (gwV mw_801 mw_802 mw_803 mw_77 mw_804) rfl rfl rfl hv_X10_leaveGroup ⟨Nat.le_of_ble_eq_true rfl, Nat.le_of_ble_eq_true rfl⟩) ⟨PcT_blind, hg_recv hK o_c_1 rfl, PcT_pre hK hH⟩ rfl rfl hl.1 rfl (lv_room (Nat.le_of_ble_eq_true rfl)) dX10_makeSlave_38 ⟨Nat.zero_le _, Nat.zero_le _⟩) hS (fun q _ h => AF.mono hS.1 h) (fun q h => AF.mono hS.1 h) (fun ux_10 t H locs ht hvm hx_10 hB hz hk hS => ?_)
    obtain ⟨eTx_10, eGx_10⟩ := hx_10
    obtain ⟨G_11, eG_11⟩ : ∃ z, z = ux_10.2 := ⟨_, rfl⟩
    rw [← eG_11] at eGx_10
    obtain ⟨hfr_12, hex_13⟩ := eGx_10
    have fr_14 : FR [] [(g.2.2 71), (g.2.2 72)] [] G G_11 := FR.tr frL_36 hfr_12 (by decide) (fun b h => ⟨h.1, h.2.1, trivial⟩) (by decide)
    have u_15 : G_11.1 20 = (G.1 20) := (hfr_12.1 20 (by decide)).trans (frL_36.1 20 (by decide))
    obtain ⟨f_16, ef_16⟩ : ∃ z : Nat → Int32, G_11.2.1 (g.2.2 71) = z := ⟨_, rfl⟩
    obtain ⟨f_17, ef_17⟩ : ∃ z : Nat → Int32, G_11.2.1 (g.2.2 72) = z := ⟨_, rfl⟩
    have hq_18 : F_X10_leaveGroup fl0_36 fl1_36 (G.1 20) a0 = (f_16, f_17) := by have q := hex_13; rw [efl0_36, efl1_36, (frL_36.1 20 (by decide)), ef_16, ef_17] at q; exact q
    rw [hq_18, tu2_eq] at hv
    have hH : HT g Ty G_11 H := by rw [← ht, ← eTx_10, eG_11]; exact hB
    exact W.vret hx hb hr (fun t ht hWm => ⟨⟨(Ty, G_11), rfl, ⟨rfl, ⟨fr_14, hv.symm.trans (by rw [ef_16, ef_17])⟩⟩, by show HT g Ty G_11 t.heap; rw [ht]; exact hH⟩, hS.F ht⟩) hS.2.2 dX10_makeSlave_41
  refine lv_aload_n hx hb dX10_makeSlave_0 rfl (lv_at hl 0 rfl) ?_
  refine lv_iload_n hx hb dX10_makeSlave_1 rfl (lv_at hl 1 rfl) ?_
  obtain ⟨_, ⟨rfl, kq_20, kq_21, kq_22, t_27⟩, o_c_19⟩ := hH h0 _ k_h0
  refine vp_callSi (W.runV (As := [.int a0]) (rest := []) ⟨hx, hb, hml, hown, hts⟩ (c_X10_has l g Ty G h0 a0 k_h0) (cwV 1 hts (gwV mw_644 mw_604 mw_605 mw_77 mw_606) rfl rfl rfl hv_X10_has ⟨Nat.le_of_ble_eq_true rfl, Nat.le_of_ble_eq_true rfl⟩) ⟨PcH_blind, hg_recv hK o_c_19 rfl, PcH_pre hK hH⟩ rfl rfl hl.1 rfl (lv_room (Nat.le_of_ble_eq_true rfl)) dX10_makeSlave_2 ⟨Nat.zero_le _, Nat.zero_le _⟩) (fun x_28 hx_28 => ?_)
  have rx_28 : rgI (0) (1) x_28 := hx_28.1
  try rw [← hx_28.2.2] at hv
  have ex_29 : x_28 = F_X10_has (G.1 20) a0 := hx_28.2.2
  try rw [← ex_29] at hv
  refine lv_if_eq (tgt := 41) hx hb dX10_makeSlave_5 (by decide) (fun c_30 => ?_) (fun c_30 => ?_)
  · rw [if_pos c_30] at hv
    have r_31 : rgI (0) (0) x_28 := rg_w (rg_eq rl_0 c_30) (by decide) (by decide)
    exact W.vret hx hb hr (fun t ht hWm => ⟨⟨(Ty, G), rfl, ⟨rfl, ⟨FR.rf, hv.symm⟩⟩, by show HT g Ty G t.heap; rw [ht]; exact hH⟩, hS.F ht⟩) hS.2.2 dX10_makeSlave_41
  · rw [if_neg c_30] at hv
    have r_32 : rgI (1) (1) x_28 := rg_w (rg_neL rx_28 rl_0 c_30) (by decide) (by decide)
    have r_33 : rgI (0) (23) a0 := rg_w (hx_28.2.1.resolve_left c_30) (by decide) (by decide)
    refine lv_aload_n hx hb dX10_makeSlave_8 rfl (lv_at hl 0 rfl) ?_
    refine lv_aload_n hx hb dX10_makeSlave_9 rfl (lv_at hl 0 rfl) ?_
    refine hg_get hx hb hG igX10 hown hK o_c_19 rfl 1 (by decide) (hG _ mw_116) rfl dX10_makeSlave_10 ?_
    refine lv_iload_n hx hb dX10_makeSlave_13 rfl (lv_at hl 1 rfl) ?_
    obtain ⟨_, rfl, o_c_34⟩ := hH (g.2.2 71) _ kq_21
    have o_c_34 : va_at g.1 vwCl ((g.2.2 71), .inl (g.2.1 1, 24, .inl (G.2.1 (g.2.2 71)))) s.heap := o_c_34
    refine hg_iald hx hb hK o_c_34 (rg_in (n := 24) r_33 (by decide) (by decide)) dX10_makeSlave_14 ?_
    refine lv_topi (fun x_35 ex_35 => ?_)
    try rw [← ex_35] at hv
    refine vp_callSi (W.runV (As := [.int x_35]) (rest := []) ⟨hx, hb, hml, hown, hts⟩ (c_X10_withGroup l g Ty G h0 x_35 k_h0) (cwV 1 hts (gwV mw_658 mw_659 mw_660 mw_77 mw_661) rfl rfl rfl hv_X10_withGroup ⟨Nat.le_of_ble_eq_true rfl, Nat.le_of_ble_eq_true rfl⟩) ⟨PcH_blind, hg_recv hK o_c_19 rfl, PcH_pre hK hH⟩ rfl rfl hl.1 rfl (lv_room (Nat.le_of_ble_eq_true rfl)) dX10_makeSlave_15 ⟨Nat.zero_le _, Nat.zero_le _⟩) (fun x_36 hx_36 => ?_)
    try rw [← hx_36] at hv
    have ex_37 : x_36 = F_X10_withGroup (G.2.1 (g.2.2 71)) x_35 := hx_36
    try rw [← ex_37] at hv
    refine lv_iconst (v := 1) hx hb dX10_makeSlave_18 (by decide) ?_
    refine lv_iload_n hx hb dX10_makeSlave_19 rfl (lv_at hl 1 rfl) ?_
    refine lv_ishl hx hb dX10_makeSlave_20 ?_
    refine lv_topi (fun x_38 ex_38 => ?_)
    try rw [← ex_38] at hv
    refine lv_icmp_eq (tgt := 36) hx hb dX10_makeSlave_21 (by decide) (fun c_39 => ?_) (fun c_39 => ?_)
    · rw [if_pos c_39] at hv
      exact L_36 s.heap [] G (G.2.1 (g.2.2 71)) (G.2.1 (g.2.2 72)) ls FR.rf rfl rfl r_33 (lv_sub hl [0, 1] rfl) hv hH hS
    · rw [if_neg c_39] at hv
      refine lv_aload_n hx hb dX10_makeSlave_24 rfl (lv_at hl 0 rfl) ?_
      refine hg_get hx hb hG igX10 hown hK o_c_19 rfl 2 (by decide) (hG _ mw_117) rfl dX10_makeSlave_25 ?_
      refine lv_iload_n hx hb dX10_makeSlave_28 rfl (lv_at hl 1 rfl) ?_
      refine lv_aload_n hx hb dX10_makeSlave_29 rfl (lv_at hl 0 rfl) ?_
      refine hg_get hx hb hG igX10 hown hK o_c_19 rfl 1 (by decide) (hG _ mw_116) rfl dX10_makeSlave_30 ?_
      refine lv_iload_n hx hb dX10_makeSlave_33 rfl (lv_at hl 1 rfl) ?_
      refine hg_iald hx hb hK o_c_34 (rg_in (n := 24) r_33 (by decide) (by decide)) dX10_makeSlave_34 ?_
      refine lv_topi (fun x_40 ex_40 => ?_)
      try rw [← ex_40] at hv
      have q_41 : x_35 = x_40 := ex_35.trans ex_40.symm
      subst q_41
      obtain ⟨_, rfl, o_c_42⟩ := hH (g.2.2 72) _ kq_22
      have o_c_42 : va_at g.1 vwCl ((g.2.2 72), .inl (g.2.1 1, 24, .inl (G.2.1 (g.2.2 72)))) s.heap := o_c_42
      refine hg_iast hx hb hK hS o_c_42 (AF.of kq_22) (rg_in (n := 24) r_33 (by decide) (by decide)) dX10_makeSlave_35 (fun H locs o_c_42 hz oq hS => ?_)
      obtain ⟨G_43, eG_43⟩ : ∃ z : Gh, z = aset G (g.2.2 72) (upd (G.2.1 (g.2.2 72)) (a0 : Int32).toNatClampNeg x_35) := ⟨_, rfl⟩
      have hH : HT g Ty G_43 H := by rw [eG_43]; exact HT.putA (upd (G.2.1 (g.2.2 72)) (a0 : Int32).toNatClampNeg x_35) hH kq_22 cf30 o_c_42 oq
      obtain ⟨f_44, ef_44⟩ : ∃ z : Nat → Int32, z = (upd (G.2.1 (g.2.2 72)) (a0 : Int32).toNatClampNeg x_35) := ⟨_, rfl⟩
      have eaf_44 : G_43 = aset G (g.2.2 72) f_44 := by rw [eG_43, ef_44]
      try rw [← ef_44] at hv
      have fr_45 : FR [] [(g.2.2 71), (g.2.2 72)] [] G G_43 := FR.a FR.rf eaf_44 (fun b h => h.2.1)
      have u_46 : G_43.1 20 = (G.1 20) := by rw [eaf_44]; exact rfl
      have w_47 : G_43.2.1 (g.2.2 71) = (G.2.1 (g.2.2 71)) := by rw [eaf_44]; exact (aset_ne (hD1 71 (by decide) 72 (by decide) (by decide)))
      have w_48 : G_43.2.1 (g.2.2 72) = f_44 := by rw [eaf_44]; exact aset_eq
      clear oq hz
      exact L_36 H locs G_43 (G.2.1 (g.2.2 71)) f_44 ls fr_45 w_47 w_48 r_33 (lv_sub hl [0, 1] rfl) hv hH hS

set_option maxHeartbeats 4000000 in
set_option maxRecDepth 100000 in
theorem c_X10_take_n (l : Launch) (g : Gx) (Ty : TyM) (G : Gh) (sz : Nat) (h0 : Nat) (b0 : Nat) (k_h0 : Ty h0 = some (20, 0)) (k_b0 : Ty b0 = some (24, 0)) : Met l yX10_take (wsG yX10_take cX10_take 3 none) ({ frames := 0, cells := 0, slots := 0, locals := 0 }) (PcT g Ty G sz [.ref h0, .ref b0]) (QwV g Ty sz (fun u => u = (Ty, G))) 0 0 (AF Ty sz) := by
  refine Met.ofW (cc := cX10_take) (maxL := 3) (ret := none) (by decide) rfl ?_
  intro p e s m args below meth c s₁ B hml hv
  obtain ⟨rfl, hsz, hK, hH⟩ := hv
  subst hsz
  have hx := B.exec
  have hb := B.bytes
  have hr := B.returns
  have hts := atoms_spec (ws := (wsG yX10_take cX10_take 3 none)) B.pre
  have hG : ∀ w ∈ GW, w.before ([.ref h0, .ref b0] : List Value).toArray s = true := fun w h => hts w (List.mem_cons_of_mem _ h)
  have hown : s.vm.findClass RX10 = some m.cls := findClass_of_methodNamed B.named
  have hlocks := B.notSynchronized
  have hl := lv_entry [.ref h0, .ref b0] (n := 3) (Nat.le_of_ble_eq_true rfl)
  rw [lg_entry_eq]
  generalize (lg_sl [.ref h0, .ref b0] ++ List.replicate (3 - (lg_sl [.ref h0, .ref b0]).length) Slot.unset).toArray = ls at hl ⊢
  have hl : lv_has ls 3 [(0, .ref h0), (1, .ref b0)] := hl
  have hS : va_S (AF Ty s.heap.size) s.heap s.heap [] := va_S.rf
  have L_2 : ∀ (n : Nat) (H : Heap) (locs : List Loc) (y2_2 : Int32) (ls : Array Slot), rgI (0) (24) y2_2 → (24 - (y2_2).toInt).toNat < n → lv_has ls 3 [(0, .ref h0), (1, .ref b0), (2, .int y2_2)] → HT g Ty G H → va_S (AF Ty s.heap.size) s.heap H locs → Wm p l e (wsG yX10_take cX10_take 3 none) ({ frames := 0, cells := 0, slots := 0, locals := 0 }) s m [.ref h0, .ref b0] below meth c H locs (0) (0) (QwV g Ty s.heap.size (fun u => u = (Ty, G))) 0 0 (AF Ty s.heap.size) (F0 m 2 ls []) := by
    intro n
    induction n with
    | zero => intro H locs y2_2 ls ry2_2 hm; exact absurd hm (Nat.not_lt_zero _)
    | succ n ih_2 =>
      intro H locs y2_2 ls ry2_2 hm_2 hl hH hS
      refine lv_iload_n hx hb dX10_take_2 rfl (lv_at hl 2 rfl) ?_
      refine lv_bipush (v := 24) hx hb dX10_take_3 (by decide) ?_
      refine lv_icmp_ge (tgt := 50) hx hb dX10_take_5 (by decide) (fun c_1 => ?_) (fun c_1 => ?_)
      · have r_2 : rgI (24) (24) y2_2 := rg_w (rg_leR rl_24 ry2_2 c_1) (by decide) (by decide)
        refine lv_aload_n hx hb dX10_take_50 rfl (lv_at hl 0 rfl) ?_
        refine lv_aload_n hx hb dX10_take_51 rfl (lv_at hl 1 rfl) ?_
        obtain ⟨_, ⟨rfl, kq_4, kq_5, kq_6, t_11⟩, o_c_3⟩ := hH b0 _ k_b0
        refine hg_get hx hb hG igX10 hown hK o_c_3 rfl 3 (by decide) (hG _ mw_118) rfl dX10_take_52 ?_
        obtain ⟨_, ⟨q_13, q_14, q_15, q_16, q_17, q_18, q_19, rfl, kq_13, kq_14, kq_15⟩, o_c_12⟩ := hH h0 _ k_h0
        refine hg_put (ty := .int) hx hb hG igX10 tyX10 tyX10_ok nmX10 hown hK hS o_c_12 (AF.of k_h0) rfl 3 (by decide) (hG _ mw_118) rfl (by decide +kernel) rfl rfl (Nat.le_of_ble_eq_true rfl) dX10_take_55 (fun H locs o_c_12 hz oq hS => ?_)
        have o_c_12 : va_at g.1 vwCl (h0, .inr (10, [.ref q_13, .ref q_14, .ref q_15, .int (G.1 20), .int q_17, .int q_18, .int q_19])) H := o_c_12
        have hH : HT g Ty G H := hH.put k_h0 ⟨q_13, q_14, q_15, (G.1 20), q_17, q_18, q_19, rfl, kq_13, kq_14, kq_15⟩ o_c_12 oq
        have o_c_3 := o_c_3.kept (oq _ (ne_kd k_b0 k_h0 (by decide)))
        clear oq hz
        refine lv_aload_n hx hb dX10_take_58 rfl (lv_at hl 0 rfl) ?_
        refine lv_aload_n hx hb dX10_take_59 rfl (lv_at hl 1 rfl) ?_
        refine hg_get hx hb hG igX10 hown hK o_c_3 rfl 4 (by decide) (hG _ mw_122) rfl dX10_take_60 ?_
        refine hg_put (ty := .int) hx hb hG igX10 tyX10 tyX10_ok nmX10 hown hK hS o_c_12 (AF.of k_h0) rfl 4 (by decide) (hG _ mw_122) rfl (by decide +kernel) rfl rfl (Nat.le_of_ble_eq_true rfl) dX10_take_63 (fun H locs o_c_12 hz oq hS => ?_)
        have o_c_12 : va_at g.1 vwCl (h0, .inr (10, [.ref q_13, .ref q_14, .ref q_15, .int (G.1 20), .int (G.1 21), .int q_18, .int q_19])) H := o_c_12
        have hH : HT g Ty G H := hH.put k_h0 ⟨q_13, q_14, q_15, (G.1 20), (G.1 21), q_18, q_19, rfl, kq_13, kq_14, kq_15⟩ o_c_12 oq
        have o_c_3 := o_c_3.kept (oq _ (ne_kd k_b0 k_h0 (by decide)))
        clear oq hz
        refine lv_aload_n hx hb dX10_take_66 rfl (lv_at hl 0 rfl) ?_
        refine lv_aload_n hx hb dX10_take_67 rfl (lv_at hl 1 rfl) ?_
        refine hg_get hx hb hG igX10 hown hK o_c_3 rfl 5 (by decide) (hG _ mw_124) rfl dX10_take_68 ?_
        refine hg_put (ty := .int) hx hb hG igX10 tyX10 tyX10_ok nmX10 hown hK hS o_c_12 (AF.of k_h0) rfl 5 (by decide) (hG _ mw_124) rfl (by decide +kernel) rfl rfl (Nat.le_of_ble_eq_true rfl) dX10_take_71 (fun H locs o_c_12 hz oq hS => ?_)
        have o_c_12 : va_at g.1 vwCl (h0, .inr (10, [.ref q_13, .ref q_14, .ref q_15, .int (G.1 20), .int (G.1 21), .int (G.1 22), .int q_19])) H := o_c_12
        have hH : HT g Ty G H := hH.put k_h0 ⟨q_13, q_14, q_15, (G.1 20), (G.1 21), (G.1 22), q_19, rfl, kq_13, kq_14, kq_15⟩ o_c_12 oq
        have o_c_3 := o_c_3.kept (oq _ (ne_kd k_b0 k_h0 (by decide)))
        clear oq hz
        refine lv_aload_n hx hb dX10_take_74 rfl (lv_at hl 0 rfl) ?_
        refine lv_aload_n hx hb dX10_take_75 rfl (lv_at hl 1 rfl) ?_
        refine hg_get hx hb hG igX10 hown hK o_c_3 rfl 6 (by decide) (hG _ mw_128) rfl dX10_take_76 ?_
        refine hg_put (ty := .int) hx hb hG igX10 tyX10 tyX10_ok nmX10 hown hK hS o_c_12 (AF.of k_h0) rfl 6 (by decide) (hG _ mw_128) rfl (by decide +kernel) rfl rfl (Nat.le_of_ble_eq_true rfl) dX10_take_79 (fun H locs o_c_12 hz oq hS => ?_)
        have o_c_12 : va_at g.1 vwCl (h0, .inr (10, [.ref q_13, .ref q_14, .ref q_15, .int (G.1 20), .int (G.1 21), .int (G.1 22), .int (G.1 23)])) H := o_c_12
        have hH : HT g Ty G H := hH.put k_h0 ⟨q_13, q_14, q_15, (G.1 20), (G.1 21), (G.1 22), (G.1 23), rfl, kq_13, kq_14, kq_15⟩ o_c_12 oq
        have o_c_3 := o_c_3.kept (oq _ (ne_kd k_b0 k_h0 (by decide)))
        clear oq hz
        exact W.vret hx hb hr (fun t ht hWm => ⟨⟨(Ty, G), rfl, rfl, by show HT g Ty G t.heap; rw [ht]; exact hH⟩, hS.F ht⟩) hS.2.2 dX10_take_82
      · have r_20 : rgI (0) (23) y2_2 := rg_w (rg_ltL ry2_2 rl_24 (nle_lt c_1)) (by decide) (by decide)
        refine lv_aload_n hx hb dX10_take_8 rfl (lv_at hl 0 rfl) ?_
        obtain ⟨_, ⟨q_22, q_23, q_24, q_25, q_26, q_27, q_28, rfl, kq_22, kq_23, kq_24⟩, o_c_21⟩ := hH h0 _ k_h0
        refine hg_get hx hb hG igX10 hown hK o_c_21 rfl 0 (by decide) (hG _ mw_115) rfl dX10_take_9 ?_
        refine lv_iload_n hx hb dX10_take_12 rfl (lv_at hl 2 rfl) ?_
        refine lv_aload_n hx hb dX10_take_13 rfl (lv_at hl 1 rfl) ?_
        obtain ⟨_, ⟨rfl, kq_30, kq_31, kq_32, t_37⟩, o_c_29⟩ := hH b0 _ k_b0
        refine hg_get hx hb hG igX10 hown hK o_c_29 rfl 0 (by decide) (hG _ mw_115) rfl dX10_take_14 ?_
        refine lv_iload_n hx hb dX10_take_17 rfl (lv_at hl 2 rfl) ?_
        obtain ⟨_, rfl, o_c_38⟩ := hH (g.2.2 70) _ kq_30
        have o_c_38 : va_at g.1 vwCl ((g.2.2 70), .inl (g.2.1 1, 24, .inl (G.2.1 (g.2.2 70)))) H := o_c_38
        refine hg_iald hx hb hK o_c_38 (rg_in (n := 24) r_20 (by decide) (by decide)) dX10_take_18 ?_
        refine lv_topi (fun x_39 ex_39 => ?_)
        obtain ⟨_, ⟨f_41, rfl⟩, o_c_40⟩ := hH q_22 _ kq_22
        refine hg_iast hx hb hK hS o_c_40 (AF.of kq_22) (rg_in (n := 24) r_20 (by decide) (by decide)) dX10_take_19 (fun H locs o_c_40 hz oq hS => ?_)
        generalize hff_42 : upd f_41 _ x_39 = f_42 at o_c_40
        have hH : HT g Ty G H := hH.put kq_22 ⟨_, rfl⟩ o_c_40 oq
        have o_c_21 := o_c_21.kept (oq _ (ne_kd k_h0 kq_22 (by decide)))
        have o_c_29 := o_c_29.kept (oq _ (ne_kd k_b0 kq_22 (by decide)))
        have o_c_38 := o_c_38.kept (oq _ (ne_kd kq_30 kq_22 (by decide)))
        clear oq hz
        refine lv_aload_n hx hb dX10_take_20 rfl (lv_at hl 0 rfl) ?_
        refine hg_get hx hb hG igX10 hown hK o_c_21 rfl 1 (by decide) (hG _ mw_116) rfl dX10_take_21 ?_
        refine lv_iload_n hx hb dX10_take_24 rfl (lv_at hl 2 rfl) ?_
        refine lv_aload_n hx hb dX10_take_25 rfl (lv_at hl 1 rfl) ?_
        refine hg_get hx hb hG igX10 hown hK o_c_29 rfl 1 (by decide) (hG _ mw_116) rfl dX10_take_26 ?_
        refine lv_iload_n hx hb dX10_take_29 rfl (lv_at hl 2 rfl) ?_
        obtain ⟨_, rfl, o_c_43⟩ := hH (g.2.2 71) _ kq_31
        have o_c_43 : va_at g.1 vwCl ((g.2.2 71), .inl (g.2.1 1, 24, .inl (G.2.1 (g.2.2 71)))) H := o_c_43
        refine hg_iald hx hb hK o_c_43 (rg_in (n := 24) r_20 (by decide) (by decide)) dX10_take_30 ?_
        refine lv_topi (fun x_44 ex_44 => ?_)
        obtain ⟨_, ⟨f_46, rfl⟩, o_c_45⟩ := hH q_23 _ kq_23
        refine hg_iast hx hb hK hS o_c_45 (AF.of kq_23) (rg_in (n := 24) r_20 (by decide) (by decide)) dX10_take_31 (fun H locs o_c_45 hz oq hS => ?_)
        generalize hff_47 : upd f_46 _ x_44 = f_47 at o_c_45
        have hH : HT g Ty G H := hH.put kq_23 ⟨_, rfl⟩ o_c_45 oq
        have o_c_21 := o_c_21.kept (oq _ (ne_kd k_h0 kq_23 (by decide)))
        have o_c_29 := o_c_29.kept (oq _ (ne_kd k_b0 kq_23 (by decide)))
        have o_c_38 := o_c_38.kept (oq _ (ne_kd kq_30 kq_23 (by decide)))
        have o_c_43 := o_c_43.kept (oq _ (ne_kd kq_31 kq_23 (by decide)))
        clear oq hz
        refine lv_aload_n hx hb dX10_take_32 rfl (lv_at hl 0 rfl) ?_
        refine hg_get hx hb hG igX10 hown hK o_c_21 rfl 2 (by decide) (hG _ mw_117) rfl dX10_take_33 ?_
        refine lv_iload_n hx hb dX10_take_36 rfl (lv_at hl 2 rfl) ?_
        refine lv_aload_n hx hb dX10_take_37 rfl (lv_at hl 1 rfl) ?_
        refine hg_get hx hb hG igX10 hown hK o_c_29 rfl 2 (by decide) (hG _ mw_117) rfl dX10_take_38 ?_
        refine lv_iload_n hx hb dX10_take_41 rfl (lv_at hl 2 rfl) ?_
        obtain ⟨_, rfl, o_c_48⟩ := hH (g.2.2 72) _ kq_32
        have o_c_48 : va_at g.1 vwCl ((g.2.2 72), .inl (g.2.1 1, 24, .inl (G.2.1 (g.2.2 72)))) H := o_c_48
        refine hg_iald hx hb hK o_c_48 (rg_in (n := 24) r_20 (by decide) (by decide)) dX10_take_42 ?_
        refine lv_topi (fun x_49 ex_49 => ?_)
        obtain ⟨_, ⟨f_51, rfl⟩, o_c_50⟩ := hH q_24 _ kq_24
        refine hg_iast hx hb hK hS o_c_50 (AF.of kq_24) (rg_in (n := 24) r_20 (by decide) (by decide)) dX10_take_43 (fun H locs o_c_50 hz oq hS => ?_)
        generalize hff_52 : upd f_51 _ x_49 = f_52 at o_c_50
        have hH : HT g Ty G H := hH.put kq_24 ⟨_, rfl⟩ o_c_50 oq
        have o_c_21 := o_c_21.kept (oq _ (ne_kd k_h0 kq_24 (by decide)))
        have o_c_29 := o_c_29.kept (oq _ (ne_kd k_b0 kq_24 (by decide)))
        have o_c_38 := o_c_38.kept (oq _ (ne_kd kq_30 kq_24 (by decide)))
        have o_c_43 := o_c_43.kept (oq _ (ne_kd kq_31 kq_24 (by decide)))
        have o_c_48 := o_c_48.kept (oq _ (ne_kd kq_32 kq_24 (by decide)))
        clear oq hz
        obtain ⟨x_53, ex_53⟩ : ∃ y : Int32, y = y2_2 + 1 := ⟨_, rfl⟩
        have rx_53 : rgI (1) (24) x_53 := by rw [ex_53]; exact rg_w (rg_add r_20 rl_1 (by decide) (by decide)) (by decide) (by decide)
        have qx_53 : x_53.toInt = (y2_2 : Int32).toInt + 1 := by rw [ex_53]; exact rg_addE r_20 rl_1 (by decide) (by decide)
        refine lv_iinc (v := x_53) (lv' := [(2, .int x_53), (0, .ref h0), (1, .ref b0)]) hx hb dX10_take_44 hl (k := 2) rfl (by rw [ex_53]; rfl) (by decide) rfl (fun ls hl => ?_)
        refine lv_goto (tgt := 2) hx hb dX10_take_47 (by decide) ?_
        exact ih_2 H locs x_53 ls (rg_w rx_53 (by decide) (by decide)) (by have h1 := qx_53; have h2 := r_20.1; have h3 := r_20.2; have h4 := hm_2; omega) (lv_sub hl [1, 2, 0] rfl) hH hS
  refine lv_iconst (v := 0) hx hb dX10_take_0 (by decide) ?_
  refine lv_istore_n (lv' := [(2, .int 0), (0, .ref h0), (1, .ref b0)]) hx hb dX10_take_1 rfl hl (by decide) rfl (fun ls hl => ?_)
  exact L_2 _ s.heap [] 0 ls (rg_w rl_0 (by decide) (by decide)) (Nat.lt_succ_self _) (lv_sub hl [1, 2, 0] rfl) hH hS
