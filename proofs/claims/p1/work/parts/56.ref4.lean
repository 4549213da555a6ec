def F_X12_newGroup (f0 : Nat → Int32) : Int32 × (Nat → Int32) := ((((upd f0 (Int32.toNatClampNeg (121 : Int32)) ((f0 (Int32.toNatClampNeg (121 : Int32))) + (1 : Int32))) (Int32.toNatClampNeg (121 : Int32))) - (1 : Int32)), (upd f0 (Int32.toNatClampNeg (121 : Int32)) ((f0 (Int32.toNatClampNeg (121 : Int32))) + (1 : Int32))))
set_option maxHeartbeats 4000000 in
set_option maxRecDepth 100000 in
theorem c_X12_newGroup (l : Launch) (g : Gx) (Ty : TyM) (G : Gh) (sz : Nat) (b0 : Nat) (k_b0 : Ty b0 = some (30, 122)) : Met l yX12_newGroup (wsG yX12_newGroup cX12_newGroup 1 (some .int)) ({ frames := 0, cells := 0, slots := 0, locals := 0 }) (PcT g Ty G sz [.ref b0]) (QwI g Ty sz (fun r u => u.1 = Ty ∧ r = (F_X12_newGroup (G.2.1 b0)).1 ∧ u.2 = aset G b0 (F_X12_newGroup (G.2.1 b0)).2)) 0 0 (AF Ty sz) := by
  refine Met.ofW (cc := cX12_newGroup) (maxL := 1) (ret := (some .int)) (by decide) rfl ?_
  intro p e s m args below meth c s₁ B hml hv
  obtain ⟨rfl, hsz, hK, hH⟩ := hv
  subst hsz
  have hx := B.exec
  have hb := B.bytes
  have hr := B.returns
  have hts := atoms_spec (ws := (wsG yX12_newGroup cX12_newGroup 1 (some .int))) B.pre
  have hG : ∀ w ∈ GW, w.before ([.ref b0] : List Value).toArray s = true := fun w h => hts w (List.mem_cons_of_mem _ h)
  have hown : s.vm.findClass RX12 = some m.cls := findClass_of_methodNamed B.named
  have hlocks := B.notSynchronized
  have hl := lv_entry [.ref b0] (n := 1) (Nat.le_of_ble_eq_true rfl)
  rw [lg_entry_eq]
  generalize (lg_sl [.ref b0] ++ List.replicate (1 - (lg_sl [.ref b0]).length) Slot.unset).toArray = ls at hl ⊢
  have hl : lv_has ls 1 [(0, .ref b0)] := hl
  have hv : ((((upd (G.2.1 b0) (Int32.toNatClampNeg (121 : Int32)) (((G.2.1 b0) (Int32.toNatClampNeg (121 : Int32))) + (1 : Int32))) (Int32.toNatClampNeg (121 : Int32))) - (1 : Int32)), (upd (G.2.1 b0) (Int32.toNatClampNeg (121 : Int32)) (((G.2.1 b0) (Int32.toNatClampNeg (121 : Int32))) + (1 : Int32)))) = F_X12_newGroup (G.2.1 b0) := rfl
  have hS : va_S (AF Ty s.heap.size) s.heap s.heap [] := va_S.rf
  refine lv_aload_n hx hb dX12_newGroup_0 rfl (lv_at hl 0 rfl) ?_
  refine lv_bipush (v := 121) hx hb dX12_newGroup_1 (by decide) ?_
  refine lv_dup2_11 hx hb dX12_newGroup_3 rfl rfl ?_
  obtain ⟨_, rfl, o_c_1⟩ := hH b0 _ k_b0
  have o_c_1 : va_at g.1 vwCl (b0, .inl (g.2.1 1, 122, .inl (G.2.1 b0))) s.heap := o_c_1
  refine hg_iald hx hb hK o_c_1 (rg_in (n := 122) rl_121 (by decide) (by decide)) dX12_newGroup_4 ?_
  refine lv_topi (fun x_2 ex_2 => ?_)
  try rw [← ex_2] at hv
  refine lv_iconst (v := 1) hx hb dX12_newGroup_5 (by decide) ?_
  refine lv_iadd hx hb dX12_newGroup_6 ?_
  refine lv_topi (fun x_3 ex_3 => ?_)
  try rw [← ex_3] at hv
  refine hg_iast hx hb hK hS o_c_1 (AF.of k_b0) (rg_in (n := 122) rl_121 (by decide) (by decide)) dX12_newGroup_7 (fun H locs o_c_1 hz oq hS => ?_)
  obtain ⟨G_4, eG_4⟩ : ∃ z : Gh, z = aset G b0 (upd (G.2.1 b0) (121 : Int32).toNatClampNeg x_3) := ⟨_, rfl⟩
  have hH : HT g Ty G_4 H := by rw [eG_4]; exact HT.putA (upd (G.2.1 b0) (121 : Int32).toNatClampNeg x_3) hH k_b0 cf30 o_c_1 oq
  have feG_4 : G_4.2.1 b0 = (upd (G.2.1 b0) (121 : Int32).toNatClampNeg x_3) := by rw [eG_4]; exact aset_eq
  try rw [← feG_4] at hv
  have hgG_4 : G_4 = aset G b0 (G_4.2.1 b0) := as_step aset_id.symm eG_4
  clear oq hz
  refine lv_aload_n hx hb dX12_newGroup_8 rfl (lv_at hl 0 rfl) ?_
  refine lv_bipush (v := 121) hx hb dX12_newGroup_9 (by decide) ?_
  obtain ⟨_, rfl, o_c_5⟩ := hH b0 _ k_b0
  have o_c_5 : va_at g.1 vwCl (b0, .inl (g.2.1 1, 122, .inl (G_4.2.1 b0))) H := o_c_5
  refine hg_iald hx hb hK o_c_5 (rg_in (n := 122) rl_121 (by decide) (by decide)) dX12_newGroup_11 ?_
  refine lv_topi (fun x_6 ex_6 => ?_)
  try rw [← ex_6] at hv
  refine lv_iconst (v := 1) hx hb dX12_newGroup_12 (by decide) ?_
  refine lv_isub hx hb dX12_newGroup_13 ?_
  refine lv_topi (fun x_7 ex_7 => ?_)
  try rw [← ex_7] at hv
  exact W.iret hx hb hr (fun t ht hWm => ⟨⟨x_7, (Ty, G_4), rfl, ⟨rfl, ⟨by rw [← hv], by rw [← hv]; exact hgG_4⟩⟩, by show HT g Ty G_4 t.heap; rw [ht]; exact hH⟩, hS.F ht⟩) hS.2.2 dX12_newGroup_14

def F_X12_clear (f0 : Nat → Int32) (a1 : Int32) : (Nat → Int32) := (upd (upd (upd (upd (upd f0 (Int32.toNatClampNeg a1) (-1 : Int32)) (Int32.toNatClampNeg ((24 : Int32) + a1)) (0 : Int32)) (Int32.toNatClampNeg ((48 : Int32) + a1)) (0 : Int32)) (Int32.toNatClampNeg ((72 : Int32) + a1)) (0 : Int32)) (Int32.toNatClampNeg ((96 : Int32) + a1)) (0 : Int32))
set_option maxHeartbeats 4000000 in
set_option maxRecDepth 100000 in
theorem c_X12_clear (l : Launch) (g : Gx) (Ty : TyM) (G : Gh) (sz : Nat) (b0 : Nat) (a1 : Int32) (k_b0 : Ty b0 = some (30, 122)) (pr1 : rgI (0) (23) a1) : Met l yX12_clear (wsG yX12_clear cX12_clear 2 none) ({ frames := 0, cells := 0, slots := 0, locals := 0 }) (PcT g Ty G sz [.ref b0, .int a1]) (QwV g Ty sz (fun u => u.1 = Ty ∧ u.2 = aset G b0 (F_X12_clear (G.2.1 b0) a1))) 0 0 (AF Ty sz) := by
  refine Met.ofW (cc := cX12_clear) (maxL := 2) (ret := none) (by decide) rfl ?_
  intro p e s m args below meth c s₁ B hml hv
  obtain ⟨rfl, hsz, hK, hH⟩ := hv
  subst hsz
  have hx := B.exec
  have hb := B.bytes
  have hr := B.returns
  have hts := atoms_spec (ws := (wsG yX12_clear cX12_clear 2 none)) B.pre
  have hG : ∀ w ∈ GW, w.before ([.ref b0, .int a1] : List Value).toArray s = true := fun w h => hts w (List.mem_cons_of_mem _ h)
  have hown : s.vm.findClass RX12 = some m.cls := findClass_of_methodNamed B.named
  have hlocks := B.notSynchronized
  have hl := lv_entry [.ref b0, .int a1] (n := 2) (Nat.le_of_ble_eq_true rfl)
  rw [lg_entry_eq]
  generalize (lg_sl [.ref b0, .int a1] ++ List.replicate (2 - (lg_sl [.ref b0, .int a1]).length) Slot.unset).toArray = ls at hl ⊢
  have hl : lv_has ls 2 [(0, .ref b0), (1, .int a1)] := hl
  have hv : (upd (upd (upd (upd (upd (G.2.1 b0) (Int32.toNatClampNeg a1) (-1 : Int32)) (Int32.toNatClampNeg ((24 : Int32) + a1)) (0 : Int32)) (Int32.toNatClampNeg ((48 : Int32) + a1)) (0 : Int32)) (Int32.toNatClampNeg ((72 : Int32) + a1)) (0 : Int32)) (Int32.toNatClampNeg ((96 : Int32) + a1)) (0 : Int32)) = F_X12_clear (G.2.1 b0) a1 := rfl
  have hS : va_S (AF Ty s.heap.size) s.heap s.heap [] := va_S.rf
  refine lv_aload_n hx hb dX12_clear_0 rfl (lv_at hl 0 rfl) ?_
  refine lv_iload_n hx hb dX12_clear_1 rfl (lv_at hl 1 rfl) ?_
  refine lv_iconst (v := (-1)) hx hb dX12_clear_2 (by decide) ?_
  obtain ⟨_, rfl, o_c_1⟩ := hH b0 _ k_b0
  have o_c_1 : va_at g.1 vwCl (b0, .inl (g.2.1 1, 122, .inl (G.2.1 b0))) s.heap := o_c_1
  refine hg_iast hx hb hK hS o_c_1 (AF.of k_b0) (rg_in (n := 122) pr1 (by decide) (by decide)) dX12_clear_3 (fun H locs o_c_1 hz oq hS => ?_)
  obtain ⟨G_2, eG_2⟩ : ∃ z : Gh, z = aset G b0 (upd (G.2.1 b0) (a1 : Int32).toNatClampNeg (-1)) := ⟨_, rfl⟩
  have hH : HT g Ty G_2 H := by rw [eG_2]; exact HT.putA (upd (G.2.1 b0) (a1 : Int32).toNatClampNeg (-1)) hH k_b0 cf30 o_c_1 oq
  have feG_2 : G_2.2.1 b0 = (upd (G.2.1 b0) (a1 : Int32).toNatClampNeg (-1)) := by rw [eG_2]; exact aset_eq
  try rw [← feG_2] at hv
  have hgG_2 : G_2 = aset G b0 (G_2.2.1 b0) := as_step aset_id.symm eG_2
  clear oq hz
  refine lv_aload_n hx hb dX12_clear_4 rfl (lv_at hl 0 rfl) ?_
  refine lv_bipush (v := 24) hx hb dX12_clear_5 (by decide) ?_
  refine lv_iload_n hx hb dX12_clear_7 rfl (lv_at hl 1 rfl) ?_
  refine lv_iadd hx hb dX12_clear_8 ?_
  refine lv_topi (fun x_3 ex_3 => ?_)
  try rw [← ex_3] at hv
  have rx_3 : rgI (24) (47) x_3 := by rw [ex_3]; exact rg_w (rg_add rl_24 pr1 (by decide) (by decide)) (by decide) (by decide)
  refine lv_iconst (v := 0) hx hb dX12_clear_9 (by decide) ?_
  obtain ⟨_, rfl, o_c_4⟩ := hH b0 _ k_b0
  have o_c_4 : va_at g.1 vwCl (b0, .inl (g.2.1 1, 122, .inl (G_2.2.1 b0))) H := o_c_4
  refine hg_iast hx hb hK hS o_c_4 (AF.of k_b0) (rg_in (n := 122) rx_3 (by decide) (by decide)) dX12_clear_10 (fun H locs o_c_4 hz oq hS => ?_)
  obtain ⟨G_5, eG_5⟩ : ∃ z : Gh, z = aset G_2 b0 (upd (G_2.2.1 b0) (x_3 : Int32).toNatClampNeg 0) := ⟨_, rfl⟩
  have hH : HT g Ty G_5 H := by rw [eG_5]; exact HT.putA (upd (G_2.2.1 b0) (x_3 : Int32).toNatClampNeg 0) hH k_b0 cf30 o_c_4 oq
  have feG_5 : G_5.2.1 b0 = (upd (G_2.2.1 b0) (x_3 : Int32).toNatClampNeg 0) := by rw [eG_5]; exact aset_eq
  try rw [← feG_5] at hv
  have hgG_5 : G_5 = aset G b0 (G_5.2.1 b0) := as_step hgG_2 eG_5
  clear oq hz
  refine lv_aload_n hx hb dX12_clear_11 rfl (lv_at hl 0 rfl) ?_
  refine lv_bipush (v := 48) hx hb dX12_clear_12 (by decide) ?_
  refine lv_iload_n hx hb dX12_clear_14 rfl (lv_at hl 1 rfl) ?_
  refine lv_iadd hx hb dX12_clear_15 ?_
  refine lv_topi (fun x_6 ex_6 => ?_)
  try rw [← ex_6] at hv
  have rx_6 : rgI (48) (71) x_6 := by rw [ex_6]; exact rg_w (rg_add rl_48 pr1 (by decide) (by decide)) (by decide) (by decide)
  refine lv_iconst (v := 0) hx hb dX12_clear_16 (by decide) ?_
  obtain ⟨_, rfl, o_c_7⟩ := hH b0 _ k_b0
  have o_c_7 : va_at g.1 vwCl (b0, .inl (g.2.1 1, 122, .inl (G_5.2.1 b0))) H := o_c_7
  refine hg_iast hx hb hK hS o_c_7 (AF.of k_b0) (rg_in (n := 122) rx_6 (by decide) (by decide)) dX12_clear_17 (fun H locs o_c_7 hz oq hS => ?_)
  obtain ⟨G_8, eG_8⟩ : ∃ z : Gh, z = aset G_5 b0 (upd (G_5.2.1 b0) (x_6 : Int32).toNatClampNeg 0) := ⟨_, rfl⟩
  have hH : HT g Ty G_8 H := by rw [eG_8]; exact HT.putA (upd (G_5.2.1 b0) (x_6 : Int32).toNatClampNeg 0) hH k_b0 cf30 o_c_7 oq
  have feG_8 : G_8.2.1 b0 = (upd (G_5.2.1 b0) (x_6 : Int32).toNatClampNeg 0) := by rw [eG_8]; exact aset_eq
  try rw [← feG_8] at hv
  have hgG_8 : G_8 = aset G b0 (G_8.2.1 b0) := as_step hgG_5 eG_8
  clear oq hz
  refine lv_aload_n hx hb dX12_clear_18 rfl (lv_at hl 0 rfl) ?_
  refine lv_bipush (v := 72) hx hb dX12_clear_19 (by decide) ?_
  refine lv_iload_n hx hb dX12_clear_21 rfl (lv_at hl 1 rfl) ?_
  refine lv_iadd hx hb dX12_clear_22 ?_
  refine lv_topi (fun x_9 ex_9 => ?_)
  try rw [← ex_9] at hv
  have rx_9 : rgI (72) (95) x_9 := by rw [ex_9]; exact rg_w (rg_add rl_72 pr1 (by decide) (by decide)) (by decide) (by decide)
  refine lv_iconst (v := 0) hx hb dX12_clear_23 (by decide) ?_
  obtain ⟨_, rfl, o_c_10⟩ := hH b0 _ k_b0
  have o_c_10 : va_at g.1 vwCl (b0, .inl (g.2.1 1, 122, .inl (G_8.2.1 b0))) H := o_c_10
  refine hg_iast hx hb hK hS o_c_10 (AF.of k_b0) (rg_in (n := 122) rx_9 (by decide) (by decide)) dX12_clear_24 (fun H locs o_c_10 hz oq hS => ?_)
  obtain ⟨G_11, eG_11⟩ : ∃ z : Gh, z = aset G_8 b0 (upd (G_8.2.1 b0) (x_9 : Int32).toNatClampNeg 0) := ⟨_, rfl⟩
  have hH : HT g Ty G_11 H := by rw [eG_11]; exact HT.putA (upd (G_8.2.1 b0) (x_9 : Int32).toNatClampNeg 0) hH k_b0 cf30 o_c_10 oq
  have feG_11 : G_11.2.1 b0 = (upd (G_8.2.1 b0) (x_9 : Int32).toNatClampNeg 0) := by rw [eG_11]; exact aset_eq
  try rw [← feG_11] at hv
  have hgG_11 : G_11 = aset G b0 (G_11.2.1 b0) := as_step hgG_8 eG_11
  clear oq hz
  refine lv_aload_n hx hb dX12_clear_25 rfl (lv_at hl 0 rfl) ?_
  refine lv_bipush (v := 96) hx hb dX12_clear_26 (by decide) ?_
  refine lv_iload_n hx hb dX12_clear_28 rfl (lv_at hl 1 rfl) ?_
  refine lv_iadd hx hb dX12_clear_29 ?_
  refine lv_topi (fun x_12 ex_12 => ?_)
  try rw [← ex_12] at hv
  have rx_12 : rgI (96) (119) x_12 := by rw [ex_12]; exact rg_w (rg_add rl_96 pr1 (by decide) (by decide)) (by decide) (by decide)
  refine lv_iconst (v := 0) hx hb dX12_clear_30 (by decide) ?_
  obtain ⟨_, rfl, o_c_13⟩ := hH b0 _ k_b0
  have o_c_13 : va_at g.1 vwCl (b0, .inl (g.2.1 1, 122, .inl (G_11.2.1 b0))) H := o_c_13
  refine hg_iast hx hb hK hS o_c_13 (AF.of k_b0) (rg_in (n := 122) rx_12 (by decide) (by decide)) dX12_clear_31 (fun H locs o_c_13 hz oq hS => ?_)
  obtain ⟨G_14, eG_14⟩ : ∃ z : Gh, z = aset G_11 b0 (upd (G_11.2.1 b0) (x_12 : Int32).toNatClampNeg 0) := ⟨_, rfl⟩
  have hH : HT g Ty G_14 H := by rw [eG_14]; exact HT.putA (upd (G_11.2.1 b0) (x_12 : Int32).toNatClampNeg 0) hH k_b0 cf30 o_c_13 oq
  have feG_14 : G_14.2.1 b0 = (upd (G_11.2.1 b0) (x_12 : Int32).toNatClampNeg 0) := by rw [eG_14]; exact aset_eq
  try rw [← feG_14] at hv
  have hgG_14 : G_14 = aset G b0 (G_14.2.1 b0) := as_step hgG_11 eG_14
  clear oq hz
  exact W.vret hx hb hr (fun t ht hWm => ⟨⟨(Ty, G_14), rfl, ⟨rfl, (by rw [← hv]; exact hgG_14)⟩, by show HT g Ty G_14 t.heap; rw [ht]; exact hH⟩, hS.F ht⟩) hS.2.2 dX12_clear_32

def F_X12_comes (f0 : Nat → Int32) (a1 : Int32) (a2 : Int32) (a3 : Int32) (a4 : Int32) : Int32 × (Nat → Int32) := ((F_X12_freeOf f0), (upd (upd (upd (upd (upd f0 (Int32.toNatClampNeg (F_X12_freeOf f0)) a1) (Int32.toNatClampNeg ((24 : Int32) + (F_X12_freeOf f0))) a2) (Int32.toNatClampNeg ((48 : Int32) + (F_X12_freeOf f0))) a3) (Int32.toNatClampNeg ((72 : Int32) + (F_X12_freeOf f0))) a4) (Int32.toNatClampNeg ((96 : Int32) + (F_X12_freeOf f0))) (0 : Int32)))
set_option maxHeartbeats 4000000 in
set_option maxRecDepth 100000 in
theorem c_X12_comes (l : Launch) (g : Gx) (Ty : TyM) (G : Gh) (sz : Nat) (b0 : Nat) (a1 : Int32) (a2 : Int32) (a3 : Int32) (a4 : Int32) (k_b0 : Ty b0 = some (30, 122)) : Met l yX12_comes (wsG yX12_comes cX12_comes 6 (some .int)) ({ frames := 1, cells := 0, slots := 0, locals := 21 }) (PcT g Ty G sz [.ref b0, .int a1, .int a2, .int a3, .int a4]) (QwI g Ty sz (fun r u => u.1 = Ty ∧ r = (F_X12_comes (G.2.1 b0) a1 a2 a3 a4).1 ∧ u.2 = aset G b0 (F_X12_comes (G.2.1 b0) a1 a2 a3 a4).2)) 0 0 (AF Ty sz) := by
  refine Met.ofW (cc := cX12_comes) (maxL := 6) (ret := (some .int)) (by decide) rfl ?_
  intro p e s m args below meth c s₁ B hml hv
  obtain ⟨rfl, hsz, hK, hH⟩ := hv
  subst hsz
  have hx := B.exec
  have hb := B.bytes
  have hr := B.returns
  have hts := atoms_spec (ws := (wsG yX12_comes cX12_comes 6 (some .int))) B.pre
  have hG : ∀ w ∈ GW, w.before ([.ref b0, .int a1, .int a2, .int a3, .int a4] : List Value).toArray s = true := fun w h => hts w (List.mem_cons_of_mem _ h)
  have hown : s.vm.findClass RX12 = some m.cls := findClass_of_methodNamed B.named
  have hlocks := B.notSynchronized
  have hl := lv_entry [.ref b0, .int a1, .int a2, .int a3, .int a4] (n := 6) (Nat.le_of_ble_eq_true rfl)
  rw [lg_entry_eq]
  generalize (lg_sl [.ref b0, .int a1, .int a2, .int a3, .int a4] ++ List.replicate (6 - (lg_sl [.ref b0, .int a1, .int a2, .int a3, .int a4]).length) Slot.unset).toArray = ls at hl ⊢
  have hl : lv_has ls 6 [(0, .ref b0), (1, .int a1), (2, .int a2), (3, .int a3), (4, .int a4)] := hl
  have hv : ((F_X12_freeOf (G.2.1 b0)), (upd (upd (upd (upd (upd (G.2.1 b0) (Int32.toNatClampNeg (F_X12_freeOf (G.2.1 b0))) a1) (Int32.toNatClampNeg ((24 : Int32) + (F_X12_freeOf (G.2.1 b0)))) a2) (Int32.toNatClampNeg ((48 : Int32) + (F_X12_freeOf (G.2.1 b0)))) a3) (Int32.toNatClampNeg ((72 : Int32) + (F_X12_freeOf (G.2.1 b0)))) a4) (Int32.toNatClampNeg ((96 : Int32) + (F_X12_freeOf (G.2.1 b0)))) (0 : Int32))) = F_X12_comes (G.2.1 b0) a1 a2 a3 a4 := rfl
  have hS : va_S (AF Ty s.heap.size) s.heap s.heap [] := va_S.rf
  refine lv_aload_n hx hb dX12_comes_0 rfl (lv_at hl 0 rfl) ?_
  refine vp_callSi (W.runS (As := [.ref b0]) (rest := []) ⟨hx, hb, hml, hown, hts⟩ (c_X12_freeOf l g Ty G b0 k_b0) (cwSx 1 hts hG (gwC mw_1604) mw_88 mw_1602 mw_1603 rfl rfl rfl hd_X12_freeOf ⟨Nat.le_of_ble_eq_true rfl, Nat.le_of_ble_eq_true rfl⟩) ⟨PcH_blind, PcH_pre hK hH⟩ rfl rfl hl.1 rfl (lv_room (Nat.le_of_ble_eq_true rfl)) dX12_comes_1 ⟨Nat.zero_le _, Nat.zero_le _⟩) (fun x_1 hx_1 => ?_)
  have rx_1 : rgI (0) (24) x_1 := hx_1.1
  try rw [← hx_1.2] at hv
  refine lv_istore (lv' := [(5, .int x_1), (0, .ref b0), (1, .int a1), (2, .int a2), (3, .int a3), (4, .int a4)]) hx hb dX12_comes_4 hl (by decide) rfl (fun ls hl => ?_)
  refine lv_aload_n hx hb dX12_comes_6 rfl (lv_at hl 1 rfl) ?_
  refine lv_iload hx hb dX12_comes_7 (lv_at hl 0 rfl) ?_
  refine lv_iload_n hx hb dX12_comes_9 rfl (lv_at hl 2 rfl) ?_
  obtain ⟨_, rfl, o_c_2⟩ := hH b0 _ k_b0
  have o_c_2 : va_at g.1 vwCl (b0, .inl (g.2.1 1, 122, .inl (G.2.1 b0))) s.heap := o_c_2
  refine hg_iast hx hb hK hS o_c_2 (AF.of k_b0) (rg_in (n := 122) rx_1 (by decide) (by decide)) dX12_comes_10 (fun H locs o_c_2 hz oq hS => ?_)
  obtain ⟨G_3, eG_3⟩ : ∃ z : Gh, z = aset G b0 (upd (G.2.1 b0) (x_1 : Int32).toNatClampNeg a1) := ⟨_, rfl⟩
  have hH : HT g Ty G_3 H := by rw [eG_3]; exact HT.putA (upd (G.2.1 b0) (x_1 : Int32).toNatClampNeg a1) hH k_b0 cf30 o_c_2 oq
  have feG_3 : G_3.2.1 b0 = (upd (G.2.1 b0) (x_1 : Int32).toNatClampNeg a1) := by rw [eG_3]; exact aset_eq
  try rw [← feG_3] at hv
  have hgG_3 : G_3 = aset G b0 (G_3.2.1 b0) := as_step aset_id.symm eG_3
  clear oq hz
  refine lv_aload_n hx hb dX12_comes_11 rfl (lv_at hl 1 rfl) ?_
  refine lv_bipush (v := 24) hx hb dX12_comes_12 (by decide) ?_
  refine lv_iload hx hb dX12_comes_14 (lv_at hl 0 rfl) ?_
  refine lv_iadd hx hb dX12_comes_16 ?_
  refine lv_topi (fun x_4 ex_4 => ?_)
  try rw [← ex_4] at hv
  have rx_4 : rgI (24) (48) x_4 := by rw [ex_4]; exact rg_w (rg_add rl_24 rx_1 (by decide) (by decide)) (by decide) (by decide)
  refine lv_iload_n hx hb dX12_comes_17 rfl (lv_at hl 3 rfl) ?_
  obtain ⟨_, rfl, o_c_5⟩ := hH b0 _ k_b0
  have o_c_5 : va_at g.1 vwCl (b0, .inl (g.2.1 1, 122, .inl (G_3.2.1 b0))) H := o_c_5
  refine hg_iast hx hb hK hS o_c_5 (AF.of k_b0) (rg_in (n := 122) rx_4 (by decide) (by decide)) dX12_comes_18 (fun H locs o_c_5 hz oq hS => ?_)
  obtain ⟨G_6, eG_6⟩ : ∃ z : Gh, z = aset G_3 b0 (upd (G_3.2.1 b0) (x_4 : Int32).toNatClampNeg a2) := ⟨_, rfl⟩
  have hH : HT g Ty G_6 H := by rw [eG_6]; exact HT.putA (upd (G_3.2.1 b0) (x_4 : Int32).toNatClampNeg a2) hH k_b0 cf30 o_c_5 oq
  have feG_6 : G_6.2.1 b0 = (upd (G_3.2.1 b0) (x_4 : Int32).toNatClampNeg a2) := by rw [eG_6]; exact aset_eq
  try rw [← feG_6] at hv
  have hgG_6 : G_6 = aset G b0 (G_6.2.1 b0) := as_step hgG_3 eG_6
  clear oq hz
  refine lv_aload_n hx hb dX12_comes_19 rfl (lv_at hl 1 rfl) ?_
  refine lv_bipush (v := 48) hx hb dX12_comes_20 (by decide) ?_
  refine lv_iload hx hb dX12_comes_22 (lv_at hl 0 rfl) ?_
  refine lv_iadd hx hb dX12_comes_24 ?_
  refine lv_topi (fun x_7 ex_7 => ?_)
  try rw [← ex_7] at hv
  have rx_7 : rgI (48) (72) x_7 := by rw [ex_7]; exact rg_w (rg_add rl_48 rx_1 (by decide) (by decide)) (by decide) (by decide)
  refine lv_iload_n hx hb dX12_comes_25 rfl (lv_at hl 4 rfl) ?_
  obtain ⟨_, rfl, o_c_8⟩ := hH b0 _ k_b0
  have o_c_8 : va_at g.1 vwCl (b0, .inl (g.2.1 1, 122, .inl (G_6.2.1 b0))) H := o_c_8
  refine hg_iast hx hb hK hS o_c_8 (AF.of k_b0) (rg_in (n := 122) rx_7 (by decide) (by decide)) dX12_comes_26 (fun H locs o_c_8 hz oq hS => ?_)
  obtain ⟨G_9, eG_9⟩ : ∃ z : Gh, z = aset G_6 b0 (upd (G_6.2.1 b0) (x_7 : Int32).toNatClampNeg a3) := ⟨_, rfl⟩
  have hH : HT g Ty G_9 H := by rw [eG_9]; exact HT.putA (upd (G_6.2.1 b0) (x_7 : Int32).toNatClampNeg a3) hH k_b0 cf30 o_c_8 oq
  have feG_9 : G_9.2.1 b0 = (upd (G_6.2.1 b0) (x_7 : Int32).toNatClampNeg a3) := by rw [eG_9]; exact aset_eq
  try rw [← feG_9] at hv
  have hgG_9 : G_9 = aset G b0 (G_9.2.1 b0) := as_step hgG_6 eG_9
  clear oq hz
  refine lv_aload_n hx hb dX12_comes_27 rfl (lv_at hl 1 rfl) ?_
  refine lv_bipush (v := 72) hx hb dX12_comes_28 (by decide) ?_
  refine lv_iload hx hb dX12_comes_30 (lv_at hl 0 rfl) ?_
  refine lv_iadd hx hb dX12_comes_32 ?_
  refine lv_topi (fun x_10 ex_10 => ?_)
  try rw [← ex_10] at hv
  have rx_10 : rgI (72) (96) x_10 := by rw [ex_10]; exact rg_w (rg_add rl_72 rx_1 (by decide) (by decide)) (by decide) (by decide)
  refine lv_iload hx hb dX12_comes_33 (lv_at hl 5 rfl) ?_
  obtain ⟨_, rfl, o_c_11⟩ := hH b0 _ k_b0
  have o_c_11 : va_at g.1 vwCl (b0, .inl (g.2.1 1, 122, .inl (G_9.2.1 b0))) H := o_c_11
  refine hg_iast hx hb hK hS o_c_11 (AF.of k_b0) (rg_in (n := 122) rx_10 (by decide) (by decide)) dX12_comes_35 (fun H locs o_c_11 hz oq hS => ?_)
  obtain ⟨G_12, eG_12⟩ : ∃ z : Gh, z = aset G_9 b0 (upd (G_9.2.1 b0) (x_10 : Int32).toNatClampNeg a4) := ⟨_, rfl⟩
  have hH : HT g Ty G_12 H := by rw [eG_12]; exact HT.putA (upd (G_9.2.1 b0) (x_10 : Int32).toNatClampNeg a4) hH k_b0 cf30 o_c_11 oq
  have feG_12 : G_12.2.1 b0 = (upd (G_9.2.1 b0) (x_10 : Int32).toNatClampNeg a4) := by rw [eG_12]; exact aset_eq
  try rw [← feG_12] at hv
  have hgG_12 : G_12 = aset G b0 (G_12.2.1 b0) := as_step hgG_9 eG_12
  clear oq hz
  refine lv_aload_n hx hb dX12_comes_36 rfl (lv_at hl 1 rfl) ?_
  refine lv_bipush (v := 96) hx hb dX12_comes_37 (by decide) ?_
  refine lv_iload hx hb dX12_comes_39 (lv_at hl 0 rfl) ?_
  refine lv_iadd hx hb dX12_comes_41 ?_
  refine lv_topi (fun x_13 ex_13 => ?_)
  try rw [← ex_13] at hv
  have rx_13 : rgI (96) (120) x_13 := by rw [ex_13]; exact rg_w (rg_add rl_96 rx_1 (by decide) (by decide)) (by decide) (by decide)
  refine lv_iconst (v := 0) hx hb dX12_comes_42 (by decide) ?_
  obtain ⟨_, rfl, o_c_14⟩ := hH b0 _ k_b0
  have o_c_14 : va_at g.1 vwCl (b0, .inl (g.2.1 1, 122, .inl (G_12.2.1 b0))) H := o_c_14
  refine hg_iast hx hb hK hS o_c_14 (AF.of k_b0) (rg_in (n := 122) rx_13 (by decide) (by decide)) dX12_comes_43 (fun H locs o_c_14 hz oq hS => ?_)
  obtain ⟨G_15, eG_15⟩ : ∃ z : Gh, z = aset G_12 b0 (upd (G_12.2.1 b0) (x_13 : Int32).toNatClampNeg 0) := ⟨_, rfl⟩
  have hH : HT g Ty G_15 H := by rw [eG_15]; exact HT.putA (upd (G_12.2.1 b0) (x_13 : Int32).toNatClampNeg 0) hH k_b0 cf30 o_c_14 oq
  have feG_15 : G_15.2.1 b0 = (upd (G_12.2.1 b0) (x_13 : Int32).toNatClampNeg 0) := by rw [eG_15]; exact aset_eq
  try rw [← feG_15] at hv
  have hgG_15 : G_15 = aset G b0 (G_15.2.1 b0) := as_step hgG_12 eG_15
  clear oq hz
  refine lv_iload hx hb dX12_comes_44 (lv_at hl 0 rfl) ?_
  exact W.iret hx hb hr (fun t ht hWm => ⟨⟨x_1, (Ty, G_15), rfl, ⟨rfl, ⟨by rw [← hv], by rw [← hv]; exact hgG_15⟩⟩, by show HT g Ty G_15 t.heap; rw [ht]; exact hH⟩, hS.F ht⟩) hS.2.2 dX12_comes_46

def F_X12_goMove (f0 : Nat → Int32) (a1 : Int32) (a2 : Int32) (a3 : Int32) : (Nat → Int32) := (upd (upd (upd f0 (Int32.toNatClampNeg a1) a2) (Int32.toNatClampNeg ((24 : Int32) + a1)) a3) (Int32.toNatClampNeg (120 : Int32)) (((upd (upd f0 (Int32.toNatClampNeg a1) a2) (Int32.toNatClampNeg ((24 : Int32) + a1)) a3) (Int32.toNatClampNeg (120 : Int32))) + (1 : Int32)))
set_option maxHeartbeats 4000000 in
set_option maxRecDepth 100000 in
theorem c_X12_goMove (l : Launch) (g : Gx) (Ty : TyM) (G : Gh) (sz : Nat) (b0 : Nat) (a1 : Int32) (a2 : Int32) (a3 : Int32) (k_b0 : Ty b0 = some (30, 122)) (pr1 : rgI (0) (23) a1) : Met l yX12_goMove (wsG yX12_goMove cX12_goMove 4 none) ({ frames := 0, cells := 0, slots := 0, locals := 0 }) (PcT g Ty G sz [.ref b0, .int a1, .int a2, .int a3]) (QwV g Ty sz (fun u => u.1 = Ty ∧ u.2 = aset G b0 (F_X12_goMove (G.2.1 b0) a1 a2 a3))) 0 0 (AF Ty sz) := by
  refine Met.ofW (cc := cX12_goMove) (maxL := 4) (ret := none) (by decide) rfl ?_
  intro p e s m args below meth c s₁ B hml hv
  obtain ⟨rfl, hsz, hK, hH⟩ := hv
  subst hsz
  have hx := B.exec
  have hb := B.bytes
  have hr := B.returns
  have hts := atoms_spec (ws := (wsG yX12_goMove cX12_goMove 4 none)) B.pre
  have hG : ∀ w ∈ GW, w.before ([.ref b0, .int a1, .int a2, .int a3] : List Value).toArray s = true := fun w h => hts w (List.mem_cons_of_mem _ h)
  have hown : s.vm.findClass RX12 = some m.cls := findClass_of_methodNamed B.named
  have hlocks := B.notSynchronized
  have hl := lv_entry [.ref b0, .int a1, .int a2, .int a3] (n := 4) (Nat.le_of_ble_eq_true rfl)
  rw [lg_entry_eq]
  generalize (lg_sl [.ref b0, .int a1, .int a2, .int a3] ++ List.replicate (4 - (lg_sl [.ref b0, .int a1, .int a2, .int a3]).length) Slot.unset).toArray = ls at hl ⊢
  have hl : lv_has ls 4 [(0, .ref b0), (1, .int a1), (2, .int a2), (3, .int a3)] := hl
  have hv : (upd (upd (upd (G.2.1 b0) (Int32.toNatClampNeg a1) a2) (Int32.toNatClampNeg ((24 : Int32) + a1)) a3) (Int32.toNatClampNeg (120 : Int32)) (((upd (upd (G.2.1 b0) (Int32.toNatClampNeg a1) a2) (Int32.toNatClampNeg ((24 : Int32) + a1)) a3) (Int32.toNatClampNeg (120 : Int32))) + (1 : Int32))) = F_X12_goMove (G.2.1 b0) a1 a2 a3 := rfl
  have hS : va_S (AF Ty s.heap.size) s.heap s.heap [] := va_S.rf
  refine lv_aload_n hx hb dX12_goMove_0 rfl (lv_at hl 0 rfl) ?_
  refine lv_iload_n hx hb dX12_goMove_1 rfl (lv_at hl 1 rfl) ?_
  refine lv_iload_n hx hb dX12_goMove_2 rfl (lv_at hl 2 rfl) ?_
  obtain ⟨_, rfl, o_c_1⟩ := hH b0 _ k_b0
  have o_c_1 : va_at g.1 vwCl (b0, .inl (g.2.1 1, 122, .inl (G.2.1 b0))) s.heap := o_c_1
  refine hg_iast hx hb hK hS o_c_1 (AF.of k_b0) (rg_in (n := 122) pr1 (by decide) (by decide)) dX12_goMove_3 (fun H locs o_c_1 hz oq hS => ?_)
  obtain ⟨G_2, eG_2⟩ : ∃ z : Gh, z = aset G b0 (upd (G.2.1 b0) (a1 : Int32).toNatClampNeg a2) := ⟨_, rfl⟩
  have hH : HT g Ty G_2 H := by rw [eG_2]; exact HT.putA (upd (G.2.1 b0) (a1 : Int32).toNatClampNeg a2) hH k_b0 cf30 o_c_1 oq
  have feG_2 : G_2.2.1 b0 = (upd (G.2.1 b0) (a1 : Int32).toNatClampNeg a2) := by rw [eG_2]; exact aset_eq
  try rw [← feG_2] at hv
  have hgG_2 : G_2 = aset G b0 (G_2.2.1 b0) := as_step aset_id.symm eG_2
  clear oq hz
  refine lv_aload_n hx hb dX12_goMove_4 rfl (lv_at hl 0 rfl) ?_
  refine lv_bipush (v := 24) hx hb dX12_goMove_5 (by decide) ?_
  refine lv_iload_n hx hb dX12_goMove_7 rfl (lv_at hl 1 rfl) ?_
  refine lv_iadd hx hb dX12_goMove_8 ?_
  refine lv_topi (fun x_3 ex_3 => ?_)
  try rw [← ex_3] at hv
  have rx_3 : rgI (24) (47) x_3 := by rw [ex_3]; exact rg_w (rg_add rl_24 pr1 (by decide) (by decide)) (by decide) (by decide)
  refine lv_iload_n hx hb dX12_goMove_9 rfl (lv_at hl 3 rfl) ?_
  obtain ⟨_, rfl, o_c_4⟩ := hH b0 _ k_b0
  have o_c_4 : va_at g.1 vwCl (b0, .inl (g.2.1 1, 122, .inl (G_2.2.1 b0))) H := o_c_4
  refine hg_iast hx hb hK hS o_c_4 (AF.of k_b0) (rg_in (n := 122) rx_3 (by decide) (by decide)) dX12_goMove_10 (fun H locs o_c_4 hz oq hS => ?_)
  obtain ⟨G_5, eG_5⟩ : ∃ z : Gh, z = aset G_2 b0 (upd (G_2.2.1 b0) (x_3 : Int32).toNatClampNeg a3) := ⟨_, rfl⟩
  have hH : HT g Ty G_5 H := by rw [eG_5]; exact HT.putA (upd (G_2.2.1 b0) (x_3 : Int32).toNatClampNeg a3) hH k_b0 cf30 o_c_4 oq
  have feG_5 : G_5.2.1 b0 = (upd (G_2.2.1 b0) (x_3 : Int32).toNatClampNeg a3) := by rw [eG_5]; exact aset_eq
  try rw [← feG_5] at hv
  have hgG_5 : G_5 = aset G b0 (G_5.2.1 b0) := as_step hgG_2 eG_5
  clear oq hz
  refine lv_aload_n hx hb dX12_goMove_11 rfl (lv_at hl 0 rfl) ?_
  refine lv_bipush (v := 120) hx hb dX12_goMove_12 (by decide) ?_
  refine lv_dup2_11 hx hb dX12_goMove_14 rfl rfl ?_
  obtain ⟨_, rfl, o_c_6⟩ := hH b0 _ k_b0
  have o_c_6 : va_at g.1 vwCl (b0, .inl (g.2.1 1, 122, .inl (G_5.2.1 b0))) H := o_c_6
  refine hg_iald hx hb hK o_c_6 (rg_in (n := 122) rl_120 (by decide) (by decide)) dX12_goMove_15 ?_
  refine lv_topi (fun x_7 ex_7 => ?_)
  try rw [← ex_7] at hv
  refine lv_iconst (v := 1) hx hb dX12_goMove_16 (by decide) ?_
  refine lv_iadd hx hb dX12_goMove_17 ?_
  refine lv_topi (fun x_8 ex_8 => ?_)
  try rw [← ex_8] at hv
  refine hg_iast hx hb hK hS o_c_6 (AF.of k_b0) (rg_in (n := 122) rl_120 (by decide) (by decide)) dX12_goMove_18 (fun H locs o_c_6 hz oq hS => ?_)
  obtain ⟨G_9, eG_9⟩ : ∃ z : Gh, z = aset G_5 b0 (upd (G_5.2.1 b0) (120 : Int32).toNatClampNeg x_8) := ⟨_, rfl⟩
  have hH : HT g Ty G_9 H := by rw [eG_9]; exact HT.putA (upd (G_5.2.1 b0) (120 : Int32).toNatClampNeg x_8) hH k_b0 cf30 o_c_6 oq
  have feG_9 : G_9.2.1 b0 = (upd (G_5.2.1 b0) (120 : Int32).toNatClampNeg x_8) := by rw [eG_9]; exact aset_eq
  try rw [← feG_9] at hv
  have hgG_9 : G_9 = aset G b0 (G_9.2.1 b0) := as_step hgG_5 eG_9
  clear oq hz
  exact W.vret hx hb hr (fun t ht hWm => ⟨⟨(Ty, G_9), rfl, ⟨rfl, (by rw [← hv]; exact hgG_9)⟩, by show HT g Ty G_9 t.heap; rw [ht]; exact hH⟩, hS.F ht⟩) hS.2.2 dX12_goMove_19

def F_X12_goOut_30  : Nat → Int32 → Int32 → Int32 → (Nat → Int32) → (Nat → Int32)
  | 0, _, _, _, yy => yy
  | n + 1, y1, y2, y3, yy => (if (24 : Int32) ≤ y3 then yy else (if (F_X12_isThere yy y3) = (0 : Int32) then (F_X12_goOut_30  n y1 y2 (y3 + (1 : Int32)) yy) else (if (yy (Int32.toNatClampNeg ((72 : Int32) + y3))) = y2 then (F_X12_goOut_30  n y1 y2 (y3 + (1 : Int32)) (upd yy (Int32.toNatClampNeg ((72 : Int32) + y3)) (yy (Int32.toNatClampNeg ((72 : Int32) + y1))))) else (F_X12_goOut_30  n y1 y2 (y3 + (1 : Int32)) yy))))
def F_X12_goOut (f0 : Nat → Int32) (a1 : Int32) : (Nat → Int32) := (if (f0 (Int32.toNatClampNeg ((48 : Int32) + a1))) = (0 : Int32) then f0 else (if (F_X12_inGroup (upd f0 (Int32.toNatClampNeg ((48 : Int32) + a1)) (0 : Int32)) (f0 (Int32.toNatClampNeg ((48 : Int32) + a1)))) = (0 : Int32) then (F_X12_goOut_30  26 a1 (f0 (Int32.toNatClampNeg ((48 : Int32) + a1))) (0 : Int32) (upd f0 (Int32.toNatClampNeg ((48 : Int32) + a1)) (0 : Int32))) else (upd f0 (Int32.toNatClampNeg ((48 : Int32) + a1)) (0 : Int32))))
set_option maxHeartbeats 4000000 in
set_option maxRecDepth 100000 in
theorem c_X12_goOut (l : Launch) (g : Gx) (Ty : TyM) (G : Gh) (sz : Nat) (b0 : Nat) (a1 : Int32) (k_b0 : Ty b0 = some (30, 122)) (pr1 : rgI (0) (23) a1) : Met l yX12_goOut (wsG yX12_goOut cX12_goOut 4 none) ({ frames := 3, cells := 0, slots := 0, locals := 66 }) (PcT g Ty G sz [.ref b0, .int a1]) (QwV g Ty sz (fun u => u.1 = Ty ∧ u.2 = aset G b0 (F_X12_goOut (G.2.1 b0) a1))) 0 0 (AF Ty sz) := by
  refine Met.ofW (cc := cX12_goOut) (maxL := 4) (ret := none) (by decide) rfl ?_
  intro p e s m args below meth c s₁ B hml hv
  obtain ⟨rfl, hsz, hK, hH⟩ := hv
  subst hsz
  have hx := B.exec
  have hb := B.bytes
  have hr := B.returns
  have hts := atoms_spec (ws := (wsG yX12_goOut cX12_goOut 4 none)) B.pre
  have hG : ∀ w ∈ GW, w.before ([.ref b0, .int a1] : List Value).toArray s = true := fun w h => hts w (List.mem_cons_of_mem _ h)
  have hown : s.vm.findClass RX12 = some m.cls := findClass_of_methodNamed B.named
  have hlocks := B.notSynchronized
  have hl := lv_entry [.ref b0, .int a1] (n := 4) (Nat.le_of_ble_eq_true rfl)
  rw [lg_entry_eq]
  generalize (lg_sl [.ref b0, .int a1] ++ List.replicate (4 - (lg_sl [.ref b0, .int a1]).length) Slot.unset).toArray = ls at hl ⊢
  have hl : lv_has ls 4 [(0, .ref b0), (1, .int a1)] := hl
  have hv : (if ((G.2.1 b0) (Int32.toNatClampNeg ((48 : Int32) + a1))) = (0 : Int32) then (G.2.1 b0) else (if (F_X12_inGroup (upd (G.2.1 b0) (Int32.toNatClampNeg ((48 : Int32) + a1)) (0 : Int32)) ((G.2.1 b0) (Int32.toNatClampNeg ((48 : Int32) + a1)))) = (0 : Int32) then (F_X12_goOut_30  26 a1 ((G.2.1 b0) (Int32.toNatClampNeg ((48 : Int32) + a1))) (0 : Int32) (upd (G.2.1 b0) (Int32.toNatClampNeg ((48 : Int32) + a1)) (0 : Int32))) else (upd (G.2.1 b0) (Int32.toNatClampNeg ((48 : Int32) + a1)) (0 : Int32)))) = F_X12_goOut (G.2.1 b0) a1 := rfl
  have hS : va_S (AF Ty s.heap.size) s.heap s.heap [] := va_S.rf
  have L_30 : ∀ (n_30 : Nat) (H : Heap) (locs : List Loc) (G_30 : Gh) (y2_30 : Int32) (y3_30 : Int32) (ls : Array Slot), rgI (0) (23) a1 → rgI (0) (24) y3_30 → G_30 = aset G b0 (G_30.2.1 b0) → (24 - (y3_30).toInt).toNat < n_30 → lv_has ls 4 [(0, .ref b0), (1, .int a1), (2, .int y2_30), (3, .int y3_30)] → (F_X12_goOut_30  n_30 a1 y2_30 y3_30 (G_30.2.1 b0)) = F_X12_goOut (G.2.1 b0) a1 → HT g Ty G_30 H → va_S (AF Ty s.heap.size) s.heap H locs → Wm p l e (wsG yX12_goOut cX12_goOut 4 none) ({ frames := 3, cells := 0, slots := 0, locals := 66 }) s m [.ref b0, .int a1] below meth c H locs (0) (0) (QwV g Ty s.heap.size (fun u => u.1 = Ty ∧ u.2 = aset G b0 (F_X12_goOut (G.2.1 b0) a1))) 0 0 (AF Ty s.heap.size) (F0 m 30 ls []) := by
    intro n_30
    induction n_30 with
    | zero => intro H locs G_30 y2_30 y3_30 ls ry1_30 ry3_30 hgl_30 hm; exact absurd hm (Nat.not_lt_zero _)
    | succ n_30 ih_30 =>
      intro H locs G_30 y2_30 y3_30 ls ry1_30 ry3_30 hgl_30 hm_30 hl hv hH hS
      have L_66 : ∀ (H : Heap) (locs : List Loc) (G_66 : Gh) (ls : Array Slot), rgI (0) (23) a1 → rgI (0) (23) y3_30 → G_66 = aset G b0 (G_66.2.1 b0) → lv_has ls 4 [(0, .ref b0), (1, .int a1), (2, .int y2_30), (3, .int y3_30)] → (F_X12_goOut_30  n_30 a1 y2_30 (y3_30 + (1 : Int32)) (G_66.2.1 b0)) = F_X12_goOut (G.2.1 b0) a1 → HT g Ty G_66 H → va_S (AF Ty s.heap.size) s.heap H locs → Wm p l e (wsG yX12_goOut cX12_goOut 4 none) ({ frames := 3, cells := 0, slots := 0, locals := 66 }) s m [.ref b0, .int a1] below meth c H locs (0) (0) (QwV g Ty s.heap.size (fun u => u.1 = Ty ∧ u.2 = aset G b0 (F_X12_goOut (G.2.1 b0) a1))) 0 0 (AF Ty s.heap.size) (F0 m 66 ls []) := by
        intro H locs G_66 ls ry1_66 ry3_66 hgl_66 hl hv hH hS
        obtain ⟨x_1, ex_1⟩ : ∃ y : Int32, y = y3_30 + 1 := ⟨_, rfl⟩
        try rw [← ex_1] at hv
        have rx_1 : rgI (1) (24) x_1 := by rw [ex_1]; exact rg_w (rg_add ry3_66 rl_1 (by decide) (by decide)) (by decide) (by decide)
        have qx_1 : x_1.toInt = (y3_30 : Int32).toInt + 1 := by rw [ex_1]; exact rg_addE ry3_66 rl_1 (by decide) (by decide)
        refine lv_iinc (v := x_1) (lv' := [(3, .int x_1), (0, .ref b0), (1, .int a1), (2, .int y2_30)]) hx hb dX12_goOut_66 hl (k := 3) rfl (by rw [ex_1]; rfl) (by decide) rfl (fun ls hl => ?_)
        refine lv_goto (tgt := 30) hx hb dX12_goOut_69 (by decide) ?_
        exact ih_30 H locs G_66 y2_30 x_1 ls ry1_66 (rg_w rx_1 (by decide) (by decide)) hgl_66 (by have h1 := qx_1; have h2 := ry3_66.1; have h3 := ry3_66.2; have h4 := hm_30; omega) (lv_sub hl [1, 2, 3, 0] rfl) hv hH hS
      rw [F_X12_goOut_30] at hv
      refine lv_iload_n hx hb dX12_goOut_30 rfl (lv_at hl 3 rfl) ?_
      refine lv_bipush (v := 24) hx hb dX12_goOut_31 (by decide) ?_
      refine lv_icmp_ge (tgt := 72) hx hb dX12_goOut_33 (by decide) (fun c_2 => ?_) (fun c_2 => ?_)
      · rw [if_pos c_2] at hv
        have r_3 : rgI (24) (24) y3_30 := rg_w (rg_leR rl_24 ry3_30 c_2) (by decide) (by decide)
        exact W.vret hx hb hr (fun t ht hWm => ⟨⟨(Ty, G_30), rfl, ⟨rfl, (by rw [← hv]; exact hgl_30)⟩, by show HT g Ty G_30 t.heap; rw [ht]; exact hH⟩, hS.F ht⟩) hS.2.2 dX12_goOut_72
      · rw [if_neg c_2] at hv
        have r_4 : rgI (0) (23) y3_30 := rg_w (rg_ltL ry3_30 rl_24 (nle_lt c_2)) (by decide) (by decide)
        refine lv_aload_n hx hb dX12_goOut_36 rfl (lv_at hl 0 rfl) ?_
        refine lv_iload_n hx hb dX12_goOut_37 rfl (lv_at hl 3 rfl) ?_
        refine vp_callSi (W.runS (As := [.ref b0, .int y3_30]) (rest := []) ⟨hx, hb, hml, hown, hts⟩ (c_X12_isThere l g Ty G_30 b0 y3_30 k_b0) (cwSx 2 hts hG (gwC mw_1520) mw_88 mw_1518 mw_1519 rfl rfl rfl hd_X12_isThere ⟨Nat.le_of_ble_eq_true rfl, Nat.le_of_ble_eq_true rfl⟩) ⟨PcH_blind, PcH_pre hK hH⟩ rfl rfl hl.1 rfl (lv_room (Nat.le_of_ble_eq_true rfl)) dX12_goOut_38 ⟨Nat.zero_le _, Nat.zero_le _⟩) (fun x_5 hx_5 => ?_)
        have rx_5 : rgI (0) (1) x_5 := hx_5.1
        try rw [← hx_5.2.2] at hv
        refine lv_if_eq (tgt := 66) hx hb dX12_goOut_41 (by decide) (fun c_6 => ?_) (fun c_6 => ?_)
        · rw [if_pos c_6] at hv
          have r_7 : rgI (0) (0) x_5 := rg_w (rg_eq rl_0 c_6) (by decide) (by decide)
          exact L_66 H locs G_30 ls ry1_30 r_4 hgl_30 (lv_sub hl [0, 1, 2, 3] rfl) hv hH hS
        · rw [if_neg c_6] at hv
          have r_8 : rgI (1) (1) x_5 := rg_w (rg_neL rx_5 rl_0 c_6) (by decide) (by decide)
          refine lv_aload_n hx hb dX12_goOut_44 rfl (lv_at hl 0 rfl) ?_
          refine lv_bipush (v := 72) hx hb dX12_goOut_45 (by decide) ?_
          refine lv_iload_n hx hb dX12_goOut_47 rfl (lv_at hl 3 rfl) ?_
          refine lv_iadd hx hb dX12_goOut_48 ?_
          refine lv_topi (fun x_9 ex_9 => ?_)
          try rw [← ex_9] at hv
          have rx_9 : rgI (72) (95) x_9 := by rw [ex_9]; exact rg_w (rg_add rl_72 r_4 (by decide) (by decide)) (by decide) (by decide)
          obtain ⟨_, rfl, o_c_10⟩ := hH b0 _ k_b0
          have o_c_10 : va_at g.1 vwCl (b0, .inl (g.2.1 1, 122, .inl (G_30.2.1 b0))) H := o_c_10
          refine hg_iald hx hb hK o_c_10 (rg_in (n := 122) rx_9 (by decide) (by decide)) dX12_goOut_49 ?_
          refine lv_topi (fun x_11 ex_11 => ?_)
          try rw [← ex_11] at hv
          refine lv_iload_n hx hb dX12_goOut_50 rfl (lv_at hl 2 rfl) ?_
          refine lv_icmp_ne (tgt := 66) hx hb dX12_goOut_51 (by decide) (fun c_12 => ?_) (fun c_12 => ?_)
          · rw [if_neg c_12] at hv
            exact L_66 H locs G_30 ls ry1_30 r_4 hgl_30 (lv_sub hl [0, 1, 2, 3] rfl) hv hH hS
          · rw [if_pos c_12] at hv
            refine lv_aload_n hx hb dX12_goOut_54 rfl (lv_at hl 0 rfl) ?_
            refine lv_bipush (v := 72) hx hb dX12_goOut_55 (by decide) ?_
            refine lv_iload_n hx hb dX12_goOut_57 rfl (lv_at hl 3 rfl) ?_
            refine lv_iadd hx hb dX12_goOut_58 ?_
            refine lv_topi (fun x_13 ex_13 => ?_)
            try rw [← ex_13] at hv
            have rx_13 : rgI (72) (95) x_13 := by rw [ex_13]; exact rg_w (rg_add rl_72 r_4 (by decide) (by decide)) (by decide) (by decide)
            have q_14 : x_9 = x_13 := ex_9.trans ex_13.symm
            subst q_14
            refine lv_aload_n hx hb dX12_goOut_59 rfl (lv_at hl 0 rfl) ?_
            refine lv_bipush (v := 72) hx hb dX12_goOut_60 (by decide) ?_
            refine lv_iload_n hx hb dX12_goOut_62 rfl (lv_at hl 1 rfl) ?_
            refine lv_iadd hx hb dX12_goOut_63 ?_
            refine lv_topi (fun x_15 ex_15 => ?_)
            try rw [← ex_15] at hv
            have rx_15 : rgI (72) (95) x_15 := by rw [ex_15]; exact rg_w (rg_add rl_72 ry1_30 (by decide) (by decide)) (by decide) (by decide)
            refine hg_iald hx hb hK o_c_10 (rg_in (n := 122) rx_15 (by decide) (by decide)) dX12_goOut_64 ?_
            refine lv_topi (fun x_16 ex_16 => ?_)
            try rw [← ex_16] at hv
            refine hg_iast hx hb hK hS o_c_10 (AF.of k_b0) (rg_in (n := 122) rx_13 (by decide) (by decide)) dX12_goOut_65 (fun H locs o_c_10 hz oq hS => ?_)
            obtain ⟨G_17, eG_17⟩ : ∃ z : Gh, z = aset G_30 b0 (upd (G_30.2.1 b0) (x_9 : Int32).toNatClampNeg x_16) := ⟨_, rfl⟩
            have hH : HT g Ty G_17 H := by rw [eG_17]; exact HT.putA (upd (G_30.2.1 b0) (x_9 : Int32).toNatClampNeg x_16) hH k_b0 cf30 o_c_10 oq
            have feG_17 : G_17.2.1 b0 = (upd (G_30.2.1 b0) (x_9 : Int32).toNatClampNeg x_16) := by rw [eG_17]; exact aset_eq
            try rw [← feG_17] at hv
            have hgG_17 : G_17 = aset G b0 (G_17.2.1 b0) := as_step hgl_30 eG_17
            clear oq hz
            exact L_66 H locs G_17 ls ry1_30 r_4 hgG_17 (lv_sub hl [0, 1, 2, 3] rfl) hv hH hS
  refine lv_aload_n hx hb dX12_goOut_0 rfl (lv_at hl 0 rfl) ?_
  refine lv_bipush (v := 48) hx hb dX12_goOut_1 (by decide) ?_
  refine lv_iload_n hx hb dX12_goOut_3 rfl (lv_at hl 1 rfl) ?_
  refine lv_iadd hx hb dX12_goOut_4 ?_
  refine lv_topi (fun x_18 ex_18 => ?_)
  try rw [← ex_18] at hv
  have rx_18 : rgI (48) (71) x_18 := by rw [ex_18]; exact rg_w (rg_add rl_48 pr1 (by decide) (by decide)) (by decide) (by decide)
  obtain ⟨_, rfl, o_c_19⟩ := hH b0 _ k_b0
  have o_c_19 : va_at g.1 vwCl (b0, .inl (g.2.1 1, 122, .inl (G.2.1 b0))) s.heap := o_c_19
  refine hg_iald hx hb hK o_c_19 (rg_in (n := 122) rx_18 (by decide) (by decide)) dX12_goOut_5 ?_
  refine lv_topi (fun x_20 ex_20 => ?_)
  try rw [← ex_20] at hv
  refine lv_istore_n (lv' := [(2, .int x_20), (0, .ref b0), (1, .int a1)]) hx hb dX12_goOut_6 rfl hl (by decide) rfl (fun ls hl => ?_)
  refine lv_iload_n hx hb dX12_goOut_7 rfl (lv_at hl 0 rfl) ?_
  refine lv_if_ne (tgt := 12) hx hb dX12_goOut_8 (by decide) (fun c_21 => ?_) (fun c_21 => ?_)
  · rw [if_neg c_21] at hv
    refine lv_aload_n hx hb dX12_goOut_12 rfl (lv_at hl 1 rfl) ?_
    refine lv_bipush (v := 48) hx hb dX12_goOut_13 (by decide) ?_
    refine lv_iload_n hx hb dX12_goOut_15 rfl (lv_at hl 2 rfl) ?_
    refine lv_iadd hx hb dX12_goOut_16 ?_
    refine lv_topi (fun x_22 ex_22 => ?_)
    try rw [← ex_22] at hv
    have rx_22 : rgI (48) (71) x_22 := by rw [ex_22]; exact rg_w (rg_add rl_48 pr1 (by decide) (by decide)) (by decide) (by decide)
    have q_23 : x_18 = x_22 := ex_18.trans ex_22.symm
    subst q_23
    refine lv_iconst (v := 0) hx hb dX12_goOut_17 (by decide) ?_
    refine hg_iast hx hb hK hS o_c_19 (AF.of k_b0) (rg_in (n := 122) rx_22 (by decide) (by decide)) dX12_goOut_18 (fun H locs o_c_19 hz oq hS => ?_)
    obtain ⟨G_24, eG_24⟩ : ∃ z : Gh, z = aset G b0 (upd (G.2.1 b0) (x_18 : Int32).toNatClampNeg 0) := ⟨_, rfl⟩
    have hH : HT g Ty G_24 H := by rw [eG_24]; exact HT.putA (upd (G.2.1 b0) (x_18 : Int32).toNatClampNeg 0) hH k_b0 cf30 o_c_19 oq
    have feG_24 : G_24.2.1 b0 = (upd (G.2.1 b0) (x_18 : Int32).toNatClampNeg 0) := by rw [eG_24]; exact aset_eq
    try rw [← feG_24] at hv
    have hgG_24 : G_24 = aset G b0 (G_24.2.1 b0) := as_step aset_id.symm eG_24
    clear oq hz
    refine lv_aload_n hx hb dX12_goOut_19 rfl (lv_at hl 1 rfl) ?_
    refine lv_iload_n hx hb dX12_goOut_20 rfl (lv_at hl 0 rfl) ?_
    refine vp_callSi (W.runS (As := [.ref b0, .int x_20]) (rest := []) ⟨hx, hb, hml, hown, hts⟩ (c_X12_inGroup l g Ty G_24 b0 x_20 k_b0) (cwSx 2 hts hG (gwC mw_1566) mw_88 mw_1564 mw_1565 rfl rfl rfl hd_X12_inGroup ⟨Nat.le_of_ble_eq_true rfl, Nat.le_of_ble_eq_true rfl⟩) ⟨PcH_blind, PcH_pre hK hH⟩ rfl rfl hl.1 rfl (lv_room (Nat.le_of_ble_eq_true rfl)) dX12_goOut_21 ⟨Nat.zero_le _, Nat.zero_le _⟩) (fun x_25 hx_25 => ?_)
    try rw [← hx_25] at hv
    refine lv_if_eq (tgt := 28) hx hb dX12_goOut_24 (by decide) (fun c_26 => ?_) (fun c_26 => ?_)
    · rw [if_pos c_26] at hv
      have r_27 : rgI (0) (0) x_25 := rg_w (rg_eq rl_0 c_26) (by decide) (by decide)
      refine lv_iconst (v := 0) hx hb dX12_goOut_28 (by decide) ?_
      refine lv_istore_n (lv' := [(3, .int 0), (2, .int x_20), (0, .ref b0), (1, .int a1)]) hx hb dX12_goOut_29 rfl hl (by decide) rfl (fun ls hl => ?_)
      exact L_30 26 H locs G_24 x_20 0 ls pr1 (rg_w rl_0 (by decide) (by decide)) hgG_24 (by decide) (lv_sub hl [2, 3, 1, 0] rfl) hv hH hS
    · rw [if_neg c_26] at hv
      exact W.vret hx hb hr (fun t ht hWm => ⟨⟨(Ty, G_24), rfl, ⟨rfl, (by rw [← hv]; exact hgG_24)⟩, by show HT g Ty G_24 t.heap; rw [ht]; exact hH⟩, hS.F ht⟩) hS.2.2 dX12_goOut_27
  · rw [if_pos c_21] at hv
    have r_28 : rgI (0) (0) x_20 := rg_w (rg_eq rl_0 c_21) (by decide) (by decide)
    exact W.vret hx hb hr (fun t ht hWm => ⟨⟨(Ty, G), rfl, ⟨rfl, (by rw [← hv]; exact aset_id.symm)⟩, by show HT g Ty G t.heap; rw [ht]; exact hH⟩, hS.F ht⟩) hS.2.2 dX12_goOut_11

def F_X12_goMake (f0 : Nat → Int32) (a1 : Int32) (a2 : Int32) : (Nat → Int32) := (if a2 = (1 : Int32) then (if ((upd f0 (Int32.toNatClampNeg ((96 : Int32) + a1)) (0 : Int32)) (Int32.toNatClampNeg ((48 : Int32) + a1))) = (0 : Int32) then (upd (upd (F_X12_newGroup (upd f0 (Int32.toNatClampNeg ((96 : Int32) + a1)) (0 : Int32))).2 (Int32.toNatClampNeg ((48 : Int32) + a1)) (F_X12_newGroup (upd f0 (Int32.toNatClampNeg ((96 : Int32) + a1)) (0 : Int32))).1) (Int32.toNatClampNeg (120 : Int32)) (((upd (F_X12_newGroup (upd f0 (Int32.toNatClampNeg ((96 : Int32) + a1)) (0 : Int32))).2 (Int32.toNatClampNeg ((48 : Int32) + a1)) (F_X12_newGroup (upd f0 (Int32.toNatClampNeg ((96 : Int32) + a1)) (0 : Int32))).1) (Int32.toNatClampNeg (120 : Int32))) + (1 : Int32))) else (upd (upd f0 (Int32.toNatClampNeg ((96 : Int32) + a1)) (0 : Int32)) (Int32.toNatClampNeg (120 : Int32)) (((upd f0 (Int32.toNatClampNeg ((96 : Int32) + a1)) (0 : Int32)) (Int32.toNatClampNeg (120 : Int32))) + (1 : Int32)))) else (if a2 = (2 : Int32) then (if (F_J6_bitCount_0f7a4 (F_X12_inGroup f0 (f0 (Int32.toNatClampNeg ((48 : Int32) + a1))))) ≤ (1 : Int32) then (upd (F_X12_goOut f0 a1) (Int32.toNatClampNeg (120 : Int32)) (((F_X12_goOut f0 a1) (Int32.toNatClampNeg (120 : Int32))) + (1 : Int32))) else (upd (F_X12_goOut (upd f0 (Int32.toNatClampNeg ((72 : Int32) + a1)) (f0 (Int32.toNatClampNeg ((48 : Int32) + a1)))) a1) (Int32.toNatClampNeg (120 : Int32)) (((F_X12_goOut (upd f0 (Int32.toNatClampNeg ((72 : Int32) + a1)) (f0 (Int32.toNatClampNeg ((48 : Int32) + a1)))) a1) (Int32.toNatClampNeg (120 : Int32))) + (1 : Int32)))) else (if a2 = (3 : Int32) then (upd (upd (upd (F_X12_goOut f0 a1) (Int32.toNatClampNeg ((72 : Int32) + a1)) (0 : Int32)) (Int32.toNatClampNeg ((96 : Int32) + a1)) (1 : Int32)) (Int32.toNatClampNeg (120 : Int32)) (((upd (upd (F_X12_goOut f0 a1) (Int32.toNatClampNeg ((72 : Int32) + a1)) (0 : Int32)) (Int32.toNatClampNeg ((96 : Int32) + a1)) (1 : Int32)) (Int32.toNatClampNeg (120 : Int32))) + (1 : Int32))) else (upd (upd (upd (F_X12_goOut f0 a1) (Int32.toNatClampNeg ((72 : Int32) + a1)) (0 : Int32)) (Int32.toNatClampNeg ((96 : Int32) + a1)) (0 : Int32)) (Int32.toNatClampNeg (120 : Int32)) (((upd (upd (F_X12_goOut f0 a1) (Int32.toNatClampNeg ((72 : Int32) + a1)) (0 : Int32)) (Int32.toNatClampNeg ((96 : Int32) + a1)) (0 : Int32)) (Int32.toNatClampNeg (120 : Int32))) + (1 : Int32))))))
set_option maxHeartbeats 4000000 in
set_option maxRecDepth 100000 in
theorem c_X12_goMake (l : Launch) (g : Gx) (Ty : TyM) (G : Gh) (sz : Nat) (b0 : Nat) (a1 : Int32) (a2 : Int32) (k_b0 : Ty b0 = some (30, 122)) (pr1 : rgI (0) (23) a1) : Met l yX12_goMake (wsG yX12_goMake cX12_goMake 3 none) ({ frames := 4, cells := 0, slots := 0, locals := 89 }) (PcT g Ty G sz [.ref b0, .int a1, .int a2]) (QwV g Ty sz (fun u => u.1 = Ty ∧ u.2 = aset G b0 (F_X12_goMake (G.2.1 b0) a1 a2))) 0 0 (AF Ty sz) := by
  refine Met.ofW (cc := cX12_goMake) (maxL := 3) (ret := none) (by decide) rfl ?_
  intro p e s m args below meth c s₁ B hml hv
  obtain ⟨rfl, hsz, hK, hH⟩ := hv
  subst hsz
  have hx := B.exec
  have hb := B.bytes
  have hr := B.returns
  have hts := atoms_spec (ws := (wsG yX12_goMake cX12_goMake 3 none)) B.pre
  have hG : ∀ w ∈ GW, w.before ([.ref b0, .int a1, .int a2] : List Value).toArray s = true := fun w h => hts w (List.mem_cons_of_mem _ h)
  have hown : s.vm.findClass RX12 = some m.cls := findClass_of_methodNamed B.named
  have hlocks := B.notSynchronized
  have hl := lv_entry [.ref b0, .int a1, .int a2] (n := 3) (Nat.le_of_ble_eq_true rfl)
  rw [lg_entry_eq]
  generalize (lg_sl [.ref b0, .int a1, .int a2] ++ List.replicate (3 - (lg_sl [.ref b0, .int a1, .int a2]).length) Slot.unset).toArray = ls at hl ⊢
  have hl : lv_has ls 3 [(0, .ref b0), (1, .int a1), (2, .int a2)] := hl
  have hv : (if a2 = (1 : Int32) then (if ((upd (G.2.1 b0) (Int32.toNatClampNeg ((96 : Int32) + a1)) (0 : Int32)) (Int32.toNatClampNeg ((48 : Int32) + a1))) = (0 : Int32) then (upd (upd (F_X12_newGroup (upd (G.2.1 b0) (Int32.toNatClampNeg ((96 : Int32) + a1)) (0 : Int32))).2 (Int32.toNatClampNeg ((48 : Int32) + a1)) (F_X12_newGroup (upd (G.2.1 b0) (Int32.toNatClampNeg ((96 : Int32) + a1)) (0 : Int32))).1) (Int32.toNatClampNeg (120 : Int32)) (((upd (F_X12_newGroup (upd (G.2.1 b0) (Int32.toNatClampNeg ((96 : Int32) + a1)) (0 : Int32))).2 (Int32.toNatClampNeg ((48 : Int32) + a1)) (F_X12_newGroup (upd (G.2.1 b0) (Int32.toNatClampNeg ((96 : Int32) + a1)) (0 : Int32))).1) (Int32.toNatClampNeg (120 : Int32))) + (1 : Int32))) else (upd (upd (G.2.1 b0) (Int32.toNatClampNeg ((96 : Int32) + a1)) (0 : Int32)) (Int32.toNatClampNeg (120 : Int32)) (((upd (G.2.1 b0) (Int32.toNatClampNeg ((96 : Int32) + a1)) (0 : Int32)) (Int32.toNatClampNeg (120 : Int32))) + (1 : Int32)))) else (if a2 = (2 : Int32) then (if (F_J6_bitCount_0f7a4 (F_X12_inGroup (G.2.1 b0) ((G.2.1 b0) (Int32.toNatClampNeg ((48 : Int32) + a1))))) ≤ (1 : Int32) then (upd (F_X12_goOut (G.2.1 b0) a1) (Int32.toNatClampNeg (120 : Int32)) (((F_X12_goOut (G.2.1 b0) a1) (Int32.toNatClampNeg (120 : Int32))) + (1 : Int32))) else (upd (F_X12_goOut (upd (G.2.1 b0) (Int32.toNatClampNeg ((72 : Int32) + a1)) ((G.2.1 b0) (Int32.toNatClampNeg ((48 : Int32) + a1)))) a1) (Int32.toNatClampNeg (120 : Int32)) (((F_X12_goOut (upd (G.2.1 b0) (Int32.toNatClampNeg ((72 : Int32) + a1)) ((G.2.1 b0) (Int32.toNatClampNeg ((48 : Int32) + a1)))) a1) (Int32.toNatClampNeg (120 : Int32))) + (1 : Int32)))) else (if a2 = (3 : Int32) then (upd (upd (upd (F_X12_goOut (G.2.1 b0) a1) (Int32.toNatClampNeg ((72 : Int32) + a1)) (0 : Int32)) (Int32.toNatClampNeg ((96 : Int32) + a1)) (1 : Int32)) (Int32.toNatClampNeg (120 : Int32)) (((upd (upd (F_X12_goOut (G.2.1 b0) a1) (Int32.toNatClampNeg ((72 : Int32) + a1)) (0 : Int32)) (Int32.toNatClampNeg ((96 : Int32) + a1)) (1 : Int32)) (Int32.toNatClampNeg (120 : Int32))) + (1 : Int32))) else (upd (upd (upd (F_X12_goOut (G.2.1 b0) a1) (Int32.toNatClampNeg ((72 : Int32) + a1)) (0 : Int32)) (Int32.toNatClampNeg ((96 : Int32) + a1)) (0 : Int32)) (Int32.toNatClampNeg (120 : Int32)) (((upd (upd (F_X12_goOut (G.2.1 b0) a1) (Int32.toNatClampNeg ((72 : Int32) + a1)) (0 : Int32)) (Int32.toNatClampNeg ((96 : Int32) + a1)) (0 : Int32)) (Int32.toNatClampNeg (120 : Int32))) + (1 : Int32)))))) = F_X12_goMake (G.2.1 b0) a1 a2 := rfl
  have hS : va_S (AF Ty s.heap.size) s.heap s.heap [] := va_S.rf
  have L_122 : ∀ (H : Heap) (locs : List Loc) (G_122 : Gh) (ls : Array Slot), G_122 = aset G b0 (G_122.2.1 b0) → lv_has ls 3 [(0, .ref b0)] → (upd (G_122.2.1 b0) (Int32.toNatClampNeg (120 : Int32)) (((G_122.2.1 b0) (Int32.toNatClampNeg (120 : Int32))) + (1 : Int32))) = F_X12_goMake (G.2.1 b0) a1 a2 → HT g Ty G_122 H → va_S (AF Ty s.heap.size) s.heap H locs → Wm p l e (wsG yX12_goMake cX12_goMake 3 none) ({ frames := 4, cells := 0, slots := 0, locals := 89 }) s m [.ref b0, .int a1, .int a2] below meth c H locs (0) (0) (QwV g Ty s.heap.size (fun u => u.1 = Ty ∧ u.2 = aset G b0 (F_X12_goMake (G.2.1 b0) a1 a2))) 0 0 (AF Ty s.heap.size) (F0 m 122 ls []) := by
    intro H locs G_122 ls hgl_122 hl hv hH hS
    refine lv_aload_n hx hb dX12_goMake_122 rfl (lv_at hl 0 rfl) ?_
    refine lv_bipush (v := 120) hx hb dX12_goMake_123 (by decide) ?_
    refine lv_dup2_11 hx hb dX12_goMake_125 rfl rfl ?_
    obtain ⟨_, rfl, o_c_1⟩ := hH b0 _ k_b0
    have o_c_1 : va_at g.1 vwCl (b0, .inl (g.2.1 1, 122, .inl (G_122.2.1 b0))) H := o_c_1
    refine hg_iald hx hb hK o_c_1 (rg_in (n := 122) rl_120 (by decide) (by decide)) dX12_goMake_126 ?_
    refine lv_topi (fun x_2 ex_2 => ?_)
    try rw [← ex_2] at hv
    refine lv_iconst (v := 1) hx hb dX12_goMake_127 (by decide) ?_
    refine lv_iadd hx hb dX12_goMake_128 ?_
    refine lv_topi (fun x_3 ex_3 => ?_)
    try rw [← ex_3] at hv
    refine hg_iast hx hb hK hS o_c_1 (AF.of k_b0) (rg_in (n := 122) rl_120 (by decide) (by decide)) dX12_goMake_129 (fun H locs o_c_1 hz oq hS => ?_)
    obtain ⟨G_4, eG_4⟩ : ∃ z : Gh, z = aset G_122 b0 (upd (G_122.2.1 b0) (120 : Int32).toNatClampNeg x_3) := ⟨_, rfl⟩
    have hH : HT g Ty G_4 H := by rw [eG_4]; exact HT.putA (upd (G_122.2.1 b0) (120 : Int32).toNatClampNeg x_3) hH k_b0 cf30 o_c_1 oq
    have feG_4 : G_4.2.1 b0 = (upd (G_122.2.1 b0) (120 : Int32).toNatClampNeg x_3) := by rw [eG_4]; exact aset_eq
    try rw [← feG_4] at hv
    have hgG_4 : G_4 = aset G b0 (G_4.2.1 b0) := as_step hgl_122 eG_4
    clear oq hz
    exact W.vret hx hb hr (fun t ht hWm => ⟨⟨(Ty, G_4), rfl, ⟨rfl, (by rw [← hv]; exact hgG_4)⟩, by show HT g Ty G_4 t.heap; rw [ht]; exact hH⟩, hS.F ht⟩) hS.2.2 dX12_goMake_130
  have L_121 : ∀ (H : Heap) (locs : List Loc) (G_121 : Gh) (z0_121 : Int32) (z1_121 : Int32) (ls : Array Slot), rgI (0) (1) z0_121 → rgI (96) (119) z1_121 → G_121 = aset G b0 (G_121.2.1 b0) → lv_has ls 3 [(0, .ref b0)] → (upd (upd (G_121.2.1 b0) (Int32.toNatClampNeg z1_121) z0_121) (Int32.toNatClampNeg (120 : Int32)) (((upd (G_121.2.1 b0) (Int32.toNatClampNeg z1_121) z0_121) (Int32.toNatClampNeg (120 : Int32))) + (1 : Int32))) = F_X12_goMake (G.2.1 b0) a1 a2 → HT g Ty G_121 H → va_S (AF Ty s.heap.size) s.heap H locs → Wm p l e (wsG yX12_goMake cX12_goMake 3 none) ({ frames := 4, cells := 0, slots := 0, locals := 89 }) s m [.ref b0, .int a1, .int a2] below meth c H locs (0) (0) (QwV g Ty s.heap.size (fun u => u.1 = Ty ∧ u.2 = aset G b0 (F_X12_goMake (G.2.1 b0) a1 a2))) 0 0 (AF Ty s.heap.size) (F0 m 121 ls [.int z0_121, .int z1_121, .ref b0]) := by
    intro H locs G_121 z0_121 z1_121 ls rz0_121 rz1_121 hgl_121 hl hv hH hS
    obtain ⟨_, rfl, o_c_5⟩ := hH b0 _ k_b0
    have o_c_5 : va_at g.1 vwCl (b0, .inl (g.2.1 1, 122, .inl (G_121.2.1 b0))) H := o_c_5
    refine hg_iast hx hb hK hS o_c_5 (AF.of k_b0) (rg_in (n := 122) rz1_121 (by decide) (by decide)) dX12_goMake_121 (fun H locs o_c_5 hz oq hS => ?_)
    obtain ⟨G_6, eG_6⟩ : ∃ z : Gh, z = aset G_121 b0 (upd (G_121.2.1 b0) (z1_121 : Int32).toNatClampNeg z0_121) := ⟨_, rfl⟩
    have hH : HT g Ty G_6 H := by rw [eG_6]; exact HT.putA (upd (G_121.2.1 b0) (z1_121 : Int32).toNatClampNeg z0_121) hH k_b0 cf30 o_c_5 oq
    have feG_6 : G_6.2.1 b0 = (upd (G_121.2.1 b0) (z1_121 : Int32).toNatClampNeg z0_121) := by rw [eG_6]; exact aset_eq
    try rw [← feG_6] at hv
    have hgG_6 : G_6 = aset G b0 (G_6.2.1 b0) := as_step hgl_121 eG_6
    clear oq hz
    exact L_122 H locs G_6 ls hgG_6 (lv_sub hl [0] rfl) hv hH hS
  have L_86 : ∀ (H : Heap) (locs : List Loc) (G_86 : Gh) (ls : Array Slot), rgI (0) (23) a1 → G_86 = aset G b0 (G_86.2.1 b0) → lv_has ls 3 [(0, .ref b0), (1, .int a1)] → (upd (F_X12_goOut (G_86.2.1 b0) a1) (Int32.toNatClampNeg (120 : Int32)) (((F_X12_goOut (G_86.2.1 b0) a1) (Int32.toNatClampNeg (120 : Int32))) + (1 : Int32))) = F_X12_goMake (G.2.1 b0) a1 a2 → HT g Ty G_86 H → va_S (AF Ty s.heap.size) s.heap H locs → Wm p l e (wsG yX12_goMake cX12_goMake 3 none) ({ frames := 4, cells := 0, slots := 0, locals := 89 }) s m [.ref b0, .int a1, .int a2] below meth c H locs (0) (0) (QwV g Ty s.heap.size (fun u => u.1 = Ty ∧ u.2 = aset G b0 (F_X12_goMake (G.2.1 b0) a1 a2))) 0 0 (AF Ty s.heap.size) (F0 m 86 ls []) := by
    intro H locs G_86 ls ry1_86 hgl_86 hl hv hH hS
    refine lv_aload_n hx hb dX12_goMake_86 rfl (lv_at hl 0 rfl) ?_
    refine lv_iload_n hx hb dX12_goMake_87 rfl (lv_at hl 1 rfl) ?_
    refine va_callv (va_runS (As := [.ref b0, .int a1]) (rest := []) ⟨hx, hb, hml, hown, hts⟩ (c_X12_goOut l g Ty G_86 H.size b0 a1 k_b0 (rg_w ry1_86 (by decide) (by decide))) (cwSx 2 hts hG (gwC mw_1648) mw_88 mw_1646 mw_1647 rfl rfl rfl hd_X12_goOut ⟨Nat.le_of_ble_eq_true rfl, Nat.le_of_ble_eq_true rfl⟩) ⟨PcT_blind, PcT_pre hK hH⟩ rfl rfl hl.1 rfl (lv_room (Nat.le_of_ble_eq_true rfl)) dX12_goMake_88 ⟨Nat.zero_le _, Nat.zero_le _⟩) hS (fun q _ h => AF.mono hS.1 h) (fun q h => AF.mono hS.1 h) (fun ux_7 t H locs ht hvm hx_7 hB hz hk hS => ?_)
    obtain ⟨eTx_7, eGx_7⟩ := hx_7
    obtain ⟨G_8, eG_8⟩ : ∃ z, z = ux_7.2 := ⟨_, rfl⟩
    rw [← eG_8] at eGx_7
    have feG_8 := as_eq eGx_7
    try rw [← feG_8] at hv
    have hgG_8 : G_8 = aset G b0 (G_8.2.1 b0) := as_step hgl_86 eGx_7
    have hH : HT g Ty G_8 H := by rw [← ht, ← eTx_7, eG_8]; exact hB
    refine lv_goto (tgt := 122) hx hb dX12_goMake_91 (by decide) ?_
    exact L_122 H locs G_8 ls hgG_8 (lv_sub hl [0] rfl) hv hH hS
  refine lv_iload_n hx hb dX12_goMake_0 rfl (lv_at hl 2 rfl) ?_
  by_cases c_9 : a2 = 1
  · refine lv_lookup (tgt := 28) (off := 27) hx hb dX12_goMake_1 (by decide) (by rw [c_9]; rfl) (by decide) ?_
    rw [if_pos c_9] at hv
    have r_10 : rgI (1) (1) a2 := rg_w (rg_eq rl_1 c_9) (by decide) (by decide)
    refine lv_aload_n hx hb dX12_goMake_28 rfl (lv_at hl 0 rfl) ?_
    refine lv_bipush (v := 96) hx hb dX12_goMake_29 (by decide) ?_
    refine lv_iload_n hx hb dX12_goMake_31 rfl (lv_at hl 1 rfl) ?_
    refine lv_iadd hx hb dX12_goMake_32 ?_
    refine lv_topi (fun x_11 ex_11 => ?_)
    try rw [← ex_11] at hv
    have rx_11 : rgI (96) (119) x_11 := by rw [ex_11]; exact rg_w (rg_add rl_96 pr1 (by decide) (by decide)) (by decide) (by decide)
    refine lv_iconst (v := 0) hx hb dX12_goMake_33 (by decide) ?_
    obtain ⟨_, rfl, o_c_12⟩ := hH b0 _ k_b0
    have o_c_12 : va_at g.1 vwCl (b0, .inl (g.2.1 1, 122, .inl (G.2.1 b0))) s.heap := o_c_12
    refine hg_iast hx hb hK hS o_c_12 (AF.of k_b0) (rg_in (n := 122) rx_11 (by decide) (by decide)) dX12_goMake_34 (fun H locs o_c_12 hz oq hS => ?_)
    obtain ⟨G_13, eG_13⟩ : ∃ z : Gh, z = aset G b0 (upd (G.2.1 b0) (x_11 : Int32).toNatClampNeg 0) := ⟨_, rfl⟩
    have hH : HT g Ty G_13 H := by rw [eG_13]; exact HT.putA (upd (G.2.1 b0) (x_11 : Int32).toNatClampNeg 0) hH k_b0 cf30 o_c_12 oq
    have feG_13 : G_13.2.1 b0 = (upd (G.2.1 b0) (x_11 : Int32).toNatClampNeg 0) := by rw [eG_13]; exact aset_eq
    try rw [← feG_13] at hv
    have hgG_13 : G_13 = aset G b0 (G_13.2.1 b0) := as_step aset_id.symm eG_13
    clear oq hz
    refine lv_aload_n hx hb dX12_goMake_35 rfl (lv_at hl 0 rfl) ?_
    refine lv_bipush (v := 48) hx hb dX12_goMake_36 (by decide) ?_
    refine lv_iload_n hx hb dX12_goMake_38 rfl (lv_at hl 1 rfl) ?_
    refine lv_iadd hx hb dX12_goMake_39 ?_
    refine lv_topi (fun x_14 ex_14 => ?_)
    try rw [← ex_14] at hv
    have rx_14 : rgI (48) (71) x_14 := by rw [ex_14]; exact rg_w (rg_add rl_48 pr1 (by decide) (by decide)) (by decide) (by decide)
    obtain ⟨_, rfl, o_c_15⟩ := hH b0 _ k_b0
    have o_c_15 : va_at g.1 vwCl (b0, .inl (g.2.1 1, 122, .inl (G_13.2.1 b0))) H := o_c_15
    refine hg_iald hx hb hK o_c_15 (rg_in (n := 122) rx_14 (by decide) (by decide)) dX12_goMake_40 ?_
    refine lv_topi (fun x_16 ex_16 => ?_)
    try rw [← ex_16] at hv
    refine lv_if_ne (tgt := 122) hx hb dX12_goMake_41 (by decide) (fun c_17 => ?_) (fun c_17 => ?_)
    · rw [if_neg c_17] at hv
      exact L_122 H locs G_13 ls hgG_13 (lv_sub hl [0] rfl) hv hH hS
    · rw [if_pos c_17] at hv
      have r_18 : rgI (0) (0) x_16 := rg_w (rg_eq rl_0 c_17) (by decide) (by decide)
      refine lv_aload_n hx hb dX12_goMake_44 rfl (lv_at hl 0 rfl) ?_
      refine lv_bipush (v := 48) hx hb dX12_goMake_45 (by decide) ?_
      refine lv_iload_n hx hb dX12_goMake_47 rfl (lv_at hl 1 rfl) ?_
      refine lv_iadd hx hb dX12_goMake_48 ?_
      refine lv_topi (fun x_19 ex_19 => ?_)
      try rw [← ex_19] at hv
      have rx_19 : rgI (48) (71) x_19 := by rw [ex_19]; exact rg_w (rg_add rl_48 pr1 (by decide) (by decide)) (by decide) (by decide)
      have q_20 : x_14 = x_19 := ex_14.trans ex_19.symm
      subst q_20
      refine lv_aload_n hx hb dX12_goMake_49 rfl (lv_at hl 0 rfl) ?_
      refine va_calli (va_runS (As := [.ref b0]) (rest := [.int x_14, .ref b0]) ⟨hx, hb, hml, hown, hts⟩ (c_X12_newGroup l g Ty G_13 H.size b0 k_b0) (cwSx 1 hts hG (gwC mw_1590) mw_88 mw_1588 mw_1589 rfl rfl rfl hd_X12_newGroup ⟨Nat.le_of_ble_eq_true rfl, Nat.le_of_ble_eq_true rfl⟩) ⟨PcT_blind, PcT_pre hK hH⟩ rfl rfl hl.1 rfl (lv_room (Nat.le_of_ble_eq_true rfl)) dX12_goMake_50 ⟨Nat.zero_le _, Nat.zero_le _⟩) hS (fun q _ h => AF.mono hS.1 h) (fun q h => AF.mono hS.1 h) (fun x_21 ux_21 t H locs ht hvm hx_21 hB hz hk hS => ?_)
      obtain ⟨eTx_21, eGx_21⟩ := hx_21
      obtain ⟨G_22, eG_22⟩ : ∃ z, z = ux_21.2 := ⟨_, rfl⟩
      rw [← eG_22] at eGx_21
      try rw [← eGx_21.1] at hv
      have feG_22 := as_eq eGx_21.2
      try rw [← feG_22] at hv
      have hgG_22 : G_22 = aset G b0 (G_22.2.1 b0) := as_step hgG_13 eGx_21.2
      have hH : HT g Ty G_22 H := by rw [← ht, ← eTx_21, eG_22]; exact hB
      obtain ⟨_, rfl, o_c_23⟩ := hH b0 _ k_b0
      have o_c_23 : va_at g.1 vwCl (b0, .inl (g.2.1 1, 122, .inl (G_22.2.1 b0))) H := o_c_23
      refine hg_iast hx hb hK hS o_c_23 (AF.of k_b0) (rg_in (n := 122) rx_19 (by decide) (by decide)) dX12_goMake_53 (fun H locs o_c_23 hz oq hS => ?_)
      obtain ⟨G_24, eG_24⟩ : ∃ z : Gh, z = aset G_22 b0 (upd (G_22.2.1 b0) (x_14 : Int32).toNatClampNeg x_21) := ⟨_, rfl⟩
      have hH : HT g Ty G_24 H := by rw [eG_24]; exact HT.putA (upd (G_22.2.1 b0) (x_14 : Int32).toNatClampNeg x_21) hH k_b0 cf30 o_c_23 oq
      have feG_24 : G_24.2.1 b0 = (upd (G_22.2.1 b0) (x_14 : Int32).toNatClampNeg x_21) := by rw [eG_24]; exact aset_eq
      try rw [← feG_24] at hv
      have hgG_24 : G_24 = aset G b0 (G_24.2.1 b0) := as_step hgG_22 eG_24
      clear oq hz
      refine lv_goto (tgt := 122) hx hb dX12_goMake_54 (by decide) ?_
      exact L_122 H locs G_24 ls hgG_24 (lv_sub hl [0] rfl) hv hH hS
  rw [if_neg c_9] at hv
  by_cases c_25 : a2 = 2
  · refine lv_lookup (tgt := 57) (off := 56) hx hb dX12_goMake_1 (by decide) (by rw [c_25]; rfl) (by decide) ?_
    rw [if_pos c_25] at hv
    have r_26 : rgI (2) (2) a2 := rg_w (rg_eq rl_2 c_25) (by decide) (by decide)
    refine lv_aload_n hx hb dX12_goMake_57 rfl (lv_at hl 0 rfl) ?_
    refine lv_aload_n hx hb dX12_goMake_58 rfl (lv_at hl 0 rfl) ?_
    refine lv_bipush (v := 48) hx hb dX12_goMake_59 (by decide) ?_
    refine lv_iload_n hx hb dX12_goMake_61 rfl (lv_at hl 1 rfl) ?_
    refine lv_iadd hx hb dX12_goMake_62 ?_
    refine lv_topi (fun x_27 ex_27 => ?_)
    try rw [← ex_27] at hv
    have rx_27 : rgI (48) (71) x_27 := by rw [ex_27]; exact rg_w (rg_add rl_48 pr1 (by decide) (by decide)) (by decide) (by decide)
    obtain ⟨_, rfl, o_c_28⟩ := hH b0 _ k_b0
    have o_c_28 : va_at g.1 vwCl (b0, .inl (g.2.1 1, 122, .inl (G.2.1 b0))) s.heap := o_c_28
    refine hg_iald hx hb hK o_c_28 (rg_in (n := 122) rx_27 (by decide) (by decide)) dX12_goMake_63 ?_
    refine lv_topi (fun x_29 ex_29 => ?_)
    try rw [← ex_29] at hv
    refine vp_callSi (W.runS (As := [.ref b0, .int x_29]) (rest := []) ⟨hx, hb, hml, hown, hts⟩ (c_X12_inGroup l g Ty G b0 x_29 k_b0) (cwSx 2 hts hG (gwC mw_1566) mw_88 mw_1564 mw_1565 rfl rfl rfl hd_X12_inGroup ⟨Nat.le_of_ble_eq_true rfl, Nat.le_of_ble_eq_true rfl⟩) ⟨PcH_blind, PcH_pre hK hH⟩ rfl rfl hl.1 rfl (lv_room (Nat.le_of_ble_eq_true rfl)) dX12_goMake_64 ⟨Nat.zero_le _, Nat.zero_le _⟩) (fun x_30 hx_30 => ?_)
    try rw [← hx_30] at hv
    refine vp_callSi (W.runS (As := [.int x_30]) (rest := []) ⟨hx, hb, hml, hown, hts⟩ (c_J6_bitCount_x l g Ty G x_30 ) (cwSx 1 hts hG (gwC mw_620) mw_99 mw_1553 mw_619 rfl rfl rfl hd_J6_bitCount_0f7a4 ⟨Nat.le_of_ble_eq_true rfl, Nat.le_of_ble_eq_true rfl⟩) ⟨PcH_blind, PcH_pre hK hH⟩ rfl rfl hl.1 rfl (lv_room (Nat.le_of_ble_eq_true rfl)) dX12_goMake_67 ⟨Nat.zero_le _, Nat.zero_le _⟩) (fun x_31 hx_31 => ?_)
    have rx_31 : rgI (0) (63) x_31 := hx_31.1
    try rw [← hx_31.2] at hv
    refine lv_iconst (v := 1) hx hb dX12_goMake_70 (by decide) ?_
    refine lv_icmp_le (tgt := 86) hx hb dX12_goMake_71 (by decide) (fun c_32 => ?_) (fun c_32 => ?_)
    · rw [if_pos c_32] at hv
      have r_33 : rgI (0) (1) x_31 := rg_w (rg_leL rx_31 rl_1 c_32) (by decide) (by decide)
      exact L_86 s.heap [] G ls pr1 (aset_id.symm) (lv_sub hl [0, 1] rfl) hv hH hS
    · rw [if_neg c_32] at hv
      have r_34 : rgI (2) (63) x_31 := rg_w (rg_ltR rl_1 rx_31 (nle_lt c_32)) (by decide) (by decide)
      refine lv_aload_n hx hb dX12_goMake_74 rfl (lv_at hl 0 rfl) ?_
      refine lv_bipush (v := 72) hx hb dX12_goMake_75 (by decide) ?_
      refine lv_iload_n hx hb dX12_goMake_77 rfl (lv_at hl 1 rfl) ?_
      refine lv_iadd hx hb dX12_goMake_78 ?_
      refine lv_topi (fun x_35 ex_35 => ?_)
      try rw [← ex_35] at hv
      have rx_35 : rgI (72) (95) x_35 := by rw [ex_35]; exact rg_w (rg_add rl_72 pr1 (by decide) (by decide)) (by decide) (by decide)
      refine lv_aload_n hx hb dX12_goMake_79 rfl (lv_at hl 0 rfl) ?_
      refine lv_bipush (v := 48) hx hb dX12_goMake_80 (by decide) ?_
      refine lv_iload_n hx hb dX12_goMake_82 rfl (lv_at hl 1 rfl) ?_
      refine lv_iadd hx hb dX12_goMake_83 ?_
      refine lv_topi (fun x_36 ex_36 => ?_)
      try rw [← ex_36] at hv
      have rx_36 : rgI (48) (71) x_36 := by rw [ex_36]; exact rg_w (rg_add rl_48 pr1 (by decide) (by decide)) (by decide) (by decide)
      have q_37 : x_27 = x_36 := ex_27.trans ex_36.symm
      subst q_37
      refine hg_iald hx hb hK o_c_28 (rg_in (n := 122) rx_36 (by decide) (by decide)) dX12_goMake_84 ?_
      refine lv_topi (fun x_38 ex_38 => ?_)
      try rw [← ex_38] at hv
      have q_39 : x_29 = x_38 := ex_29.trans ex_38.symm
      subst q_39
      refine hg_iast hx hb hK hS o_c_28 (AF.of k_b0) (rg_in (n := 122) rx_35 (by decide) (by decide)) dX12_goMake_85 (fun H locs o_c_28 hz oq hS => ?_)
      obtain ⟨G_40, eG_40⟩ : ∃ z : Gh, z = aset G b0 (upd (G.2.1 b0) (x_35 : Int32).toNatClampNeg x_29) := ⟨_, rfl⟩
      have hH : HT g Ty G_40 H := by rw [eG_40]; exact HT.putA (upd (G.2.1 b0) (x_35 : Int32).toNatClampNeg x_29) hH k_b0 cf30 o_c_28 oq
      have feG_40 : G_40.2.1 b0 = (upd (G.2.1 b0) (x_35 : Int32).toNatClampNeg x_29) := by rw [eG_40]; exact aset_eq
      try rw [← feG_40] at hv
      have hgG_40 : G_40 = aset G b0 (G_40.2.1 b0) := as_step aset_id.symm eG_40
      clear oq hz
      exact L_86 H locs G_40 ls pr1 hgG_40 (lv_sub hl [0, 1] rfl) hv hH hS
  rw [if_neg c_25] at hv
  refine lv_lookup (tgt := 94) (off := 93) hx hb dX12_goMake_1 (by decide) ((lv_osw c_9 rfl).trans ((lv_osw c_25 rfl).trans (rfl))) (by decide) ?_
  refine lv_aload_n hx hb dX12_goMake_94 rfl (lv_at hl 0 rfl) ?_
  refine lv_iload_n hx hb dX12_goMake_95 rfl (lv_at hl 1 rfl) ?_
  refine va_callv (va_runS (As := [.ref b0, .int a1]) (rest := []) ⟨hx, hb, hml, hown, hts⟩ (c_X12_goOut l g Ty G s.heap.size b0 a1 k_b0 (rg_w pr1 (by decide) (by decide))) (cwSx 2 hts hG (gwC mw_1648) mw_88 mw_1646 mw_1647 rfl rfl rfl hd_X12_goOut ⟨Nat.le_of_ble_eq_true rfl, Nat.le_of_ble_eq_true rfl⟩) ⟨PcT_blind, PcT_pre hK hH⟩ rfl rfl hl.1 rfl (lv_room (Nat.le_of_ble_eq_true rfl)) dX12_goMake_96 ⟨Nat.zero_le _, Nat.zero_le _⟩) hS (fun q _ h => AF.mono hS.1 h) (fun q h => AF.mono hS.1 h) (fun ux_41 t H locs ht hvm hx_41 hB hz hk hS => ?_)
  obtain ⟨eTx_41, eGx_41⟩ := hx_41
  obtain ⟨G_42, eG_42⟩ : ∃ z, z = ux_41.2 := ⟨_, rfl⟩
  rw [← eG_42] at eGx_41
  have feG_42 := as_eq eGx_41
  try rw [← feG_42] at hv
  have hgG_42 : G_42 = aset G b0 (G_42.2.1 b0) := as_step aset_id.symm eGx_41
  have hH : HT g Ty G_42 H := by rw [← ht, ← eTx_41, eG_42]; exact hB
  refine lv_aload_n hx hb dX12_goMake_99 rfl (lv_at hl 0 rfl) ?_
  refine lv_bipush (v := 72) hx hb dX12_goMake_100 (by decide) ?_
  refine lv_iload_n hx hb dX12_goMake_102 rfl (lv_at hl 1 rfl) ?_
  refine lv_iadd hx hb dX12_goMake_103 ?_
  refine lv_topi (fun x_43 ex_43 => ?_)
  try rw [← ex_43] at hv
  have rx_43 : rgI (72) (95) x_43 := by rw [ex_43]; exact rg_w (rg_add rl_72 pr1 (by decide) (by decide)) (by decide) (by decide)
  refine lv_iconst (v := 0) hx hb dX12_goMake_104 (by decide) ?_
  obtain ⟨_, rfl, o_c_44⟩ := hH b0 _ k_b0
  have o_c_44 : va_at g.1 vwCl (b0, .inl (g.2.1 1, 122, .inl (G_42.2.1 b0))) H := o_c_44
  refine hg_iast hx hb hK hS o_c_44 (AF.of k_b0) (rg_in (n := 122) rx_43 (by decide) (by decide)) dX12_goMake_105 (fun H locs o_c_44 hz oq hS => ?_)
  obtain ⟨G_45, eG_45⟩ : ∃ z : Gh, z = aset G_42 b0 (upd (G_42.2.1 b0) (x_43 : Int32).toNatClampNeg 0) := ⟨_, rfl⟩
  have hH : HT g Ty G_45 H := by rw [eG_45]; exact HT.putA (upd (G_42.2.1 b0) (x_43 : Int32).toNatClampNeg 0) hH k_b0 cf30 o_c_44 oq
  have feG_45 : G_45.2.1 b0 = (upd (G_42.2.1 b0) (x_43 : Int32).toNatClampNeg 0) := by rw [eG_45]; exact aset_eq
  try rw [← feG_45] at hv
  have hgG_45 : G_45 = aset G b0 (G_45.2.1 b0) := as_step hgG_42 eG_45
  clear oq hz
  refine lv_aload_n hx hb dX12_goMake_106 rfl (lv_at hl 0 rfl) ?_
  refine lv_bipush (v := 96) hx hb dX12_goMake_107 (by decide) ?_
  refine lv_iload_n hx hb dX12_goMake_109 rfl (lv_at hl 1 rfl) ?_
  refine lv_iadd hx hb dX12_goMake_110 ?_
  refine lv_topi (fun x_46 ex_46 => ?_)
  try rw [← ex_46] at hv
  have rx_46 : rgI (96) (119) x_46 := by rw [ex_46]; exact rg_w (rg_add rl_96 pr1 (by decide) (by decide)) (by decide) (by decide)
  refine lv_iload_n hx hb dX12_goMake_111 rfl (lv_at hl 2 rfl) ?_
  refine lv_iconst (v := 3) hx hb dX12_goMake_112 (by decide) ?_
  refine lv_icmp_ne (tgt := 120) hx hb dX12_goMake_113 (by decide) (fun c_47 => ?_) (fun c_47 => ?_)
  · rw [if_neg c_47] at hv
    refine lv_iconst (v := 0) hx hb dX12_goMake_120 (by decide) ?_
    exact L_121 H locs G_45 0 x_46 ls (rg_w rl_0 (by decide) (by decide)) rx_46 hgG_45 (lv_sub hl [0] rfl) hv hH hS
  · rw [if_pos c_47] at hv
    have r_48 : rgI (3) (3) a2 := rg_w (rg_eq rl_3 c_47) (by decide) (by decide)
    refine lv_iconst (v := 1) hx hb dX12_goMake_116 (by decide) ?_
    refine lv_goto (tgt := 121) hx hb dX12_goMake_117 (by decide) ?_
    exact L_121 H locs G_45 1 x_46 ls (rg_w rl_1 (by decide) (by decide)) rx_46 hgG_45 (lv_sub hl [0] rfl) hv hH hS
