set_option maxHeartbeats 4000000 in
set_option maxRecDepth 100000 in
theorem c_J6_bitCount_x (l : Launch) (g : Gx) (Ty : TyM) (G : Gh) (a0 : Int32) : Met l yJ6_bitCount_0f7a4 (wsG yJ6_bitCount_0f7a4 cJ6_bitCount_0f7a4 1 (some .int)) ({ frames := 0, cells := 0, slots := 0, locals := 0 }) (PcH g Ty G [.int a0]) (vp_Si (fun r => rgI (0) (63) r ∧ r = F_J6_bitCount_0f7a4 a0)) 0 0 (fun _ => False) := by
  refine Met.ofW (cc := cJ6_bitCount_0f7a4) (maxL := 1) (ret := (some .int)) (by decide) rfl ?_
  intro p e s m args below meth c s₁ B hml hv
  obtain ⟨rfl, hK, hH⟩ := hv
  have hx := B.exec
  have hb := B.bytes
  have hr := B.returns
  have hts := atoms_spec (ws := (wsG yJ6_bitCount_0f7a4 cJ6_bitCount_0f7a4 1 (some .int))) B.pre
  have hG : ∀ w ∈ GW, w.before ([.int a0] : List Value).toArray s = true := fun w h => hts w (List.mem_cons_of_mem _ h)
  have hown : s.vm.findClass "java/lang/Integer" = some m.cls := findClass_of_methodNamed B.named
  have hlocks := B.notSynchronized
  have hl := lv_entry [.int a0] (n := 1) (Nat.le_of_ble_eq_true rfl)
  rw [lg_entry_eq]
  generalize (lg_sl [.int a0] ++ List.replicate (1 - (lg_sl [.int a0]).length) Slot.unset).toArray = ls at hl ⊢
  have hl : lv_has ls 1 [(0, .int a0)] := hl
  refine lv_iload_n hx hb dJ6_bitCount_0f7a4_0 rfl (lv_at hl 0 rfl) ?_
  refine lv_iload_n hx hb dJ6_bitCount_0f7a4_1 rfl (lv_at hl 0 rfl) ?_
  refine lv_iconst (v := 1) hx hb dJ6_bitCount_0f7a4_2 (by decide) ?_
  refine lv_iushr hx hb dJ6_bitCount_0f7a4_3 rfl ?_
  refine lv_topi (fun x_1 ex_1 => ?_)
  refine lv_ldcw (v := 1431655765) hx hb hown (hG _ mw_621) dJ6_bitCount_0f7a4_4 ?_
  refine lv_iand hx hb dJ6_bitCount_0f7a4_7 ?_
  refine lv_topi (fun x_2 ex_2 => ?_)
  refine lv_isub hx hb dJ6_bitCount_0f7a4_8 ?_
  refine lv_topi (fun x_3 ex_3 => ?_)
  refine lv_istore_n (lv' := [(0, .int x_3)]) hx hb dJ6_bitCount_0f7a4_9 rfl hl (by decide) rfl (fun ls hl => ?_)
  refine lv_iload_n hx hb dJ6_bitCount_0f7a4_10 rfl (lv_at hl 0 rfl) ?_
  refine lv_ldcw (v := 858993459) hx hb hown (hG _ mw_622) dJ6_bitCount_0f7a4_11 ?_
  refine lv_iand hx hb dJ6_bitCount_0f7a4_14 ?_
  refine lv_topi (fun x_4 ex_4 => ?_)
  refine lv_iload_n hx hb dJ6_bitCount_0f7a4_15 rfl (lv_at hl 0 rfl) ?_
  refine lv_iconst (v := 2) hx hb dJ6_bitCount_0f7a4_16 (by decide) ?_
  refine lv_iushr hx hb dJ6_bitCount_0f7a4_17 rfl ?_
  refine lv_topi (fun x_5 ex_5 => ?_)
  refine lv_ldcw (v := 858993459) hx hb hown (hG _ mw_622) dJ6_bitCount_0f7a4_18 ?_
  refine lv_iand hx hb dJ6_bitCount_0f7a4_21 ?_
  refine lv_topi (fun x_6 ex_6 => ?_)
  refine lv_iadd hx hb dJ6_bitCount_0f7a4_22 ?_
  refine lv_topi (fun x_7 ex_7 => ?_)
  refine lv_istore_n (lv' := [(0, .int x_7)]) hx hb dJ6_bitCount_0f7a4_23 rfl hl (by decide) rfl (fun ls hl => ?_)
  refine lv_iload_n hx hb dJ6_bitCount_0f7a4_24 rfl (lv_at hl 0 rfl) ?_
  refine lv_iload_n hx hb dJ6_bitCount_0f7a4_25 rfl (lv_at hl 0 rfl) ?_
  refine lv_iconst (v := 4) hx hb dJ6_bitCount_0f7a4_26 (by decide) ?_
  refine lv_iushr hx hb dJ6_bitCount_0f7a4_27 rfl ?_
  refine lv_topi (fun x_8 ex_8 => ?_)
  refine lv_iadd hx hb dJ6_bitCount_0f7a4_28 ?_
  refine lv_topi (fun x_9 ex_9 => ?_)
  refine lv_ldcw (v := 252645135) hx hb hown (hG _ mw_623) dJ6_bitCount_0f7a4_29 ?_
  refine lv_iand hx hb dJ6_bitCount_0f7a4_32 ?_
  refine lv_topi (fun x_10 ex_10 => ?_)
  refine lv_istore_n (lv' := [(0, .int x_10)]) hx hb dJ6_bitCount_0f7a4_33 rfl hl (by decide) rfl (fun ls hl => ?_)
  refine lv_iload_n hx hb dJ6_bitCount_0f7a4_34 rfl (lv_at hl 0 rfl) ?_
  refine lv_iload_n hx hb dJ6_bitCount_0f7a4_35 rfl (lv_at hl 0 rfl) ?_
  refine lv_bipush (v := 8) hx hb dJ6_bitCount_0f7a4_36 (by decide) ?_
  refine lv_iushr hx hb dJ6_bitCount_0f7a4_38 rfl ?_
  refine lv_topi (fun x_11 ex_11 => ?_)
  refine lv_iadd hx hb dJ6_bitCount_0f7a4_39 ?_
  refine lv_topi (fun x_12 ex_12 => ?_)
  refine lv_istore_n (lv' := [(0, .int x_12)]) hx hb dJ6_bitCount_0f7a4_40 rfl hl (by decide) rfl (fun ls hl => ?_)
  refine lv_iload_n hx hb dJ6_bitCount_0f7a4_41 rfl (lv_at hl 0 rfl) ?_
  refine lv_iload_n hx hb dJ6_bitCount_0f7a4_42 rfl (lv_at hl 0 rfl) ?_
  refine lv_bipush (v := 16) hx hb dJ6_bitCount_0f7a4_43 (by decide) ?_
  refine lv_iushr hx hb dJ6_bitCount_0f7a4_45 rfl ?_
  refine lv_topi (fun x_13 ex_13 => ?_)
  refine lv_iadd hx hb dJ6_bitCount_0f7a4_46 ?_
  refine lv_topi (fun x_14 ex_14 => ?_)
  refine lv_istore_n (lv' := [(0, .int x_14)]) hx hb dJ6_bitCount_0f7a4_47 rfl hl (by decide) rfl (fun ls hl => ?_)
  refine lv_iload_n hx hb dJ6_bitCount_0f7a4_48 rfl (lv_at hl 0 rfl) ?_
  refine lv_bipush (v := 63) hx hb dJ6_bitCount_0f7a4_49 (by decide) ?_
  refine lv_iand hx hb dJ6_bitCount_0f7a4_51 ?_
  refine lv_topi (fun x_15 ex_15 => ?_)
  have rx_15 : rgI (0) (63) x_15 := by rw [ex_15]; exact rg_w (rg_and63 _) (by decide) (by decide)
  exact W.iret hx hb hr (fun t ht hW => ⟨x_15, rfl, ⟨rg_w rx_15 (by decide) (by decide), (by subst_vars; rfl)⟩, ht⟩) (fun q h => by cases h) dJ6_bitCount_0f7a4_52

def F_X12_in (a0 : Int32) (a1 : Int32) (a2 : Int32) : Int32 := (if a0 < a1 then (0 : Int32) else (if a2 < a0 then (0 : Int32) else (1 : Int32)))
set_option maxHeartbeats 4000000 in
set_option maxRecDepth 100000 in
theorem c_X12_in (l : Launch) (g : Gx) (Ty : TyM) (G : Gh) (a0 : Int32) (a1 : Int32) (a2 : Int32) : Met l yX12_in (wsG yX12_in cX12_in 3 (some .boolean)) ({ frames := 0, cells := 0, slots := 0, locals := 0 }) (PcH g Ty G [.int a0, .int a1, .int a2]) (vp_Si (fun r => rgI (0) (1) r ∧ (r = 0 ∨ (a1 ≤ a0 ∧ a0 ≤ a2)) ∧ r = F_X12_in a0 a1 a2)) 0 0 (fun _ => False) := by
  refine Met.ofW (cc := cX12_in) (maxL := 3) (ret := (some .boolean)) (by decide) rfl ?_
  intro p e s m args below meth c s₁ B hml hv
  obtain ⟨rfl, hK, hH⟩ := hv
  have hx := B.exec
  have hb := B.bytes
  have hr := B.returns
  have hts := atoms_spec (ws := (wsG yX12_in cX12_in 3 (some .boolean))) B.pre
  have hG : ∀ w ∈ GW, w.before ([.int a0, .int a1, .int a2] : List Value).toArray s = true := fun w h => hts w (List.mem_cons_of_mem _ h)
  have hown : s.vm.findClass RX12 = some m.cls := findClass_of_methodNamed B.named
  have hlocks := B.notSynchronized
  have hl := lv_entry [.int a0, .int a1, .int a2] (n := 3) (Nat.le_of_ble_eq_true rfl)
  rw [lg_entry_eq]
  generalize (lg_sl [.int a0, .int a1, .int a2] ++ List.replicate (3 - (lg_sl [.int a0, .int a1, .int a2]).length) Slot.unset).toArray = ls at hl ⊢
  have hl : lv_has ls 3 [(0, .int a0), (1, .int a1), (2, .int a2)] := hl
  have hv : (if a0 < a1 then (0 : Int32) else (if a2 < a0 then (0 : Int32) else (1 : Int32))) = F_X12_in a0 a1 a2 := rfl
  have L_14 : ∀ (ls : Array Slot), lv_has ls 3 [] → (0 : Int32) = F_X12_in a0 a1 a2 → Wm p l e (wsG yX12_in cX12_in 3 (some .boolean)) ({ frames := 0, cells := 0, slots := 0, locals := 0 }) s m [.int a0, .int a1, .int a2] below meth c s.heap [] (0) (0) (vp_Si (fun r => rgI (0) (1) r ∧ (r = 0 ∨ (a1 ≤ a0 ∧ a0 ≤ a2)) ∧ r = F_X12_in a0 a1 a2)) 0 0 (fun _ => False) (F0 m 14 ls []) := by
    intro ls hl hv
    refine lv_iconst (v := 0) hx hb dX12_in_14 (by decide) ?_
    exact W.zret hx hb hr rfl (fun t ht hW => ⟨0, rfl, ⟨rg_w rl_0 (by decide) (by decide), Or.inl rfl, hv⟩, ht⟩) (fun q h => by cases h) dX12_in_15
  refine lv_iload_n hx hb dX12_in_0 rfl (lv_at hl 0 rfl) ?_
  refine lv_iload_n hx hb dX12_in_1 rfl (lv_at hl 1 rfl) ?_
  refine lv_icmp_lt (tgt := 14) hx hb dX12_in_2 (by decide) (fun c_1 => ?_) (fun c_1 => ?_)
  · rw [if_pos c_1] at hv
    have r_2 : rgI (-2147483648) (2147483646) a0 := rg_w (rg_ltL (rg_top a0) (rg_top a1) c_1) (by decide) (by decide)
    have r_3 : rgI (-2147483647) (2147483647) a1 := rg_w (rg_ltR (rg_top a0) (rg_top a1) c_1) (by decide) (by decide)
    exact L_14  ls (lv_sub hl [] rfl) hv
  · rw [if_neg c_1] at hv
    refine lv_iload_n hx hb dX12_in_5 rfl (lv_at hl 0 rfl) ?_
    refine lv_iload_n hx hb dX12_in_6 rfl (lv_at hl 2 rfl) ?_
    refine lv_icmp_gt (tgt := 14) hx hb dX12_in_7 (by decide) (fun c_4 => ?_) (fun c_4 => ?_)
    · rw [if_pos c_4] at hv
      have r_5 : rgI (-2147483648) (2147483646) a2 := rg_w (rg_ltL (rg_top a2) (rg_top a0) c_4) (by decide) (by decide)
      have r_6 : rgI (-2147483647) (2147483647) a0 := rg_w (rg_ltR (rg_top a2) (rg_top a0) c_4) (by decide) (by decide)
      exact L_14  ls (lv_sub hl [] rfl) hv
    · rw [if_neg c_4] at hv
      refine lv_iconst (v := 1) hx hb dX12_in_10 (by decide) ?_
      refine lv_goto (tgt := 15) hx hb dX12_in_11 (by decide) ?_
      exact W.zret hx hb hr rfl (fun t ht hW => ⟨1, rfl, ⟨rg_w rl_1 (by decide) (by decide), Or.inr ⟨(nlt_le c_1), (nlt_le c_4)⟩, hv⟩, ht⟩) (fun q h => by cases h) dX12_in_15

def F_X12_has (a0 : Int32) (a1 : Int32) : Int32 := (if ((a0 >>> (a1 &&& 31)) &&& (1 : Int32)) = (1 : Int32) then (1 : Int32) else (0 : Int32))
set_option maxHeartbeats 4000000 in
set_option maxRecDepth 100000 in
theorem c_X12_has (l : Launch) (g : Gx) (Ty : TyM) (G : Gh) (a0 : Int32) (a1 : Int32) : Met l yX12_has (wsG yX12_has cX12_has 2 (some .boolean)) ({ frames := 0, cells := 0, slots := 0, locals := 0 }) (PcH g Ty G [.int a0, .int a1]) (vp_Si (fun r => rgI (0) (1) r ∧ r = F_X12_has a0 a1)) 0 0 (fun _ => False) := by
  refine Met.ofW (cc := cX12_has) (maxL := 2) (ret := (some .boolean)) (by decide) rfl ?_
  intro p e s m args below meth c s₁ B hml hv
  obtain ⟨rfl, hK, hH⟩ := hv
  have hx := B.exec
  have hb := B.bytes
  have hr := B.returns
  have hts := atoms_spec (ws := (wsG yX12_has cX12_has 2 (some .boolean))) B.pre
  have hG : ∀ w ∈ GW, w.before ([.int a0, .int a1] : List Value).toArray s = true := fun w h => hts w (List.mem_cons_of_mem _ h)
  have hown : s.vm.findClass RX12 = some m.cls := findClass_of_methodNamed B.named
  have hlocks := B.notSynchronized
  have hl := lv_entry [.int a0, .int a1] (n := 2) (Nat.le_of_ble_eq_true rfl)
  rw [lg_entry_eq]
  generalize (lg_sl [.int a0, .int a1] ++ List.replicate (2 - (lg_sl [.int a0, .int a1]).length) Slot.unset).toArray = ls at hl ⊢
  have hl : lv_has ls 2 [(0, .int a0), (1, .int a1)] := hl
  have hv : (if ((a0 >>> (a1 &&& 31)) &&& (1 : Int32)) = (1 : Int32) then (1 : Int32) else (0 : Int32)) = F_X12_has a0 a1 := rfl
  refine lv_iload_n hx hb dX12_has_0 rfl (lv_at hl 0 rfl) ?_
  refine lv_iload_n hx hb dX12_has_1 rfl (lv_at hl 1 rfl) ?_
  refine lv_ishr hx hb dX12_has_2 ?_
  refine lv_topi (fun x_1 ex_1 => ?_)
  try rw [← ex_1] at hv
  refine lv_iconst (v := 1) hx hb dX12_has_3 (by decide) ?_
  refine lv_iand hx hb dX12_has_4 ?_
  refine lv_topi (fun x_2 ex_2 => ?_)
  try rw [← ex_2] at hv
  have rx_2 : rgI (0) (1) x_2 := by rw [ex_2]; exact rg_w (rg_and1 _) (by decide) (by decide)
  refine lv_iconst (v := 1) hx hb dX12_has_5 (by decide) ?_
  refine lv_icmp_ne (tgt := 13) hx hb dX12_has_6 (by decide) (fun c_3 => ?_) (fun c_3 => ?_)
  · rw [if_neg c_3] at hv
    have r_4 : rgI (0) (0) x_2 := rg_w (rg_neR rx_2 rl_1 c_3) (by decide) (by decide)
    refine lv_iconst (v := 0) hx hb dX12_has_13 (by decide) ?_
    exact W.zret hx hb hr rfl (fun t ht hW => ⟨0, rfl, ⟨rg_w rl_0 (by decide) (by decide), hv⟩, ht⟩) (fun q h => by cases h) dX12_has_14
  · rw [if_pos c_3] at hv
    have r_5 : rgI (1) (1) x_2 := rg_w (rg_eq rl_1 c_3) (by decide) (by decide)
    refine lv_iconst (v := 1) hx hb dX12_has_9 (by decide) ?_
    refine lv_goto (tgt := 14) hx hb dX12_has_10 (by decide) ?_
    exact W.zret hx hb hr rfl (fun t ht hW => ⟨1, rfl, ⟨rg_w rl_1 (by decide) (by decide), hv⟩, ht⟩) (fun q h => by cases h) dX12_has_14

def F_X12_isDir (a0 : Int32) : Int32 := (F_X12_in a0 (0 : Int32) (3 : Int32))
set_option maxHeartbeats 4000000 in
set_option maxRecDepth 100000 in
theorem c_X12_isDir (l : Launch) (g : Gx) (Ty : TyM) (G : Gh) (a0 : Int32) : Met l yX12_isDir (wsG yX12_isDir cX12_isDir 1 (some .boolean)) ({ frames := 1, cells := 0, slots := 0, locals := 22 }) (PcH g Ty G [.int a0]) (vp_Si (fun r => rgI (0) (1) r ∧ r = F_X12_isDir a0)) 0 0 (fun _ => False) := by
  refine Met.ofW (cc := cX12_isDir) (maxL := 1) (ret := (some .boolean)) (by decide) rfl ?_
  intro p e s m args below meth c s₁ B hml hv
  obtain ⟨rfl, hK, hH⟩ := hv
  have hx := B.exec
  have hb := B.bytes
  have hr := B.returns
  have hts := atoms_spec (ws := (wsG yX12_isDir cX12_isDir 1 (some .boolean))) B.pre
  have hG : ∀ w ∈ GW, w.before ([.int a0] : List Value).toArray s = true := fun w h => hts w (List.mem_cons_of_mem _ h)
  have hown : s.vm.findClass RX12 = some m.cls := findClass_of_methodNamed B.named
  have hlocks := B.notSynchronized
  have hl := lv_entry [.int a0] (n := 1) (Nat.le_of_ble_eq_true rfl)
  rw [lg_entry_eq]
  generalize (lg_sl [.int a0] ++ List.replicate (1 - (lg_sl [.int a0]).length) Slot.unset).toArray = ls at hl ⊢
  have hl : lv_has ls 1 [(0, .int a0)] := hl
  have hv : (F_X12_in a0 (0 : Int32) (3 : Int32)) = F_X12_isDir a0 := rfl
  refine lv_iload_n hx hb dX12_isDir_0 rfl (lv_at hl 0 rfl) ?_
  refine lv_iconst (v := 0) hx hb dX12_isDir_1 (by decide) ?_
  refine lv_iconst (v := 3) hx hb dX12_isDir_2 (by decide) ?_
  refine vp_callSi (W.runS (As := [.int a0, .int 0, .int 3]) (rest := []) ⟨hx, hb, hml, hown, hts⟩ (c_X12_in l g Ty G a0 0 3 ) (cwSx 3 hts hG (gwC mw_1426) mw_88 mw_1424 mw_1425 rfl rfl rfl hd_X12_in ⟨Nat.le_of_ble_eq_true rfl, Nat.le_of_ble_eq_true rfl⟩) ⟨PcH_blind, PcH_pre hK hH⟩ rfl rfl hl.1 rfl (lv_room (Nat.le_of_ble_eq_true rfl)) dX12_isDir_3 ⟨Nat.zero_le _, Nat.zero_le _⟩) (fun x_1 hx_1 => ?_)
  have rx_1 : rgI (0) (1) x_1 := hx_1.1
  try rw [← hx_1.2.2] at hv
  exact W.zret hx hb hr (nz01 rx_1) (fun t ht hW => ⟨x_1, rfl, ⟨rg_w rx_1 (by decide) (by decide), hv⟩, ht⟩) (fun q h => by cases h) dX12_isDir_6

def F_X12_isThere (f0 : Nat → Int32) (a1 : Int32) : Int32 := (if (F_X12_in a1 (0 : Int32) (23 : Int32)) = (0 : Int32) then (0 : Int32) else (if (f0 (Int32.toNatClampNeg a1)) = (-1 : Int32) then (0 : Int32) else (1 : Int32)))
set_option maxHeartbeats 4000000 in
set_option maxRecDepth 100000 in
theorem c_X12_isThere (l : Launch) (g : Gx) (Ty : TyM) (G : Gh) (b0 : Nat) (a1 : Int32) (k_b0 : Ty b0 = some (30, 122)) : Met l yX12_isThere (wsG yX12_isThere cX12_isThere 2 (some .boolean)) ({ frames := 1, cells := 0, slots := 0, locals := 22 }) (PcH g Ty G [.ref b0, .int a1]) (vp_Si (fun r => rgI (0) (1) r ∧ (r = 0 ∨ rgI (0) (23) a1) ∧ r = F_X12_isThere (G.2.1 b0) a1)) 0 0 (fun _ => False) := by
  refine Met.ofW (cc := cX12_isThere) (maxL := 2) (ret := (some .boolean)) (by decide) rfl ?_
  intro p e s m args below meth c s₁ B hml hv
  obtain ⟨rfl, hK, hH⟩ := hv
  have hx := B.exec
  have hb := B.bytes
  have hr := B.returns
  have hts := atoms_spec (ws := (wsG yX12_isThere cX12_isThere 2 (some .boolean))) B.pre
  have hG : ∀ w ∈ GW, w.before ([.ref b0, .int a1] : List Value).toArray s = true := fun w h => hts w (List.mem_cons_of_mem _ h)
  have hown : s.vm.findClass RX12 = some m.cls := findClass_of_methodNamed B.named
  have hlocks := B.notSynchronized
  have hl := lv_entry [.ref b0, .int a1] (n := 2) (Nat.le_of_ble_eq_true rfl)
  rw [lg_entry_eq]
  generalize (lg_sl [.ref b0, .int a1] ++ List.replicate (2 - (lg_sl [.ref b0, .int a1]).length) Slot.unset).toArray = ls at hl ⊢
  have hl : lv_has ls 2 [(0, .ref b0), (1, .int a1)] := hl
  have hv : (if (F_X12_in a1 (0 : Int32) (23 : Int32)) = (0 : Int32) then (0 : Int32) else (if ((G.2.1 b0) (Int32.toNatClampNeg a1)) = (-1 : Int32) then (0 : Int32) else (1 : Int32))) = F_X12_isThere (G.2.1 b0) a1 := rfl
  have L_21 : ∀ (ls : Array Slot), lv_has ls 2 [] → (0 : Int32) = F_X12_isThere (G.2.1 b0) a1 → Wm p l e (wsG yX12_isThere cX12_isThere 2 (some .boolean)) ({ frames := 1, cells := 0, slots := 0, locals := 22 }) s m [.ref b0, .int a1] below meth c s.heap [] (0) (0) (vp_Si (fun r => rgI (0) (1) r ∧ (r = 0 ∨ rgI (0) (23) a1) ∧ r = F_X12_isThere (G.2.1 b0) a1)) 0 0 (fun _ => False) (F0 m 21 ls []) := by
    intro ls hl hv
    refine lv_iconst (v := 0) hx hb dX12_isThere_21 (by decide) ?_
    exact W.zret hx hb hr rfl (fun t ht hW => ⟨0, rfl, ⟨rg_w rl_0 (by decide) (by decide), Or.inl rfl, hv⟩, ht⟩) (fun q h => by cases h) dX12_isThere_22
  refine lv_iload_n hx hb dX12_isThere_0 rfl (lv_at hl 1 rfl) ?_
  refine lv_iconst (v := 0) hx hb dX12_isThere_1 (by decide) ?_
  refine lv_bipush (v := 23) hx hb dX12_isThere_2 (by decide) ?_
  refine vp_callSi (W.runS (As := [.int a1, .int 0, .int 23]) (rest := []) ⟨hx, hb, hml, hown, hts⟩ (c_X12_in l g Ty G a1 0 23 ) (cwSx 3 hts hG (gwC mw_1426) mw_88 mw_1424 mw_1425 rfl rfl rfl hd_X12_in ⟨Nat.le_of_ble_eq_true rfl, Nat.le_of_ble_eq_true rfl⟩) ⟨PcH_blind, PcH_pre hK hH⟩ rfl rfl hl.1 rfl (lv_room (Nat.le_of_ble_eq_true rfl)) dX12_isThere_4 ⟨Nat.zero_le _, Nat.zero_le _⟩) (fun x_1 hx_1 => ?_)
  have rx_1 : rgI (0) (1) x_1 := hx_1.1
  try rw [← hx_1.2.2] at hv
  refine lv_if_eq (tgt := 21) hx hb dX12_isThere_7 (by decide) (fun c_2 => ?_) (fun c_2 => ?_)
  · rw [if_pos c_2] at hv
    have r_3 : rgI (0) (0) x_1 := rg_w (rg_eq rl_0 c_2) (by decide) (by decide)
    exact L_21  ls (lv_sub hl [] rfl) hv
  · rw [if_neg c_2] at hv
    have r_4 : rgI (1) (1) x_1 := rg_w (rg_neL rx_1 rl_0 c_2) (by decide) (by decide)
    have r_5 : rgI (0) (23) a1 := rg_w (in_rng hx_1.2.1 c_2 rl_0 rl_23) (by decide) (by decide)
    refine lv_aload_n hx hb dX12_isThere_10 rfl (lv_at hl 0 rfl) ?_
    refine lv_iload_n hx hb dX12_isThere_11 rfl (lv_at hl 1 rfl) ?_
    obtain ⟨_, rfl, o_c_6⟩ := hH b0 _ k_b0
    have o_c_6 : va_at g.1 vwCl (b0, .inl (g.2.1 1, 122, .inl (G.2.1 b0))) s.heap := o_c_6
    refine hg_iald hx hb hK o_c_6 (rg_in (n := 122) r_5 (by decide) (by decide)) dX12_isThere_12 ?_
    refine lv_topi (fun x_7 ex_7 => ?_)
    try rw [← ex_7] at hv
    refine lv_iconst (v := (-1)) hx hb dX12_isThere_13 (by decide) ?_
    refine lv_icmp_eq (tgt := 21) hx hb dX12_isThere_14 (by decide) (fun c_8 => ?_) (fun c_8 => ?_)
    · rw [if_pos c_8] at hv
      have r_9 : rgI (-1) (-1) x_7 := rg_w (rg_eq rl_m1 c_8) (by decide) (by decide)
      exact L_21  ls (lv_sub hl [] rfl) hv
    · rw [if_neg c_8] at hv
      refine lv_iconst (v := 1) hx hb dX12_isThere_17 (by decide) ?_
      refine lv_goto (tgt := 22) hx hb dX12_isThere_18 (by decide) ?_
      exact W.zret hx hb hr rfl (fun t ht hW => ⟨1, rfl, ⟨rg_w rl_1 (by decide) (by decide), Or.inr (rg_w r_5 (by decide) (by decide)), hv⟩, ht⟩) (fun q h => by cases h) dX12_isThere_22

def F_X12_atOf_2 (f0 : Nat → Int32) : Nat → Int32 → Int32 → Int32 → Int32
  | 0, _, _, _ => 0
  | n + 1, y1, y2, y3 => (if (24 : Int32) ≤ y3 then (24 : Int32) else (if (f0 (Int32.toNatClampNeg y3)) = y1 then (if (f0 (Int32.toNatClampNeg ((24 : Int32) + y3))) = y2 then y3 else (F_X12_atOf_2 f0 n y1 y2 (y3 + (1 : Int32)))) else (F_X12_atOf_2 f0 n y1 y2 (y3 + (1 : Int32)))))
def F_X12_atOf (f0 : Nat → Int32) (a1 : Int32) (a2 : Int32) : Int32 := (F_X12_atOf_2 f0 26 a1 a2 (1 : Int32))
set_option maxHeartbeats 4000000 in
set_option maxRecDepth 100000 in
theorem c_X12_atOf (l : Launch) (g : Gx) (Ty : TyM) (G : Gh) (b0 : Nat) (a1 : Int32) (a2 : Int32) (k_b0 : Ty b0 = some (30, 122)) : Met l yX12_atOf (wsG yX12_atOf cX12_atOf 4 (some .int)) ({ frames := 0, cells := 0, slots := 0, locals := 0 }) (PcH g Ty G [.ref b0, .int a1, .int a2]) (vp_Si (fun r => rgI (1) (24) r ∧ r = F_X12_atOf (G.2.1 b0) a1 a2)) 0 0 (fun _ => False) := by
  refine Met.ofW (cc := cX12_atOf) (maxL := 4) (ret := (some .int)) (by decide) rfl ?_
  intro p e s m args below meth c s₁ B hml hv
  obtain ⟨rfl, hK, hH⟩ := hv
  have hx := B.exec
  have hb := B.bytes
  have hr := B.returns
  have hts := atoms_spec (ws := (wsG yX12_atOf cX12_atOf 4 (some .int))) B.pre
  have hG : ∀ w ∈ GW, w.before ([.ref b0, .int a1, .int a2] : List Value).toArray s = true := fun w h => hts w (List.mem_cons_of_mem _ h)
  have hown : s.vm.findClass RX12 = some m.cls := findClass_of_methodNamed B.named
  have hlocks := B.notSynchronized
  have hl := lv_entry [.ref b0, .int a1, .int a2] (n := 4) (Nat.le_of_ble_eq_true rfl)
  rw [lg_entry_eq]
  generalize (lg_sl [.ref b0, .int a1, .int a2] ++ List.replicate (4 - (lg_sl [.ref b0, .int a1, .int a2]).length) Slot.unset).toArray = ls at hl ⊢
  have hl : lv_has ls 4 [(0, .ref b0), (1, .int a1), (2, .int a2)] := hl
  have hv : (F_X12_atOf_2 (G.2.1 b0) 26 a1 a2 (1 : Int32)) = F_X12_atOf (G.2.1 b0) a1 a2 := rfl
  have L_2 : ∀ (n_2 : Nat) (y3_2 : Int32) (ls : Array Slot), rgI (1) (24) y3_2 → (24 - (y3_2).toInt).toNat < n_2 → lv_has ls 4 [(0, .ref b0), (1, .int a1), (2, .int a2), (3, .int y3_2)] → (F_X12_atOf_2 (G.2.1 b0) n_2 a1 a2 y3_2) = F_X12_atOf (G.2.1 b0) a1 a2 → Wm p l e (wsG yX12_atOf cX12_atOf 4 (some .int)) ({ frames := 0, cells := 0, slots := 0, locals := 0 }) s m [.ref b0, .int a1, .int a2] below meth c s.heap [] (0) (0) (vp_Si (fun r => rgI (1) (24) r ∧ r = F_X12_atOf (G.2.1 b0) a1 a2)) 0 0 (fun _ => False) (F0 m 2 ls []) := by
    intro n_2
    induction n_2 with
    | zero => intro y3_2 ls ry3_2 hm; exact absurd hm (Nat.not_lt_zero _)
    | succ n_2 ih_2 =>
      intro y3_2 ls ry3_2 hm_2 hl hv
      have L_27 : ∀ (ls : Array Slot), rgI (1) (23) y3_2 → lv_has ls 4 [(0, .ref b0), (1, .int a1), (2, .int a2), (3, .int y3_2)] → (F_X12_atOf_2 (G.2.1 b0) n_2 a1 a2 (y3_2 + (1 : Int32))) = F_X12_atOf (G.2.1 b0) a1 a2 → Wm p l e (wsG yX12_atOf cX12_atOf 4 (some .int)) ({ frames := 0, cells := 0, slots := 0, locals := 0 }) s m [.ref b0, .int a1, .int a2] below meth c s.heap [] (0) (0) (vp_Si (fun r => rgI (1) (24) r ∧ r = F_X12_atOf (G.2.1 b0) a1 a2)) 0 0 (fun _ => False) (F0 m 27 ls []) := by
        intro ls ry3_27 hl hv
        obtain ⟨x_1, ex_1⟩ : ∃ y : Int32, y = y3_2 + 1 := ⟨_, rfl⟩
        try rw [← ex_1] at hv
        have rx_1 : rgI (2) (24) x_1 := by rw [ex_1]; exact rg_w (rg_add ry3_27 rl_1 (by decide) (by decide)) (by decide) (by decide)
        have qx_1 : x_1.toInt = (y3_2 : Int32).toInt + 1 := by rw [ex_1]; exact rg_addE ry3_27 rl_1 (by decide) (by decide)
        refine lv_iinc (v := x_1) (lv' := [(3, .int x_1), (0, .ref b0), (1, .int a1), (2, .int a2)]) hx hb dX12_atOf_27 hl (k := 3) rfl (by rw [ex_1]; rfl) (by decide) rfl (fun ls hl => ?_)
        refine lv_goto (tgt := 2) hx hb dX12_atOf_30 (by decide) ?_
        exact ih_2 x_1 ls (rg_w rx_1 (by decide) (by decide)) (by have h1 := qx_1; have h2 := ry3_27.1; have h3 := ry3_27.2; have h4 := hm_2; omega) (lv_sub hl [1, 2, 3, 0] rfl) hv
      rw [F_X12_atOf_2] at hv
      refine lv_iload_n hx hb dX12_atOf_2 rfl (lv_at hl 3 rfl) ?_
      refine lv_bipush (v := 24) hx hb dX12_atOf_3 (by decide) ?_
      refine lv_icmp_ge (tgt := 33) hx hb dX12_atOf_5 (by decide) (fun c_2 => ?_) (fun c_2 => ?_)
      · rw [if_pos c_2] at hv
        have r_3 : rgI (24) (24) y3_2 := rg_w (rg_leR rl_24 ry3_2 c_2) (by decide) (by decide)
        refine lv_bipush (v := 24) hx hb dX12_atOf_33 (by decide) ?_
        exact W.iret hx hb hr (fun t ht hW => ⟨24, rfl, ⟨rg_w rl_24 (by decide) (by decide), hv⟩, ht⟩) (fun q h => by cases h) dX12_atOf_35
      · rw [if_neg c_2] at hv
        have r_4 : rgI (1) (23) y3_2 := rg_w (rg_ltL ry3_2 rl_24 (nle_lt c_2)) (by decide) (by decide)
        refine lv_aload_n hx hb dX12_atOf_8 rfl (lv_at hl 0 rfl) ?_
        refine lv_iload_n hx hb dX12_atOf_9 rfl (lv_at hl 3 rfl) ?_
        obtain ⟨_, rfl, o_c_5⟩ := hH b0 _ k_b0
        have o_c_5 : va_at g.1 vwCl (b0, .inl (g.2.1 1, 122, .inl (G.2.1 b0))) s.heap := o_c_5
        refine hg_iald hx hb hK o_c_5 (rg_in (n := 122) r_4 (by decide) (by decide)) dX12_atOf_10 ?_
        refine lv_topi (fun x_6 ex_6 => ?_)
        try rw [← ex_6] at hv
        refine lv_iload_n hx hb dX12_atOf_11 rfl (lv_at hl 1 rfl) ?_
        refine lv_icmp_ne (tgt := 27) hx hb dX12_atOf_12 (by decide) (fun c_7 => ?_) (fun c_7 => ?_)
        · rw [if_neg c_7] at hv
          exact L_27  ls r_4 (lv_sub hl [0, 1, 2, 3] rfl) hv
        · rw [if_pos c_7] at hv
          refine lv_aload_n hx hb dX12_atOf_15 rfl (lv_at hl 0 rfl) ?_
          refine lv_bipush (v := 24) hx hb dX12_atOf_16 (by decide) ?_
          refine lv_iload_n hx hb dX12_atOf_18 rfl (lv_at hl 3 rfl) ?_
          refine lv_iadd hx hb dX12_atOf_19 ?_
          refine lv_topi (fun x_8 ex_8 => ?_)
          try rw [← ex_8] at hv
          have rx_8 : rgI (25) (47) x_8 := by rw [ex_8]; exact rg_w (rg_add rl_24 r_4 (by decide) (by decide)) (by decide) (by decide)
          refine hg_iald hx hb hK o_c_5 (rg_in (n := 122) rx_8 (by decide) (by decide)) dX12_atOf_20 ?_
          refine lv_topi (fun x_9 ex_9 => ?_)
          try rw [← ex_9] at hv
          refine lv_iload_n hx hb dX12_atOf_21 rfl (lv_at hl 2 rfl) ?_
          refine lv_icmp_ne (tgt := 27) hx hb dX12_atOf_22 (by decide) (fun c_10 => ?_) (fun c_10 => ?_)
          · rw [if_neg c_10] at hv
            exact L_27  ls r_4 (lv_sub hl [0, 1, 2, 3] rfl) hv
          · rw [if_pos c_10] at hv
            refine lv_iload_n hx hb dX12_atOf_25 rfl (lv_at hl 3 rfl) ?_
            exact W.iret hx hb hr (fun t ht hW => ⟨y3_2, rfl, ⟨rg_w r_4 (by decide) (by decide), hv⟩, ht⟩) (fun q h => by cases h) dX12_atOf_26
  refine lv_iconst (v := 1) hx hb dX12_atOf_0 (by decide) ?_
  refine lv_istore_n (lv' := [(3, .int 1), (0, .ref b0), (1, .int a1), (2, .int a2)]) hx hb dX12_atOf_1 rfl hl (by decide) rfl (fun ls hl => ?_)
  exact L_2 26 1 ls (rg_w rl_1 (by decide) (by decide)) (by decide) (lv_sub hl [1, 2, 3, 0] rfl) hv

def F_X12_childrenOf_4 (f0 : Nat → Int32) : Nat → Int32 → Int32 → Int32 → Int32
  | 0, _, y2, _ => y2
  | n + 1, y1, y2, y3 => (if (24 : Int32) ≤ y3 then y2 else (if (f0 (Int32.toNatClampNeg y3)) = y1 then (F_X12_childrenOf_4 f0 n y1 (y2 + (1 : Int32)) (y3 + (1 : Int32))) else (F_X12_childrenOf_4 f0 n y1 (y2 + (0 : Int32)) (y3 + (1 : Int32)))))
def F_X12_childrenOf (f0 : Nat → Int32) (a1 : Int32) : Int32 := (F_X12_childrenOf_4 f0 26 a1 (0 : Int32) (1 : Int32))
set_option maxHeartbeats 4000000 in
set_option maxRecDepth 100000 in
theorem c_X12_childrenOf (l : Launch) (g : Gx) (Ty : TyM) (G : Gh) (b0 : Nat) (a1 : Int32) (k_b0 : Ty b0 = some (30, 122)) : Met l yX12_childrenOf (wsG yX12_childrenOf cX12_childrenOf 4 (some .int)) ({ frames := 0, cells := 0, slots := 0, locals := 0 }) (PcH g Ty G [.ref b0, .int a1]) (vp_Si (fun r => r = F_X12_childrenOf (G.2.1 b0) a1)) 0 0 (fun _ => False) := by
  refine Met.ofW (cc := cX12_childrenOf) (maxL := 4) (ret := (some .int)) (by decide) rfl ?_
  intro p e s m args below meth c s₁ B hml hv
  obtain ⟨rfl, hK, hH⟩ := hv
  have hx := B.exec
  have hb := B.bytes
  have hr := B.returns
  have hts := atoms_spec (ws := (wsG yX12_childrenOf cX12_childrenOf 4 (some .int))) B.pre
  have hG : ∀ w ∈ GW, w.before ([.ref b0, .int a1] : List Value).toArray s = true := fun w h => hts w (List.mem_cons_of_mem _ h)
  have hown : s.vm.findClass RX12 = some m.cls := findClass_of_methodNamed B.named
  have hlocks := B.notSynchronized
  have hl := lv_entry [.ref b0, .int a1] (n := 4) (Nat.le_of_ble_eq_true rfl)
  rw [lg_entry_eq]
  generalize (lg_sl [.ref b0, .int a1] ++ List.replicate (4 - (lg_sl [.ref b0, .int a1]).length) Slot.unset).toArray = ls at hl ⊢
  have hl : lv_has ls 4 [(0, .ref b0), (1, .int a1)] := hl
  have hv : (F_X12_childrenOf_4 (G.2.1 b0) 26 a1 (0 : Int32) (1 : Int32)) = F_X12_childrenOf (G.2.1 b0) a1 := rfl
  have L_4 : ∀ (n_4 : Nat) (y2_4 : Int32) (y3_4 : Int32) (ls : Array Slot), rgI (1) (24) y3_4 → (24 - (y3_4).toInt).toNat < n_4 → lv_has ls 4 [(0, .ref b0), (1, .int a1), (2, .int y2_4), (3, .int y3_4)] → (F_X12_childrenOf_4 (G.2.1 b0) n_4 a1 y2_4 y3_4) = F_X12_childrenOf (G.2.1 b0) a1 → Wm p l e (wsG yX12_childrenOf cX12_childrenOf 4 (some .int)) ({ frames := 0, cells := 0, slots := 0, locals := 0 }) s m [.ref b0, .int a1] below meth c s.heap [] (0) (0) (vp_Si (fun r => r = F_X12_childrenOf (G.2.1 b0) a1)) 0 0 (fun _ => False) (F0 m 4 ls []) := by
    intro n_4
    induction n_4 with
    | zero => intro y2_4 y3_4 ls ry3_4 hm; exact absurd hm (Nat.not_lt_zero _)
    | succ n_4 ih_4 =>
      intro y2_4 y3_4 ls ry3_4 hm_4 hl hv
      have L_23 : ∀ (z0_23 : Int32) (ls : Array Slot), rgI (1) (23) y3_4 → rgI (0) (1) z0_23 → lv_has ls 4 [(0, .ref b0), (1, .int a1), (3, .int y3_4)] → (F_X12_childrenOf_4 (G.2.1 b0) n_4 a1 (y2_4 + z0_23) (y3_4 + (1 : Int32))) = F_X12_childrenOf (G.2.1 b0) a1 → Wm p l e (wsG yX12_childrenOf cX12_childrenOf 4 (some .int)) ({ frames := 0, cells := 0, slots := 0, locals := 0 }) s m [.ref b0, .int a1] below meth c s.heap [] (0) (0) (vp_Si (fun r => r = F_X12_childrenOf (G.2.1 b0) a1)) 0 0 (fun _ => False) (F0 m 23 ls [.int z0_23, .int y2_4]) := by
        intro z0_23 ls ry3_23 rz0_23 hl hv
        refine lv_iadd hx hb dX12_childrenOf_23 ?_
        refine lv_topi (fun x_1 ex_1 => ?_)
        try rw [← ex_1] at hv
        refine lv_istore_n (lv' := [(2, .int x_1), (0, .ref b0), (1, .int a1), (3, .int y3_4)]) hx hb dX12_childrenOf_24 rfl hl (by decide) rfl (fun ls hl => ?_)
        obtain ⟨x_2, ex_2⟩ : ∃ y : Int32, y = y3_4 + 1 := ⟨_, rfl⟩
        try rw [← ex_2] at hv
        have rx_2 : rgI (2) (24) x_2 := by rw [ex_2]; exact rg_w (rg_add ry3_23 rl_1 (by decide) (by decide)) (by decide) (by decide)
        have qx_2 : x_2.toInt = (y3_4 : Int32).toInt + 1 := by rw [ex_2]; exact rg_addE ry3_23 rl_1 (by decide) (by decide)
        refine lv_iinc (v := x_2) (lv' := [(3, .int x_2), (2, .int x_1), (0, .ref b0), (1, .int a1)]) hx hb dX12_childrenOf_25 hl (k := 3) rfl (by rw [ex_2]; rfl) (by decide) rfl (fun ls hl => ?_)
        refine lv_goto (tgt := 4) hx hb dX12_childrenOf_28 (by decide) ?_
        exact ih_4 x_1 x_2 ls (rg_w rx_2 (by decide) (by decide)) (by have h1 := qx_2; have h2 := ry3_23.1; have h3 := ry3_23.2; have h4 := hm_4; omega) (lv_sub hl [2, 3, 1, 0] rfl) hv
      rw [F_X12_childrenOf_4] at hv
      refine lv_iload_n hx hb dX12_childrenOf_4 rfl (lv_at hl 3 rfl) ?_
      refine lv_bipush (v := 24) hx hb dX12_childrenOf_5 (by decide) ?_
      refine lv_icmp_ge (tgt := 31) hx hb dX12_childrenOf_7 (by decide) (fun c_3 => ?_) (fun c_3 => ?_)
      · rw [if_pos c_3] at hv
        have r_4 : rgI (24) (24) y3_4 := rg_w (rg_leR rl_24 ry3_4 c_3) (by decide) (by decide)
        refine lv_iload_n hx hb dX12_childrenOf_31 rfl (lv_at hl 2 rfl) ?_
        exact W.iret hx hb hr (fun t ht hW => ⟨y2_4, rfl, hv, ht⟩) (fun q h => by cases h) dX12_childrenOf_32
      · rw [if_neg c_3] at hv
        have r_5 : rgI (1) (23) y3_4 := rg_w (rg_ltL ry3_4 rl_24 (nle_lt c_3)) (by decide) (by decide)
        refine lv_iload_n hx hb dX12_childrenOf_10 rfl (lv_at hl 2 rfl) ?_
        refine lv_aload_n hx hb dX12_childrenOf_11 rfl (lv_at hl 0 rfl) ?_
        refine lv_iload_n hx hb dX12_childrenOf_12 rfl (lv_at hl 3 rfl) ?_
        obtain ⟨_, rfl, o_c_6⟩ := hH b0 _ k_b0
        have o_c_6 : va_at g.1 vwCl (b0, .inl (g.2.1 1, 122, .inl (G.2.1 b0))) s.heap := o_c_6
        refine hg_iald hx hb hK o_c_6 (rg_in (n := 122) r_5 (by decide) (by decide)) dX12_childrenOf_13 ?_
        refine lv_topi (fun x_7 ex_7 => ?_)
        try rw [← ex_7] at hv
        refine lv_iload_n hx hb dX12_childrenOf_14 rfl (lv_at hl 1 rfl) ?_
        refine lv_icmp_ne (tgt := 22) hx hb dX12_childrenOf_15 (by decide) (fun c_8 => ?_) (fun c_8 => ?_)
        · rw [if_neg c_8] at hv
          refine lv_iconst (v := 0) hx hb dX12_childrenOf_22 (by decide) ?_
          exact L_23 0 ls r_5 (rg_w rl_0 (by decide) (by decide)) (lv_sub hl [0, 1, 3] rfl) hv
        · rw [if_pos c_8] at hv
          refine lv_iconst (v := 1) hx hb dX12_childrenOf_18 (by decide) ?_
          refine lv_goto (tgt := 23) hx hb dX12_childrenOf_19 (by decide) ?_
          exact L_23 1 ls r_5 (rg_w rl_1 (by decide) (by decide)) (lv_sub hl [0, 1, 3] rfl) hv
  refine lv_iconst (v := 0) hx hb dX12_childrenOf_0 (by decide) ?_
  refine lv_istore_n (lv' := [(2, .int 0), (0, .ref b0), (1, .int a1)]) hx hb dX12_childrenOf_1 rfl hl (by decide) rfl (fun ls hl => ?_)
  refine lv_iconst (v := 1) hx hb dX12_childrenOf_2 (by decide) ?_
  refine lv_istore_n (lv' := [(3, .int 1), (2, .int 0), (0, .ref b0), (1, .int a1)]) hx hb dX12_childrenOf_3 rfl hl (by decide) rfl (fun ls hl => ?_)
  exact L_4 26 0 1 ls (rg_w rl_1 (by decide) (by decide)) (by decide) (lv_sub hl [2, 3, 1, 0] rfl) hv

def F_X12_kindOf (f0 : Nat → Int32) (a1 : Int32) : Int32 := (if (f0 (Int32.toNatClampNeg ((48 : Int32) + a1))) = (0 : Int32) then (if (f0 (Int32.toNatClampNeg ((72 : Int32) + a1))) = (0 : Int32) then (if (0 : Int32) = (0 : Int32) then (if (0 : Int32) = (0 : Int32) then (if (f0 (Int32.toNatClampNeg ((96 : Int32) + a1))) = (1 : Int32) then (3 : Int32) else (0 : Int32)) else (2 : Int32)) else (if (0 : Int32) = (0 : Int32) then (1 : Int32) else (4 : Int32))) else (if (0 : Int32) = (0 : Int32) then (if (1 : Int32) = (0 : Int32) then (if (f0 (Int32.toNatClampNeg ((96 : Int32) + a1))) = (1 : Int32) then (3 : Int32) else (0 : Int32)) else (2 : Int32)) else (if (1 : Int32) = (0 : Int32) then (1 : Int32) else (4 : Int32)))) else (if (f0 (Int32.toNatClampNeg ((72 : Int32) + a1))) = (0 : Int32) then (if (1 : Int32) = (0 : Int32) then (if (0 : Int32) = (0 : Int32) then (if (f0 (Int32.toNatClampNeg ((96 : Int32) + a1))) = (1 : Int32) then (3 : Int32) else (0 : Int32)) else (2 : Int32)) else (if (0 : Int32) = (0 : Int32) then (1 : Int32) else (4 : Int32))) else (if (1 : Int32) = (0 : Int32) then (if (1 : Int32) = (0 : Int32) then (if (f0 (Int32.toNatClampNeg ((96 : Int32) + a1))) = (1 : Int32) then (3 : Int32) else (0 : Int32)) else (2 : Int32)) else (if (1 : Int32) = (0 : Int32) then (1 : Int32) else (4 : Int32)))))
set_option maxHeartbeats 4000000 in
set_option maxRecDepth 100000 in
theorem c_X12_kindOf (l : Launch) (g : Gx) (Ty : TyM) (G : Gh) (b0 : Nat) (a1 : Int32) (k_b0 : Ty b0 = some (30, 122)) (pr1 : rgI (0) (23) a1) : Met l yX12_kindOf (wsG yX12_kindOf cX12_kindOf 4 (some .int)) ({ frames := 0, cells := 0, slots := 0, locals := 0 }) (PcH g Ty G [.ref b0, .int a1]) (vp_Si (fun r => r = F_X12_kindOf (G.2.1 b0) a1)) 0 0 (fun _ => False) := by
  refine Met.ofW (cc := cX12_kindOf) (maxL := 4) (ret := (some .int)) (by decide) rfl ?_
  intro p e s m args below meth c s₁ B hml hv
  obtain ⟨rfl, hK, hH⟩ := hv
  have hx := B.exec
  have hb := B.bytes
  have hr := B.returns
  have hts := atoms_spec (ws := (wsG yX12_kindOf cX12_kindOf 4 (some .int))) B.pre
  have hG : ∀ w ∈ GW, w.before ([.ref b0, .int a1] : List Value).toArray s = true := fun w h => hts w (List.mem_cons_of_mem _ h)
  have hown : s.vm.findClass RX12 = some m.cls := findClass_of_methodNamed B.named
  have hlocks := B.notSynchronized
  have hl := lv_entry [.ref b0, .int a1] (n := 4) (Nat.le_of_ble_eq_true rfl)
  rw [lg_entry_eq]
  generalize (lg_sl [.ref b0, .int a1] ++ List.replicate (4 - (lg_sl [.ref b0, .int a1]).length) Slot.unset).toArray = ls at hl ⊢
  have hl : lv_has ls 4 [(0, .ref b0), (1, .int a1)] := hl
  have hv : (if ((G.2.1 b0) (Int32.toNatClampNeg ((48 : Int32) + a1))) = (0 : Int32) then (if ((G.2.1 b0) (Int32.toNatClampNeg ((72 : Int32) + a1))) = (0 : Int32) then (if (0 : Int32) = (0 : Int32) then (if (0 : Int32) = (0 : Int32) then (if ((G.2.1 b0) (Int32.toNatClampNeg ((96 : Int32) + a1))) = (1 : Int32) then (3 : Int32) else (0 : Int32)) else (2 : Int32)) else (if (0 : Int32) = (0 : Int32) then (1 : Int32) else (4 : Int32))) else (if (0 : Int32) = (0 : Int32) then (if (1 : Int32) = (0 : Int32) then (if ((G.2.1 b0) (Int32.toNatClampNeg ((96 : Int32) + a1))) = (1 : Int32) then (3 : Int32) else (0 : Int32)) else (2 : Int32)) else (if (1 : Int32) = (0 : Int32) then (1 : Int32) else (4 : Int32)))) else (if ((G.2.1 b0) (Int32.toNatClampNeg ((72 : Int32) + a1))) = (0 : Int32) then (if (1 : Int32) = (0 : Int32) then (if (0 : Int32) = (0 : Int32) then (if ((G.2.1 b0) (Int32.toNatClampNeg ((96 : Int32) + a1))) = (1 : Int32) then (3 : Int32) else (0 : Int32)) else (2 : Int32)) else (if (0 : Int32) = (0 : Int32) then (1 : Int32) else (4 : Int32))) else (if (1 : Int32) = (0 : Int32) then (if (1 : Int32) = (0 : Int32) then (if ((G.2.1 b0) (Int32.toNatClampNeg ((96 : Int32) + a1))) = (1 : Int32) then (3 : Int32) else (0 : Int32)) else (2 : Int32)) else (if (1 : Int32) = (0 : Int32) then (1 : Int32) else (4 : Int32))))) = F_X12_kindOf (G.2.1 b0) a1 := rfl
  have L_29 : ∀ (y2_29 : Int32) (z0_29 : Int32) (ls : Array Slot), rgI (0) (23) a1 → rgI (0) (1) y2_29 → rgI (0) (1) z0_29 → lv_has ls 4 [(0, .ref b0), (1, .int a1), (2, .int y2_29)] → (if y2_29 = (0 : Int32) then (if z0_29 = (0 : Int32) then (if ((G.2.1 b0) (Int32.toNatClampNeg ((96 : Int32) + a1))) = (1 : Int32) then (3 : Int32) else (0 : Int32)) else (2 : Int32)) else (if z0_29 = (0 : Int32) then (1 : Int32) else (4 : Int32))) = F_X12_kindOf (G.2.1 b0) a1 → Wm p l e (wsG yX12_kindOf cX12_kindOf 4 (some .int)) ({ frames := 0, cells := 0, slots := 0, locals := 0 }) s m [.ref b0, .int a1] below meth c s.heap [] (0) (0) (vp_Si (fun r => r = F_X12_kindOf (G.2.1 b0) a1)) 0 0 (fun _ => False) (F0 m 29 ls [.int z0_29]) := by
    intro y2_29 z0_29 ls ry1_29 ry2_29 rz0_29 hl hv
    refine lv_istore_n (lv' := [(3, .int z0_29), (0, .ref b0), (1, .int a1), (2, .int y2_29)]) hx hb dX12_kindOf_29 rfl hl (by decide) rfl (fun ls hl => ?_)
    refine lv_iload_n hx hb dX12_kindOf_30 rfl (lv_at hl 3 rfl) ?_
    refine lv_if_eq (tgt := 44) hx hb dX12_kindOf_31 (by decide) (fun c_1 => ?_) (fun c_1 => ?_)
    · rw [if_pos c_1] at hv
      have r_2 : rgI (0) (0) y2_29 := rg_w (rg_eq rl_0 c_1) (by decide) (by decide)
      refine lv_iload_n hx hb dX12_kindOf_44 rfl (lv_at hl 0 rfl) ?_
      refine lv_if_eq (tgt := 52) hx hb dX12_kindOf_45 (by decide) (fun c_3 => ?_) (fun c_3 => ?_)
      · rw [if_pos c_3] at hv
        have r_4 : rgI (0) (0) z0_29 := rg_w (rg_eq rl_0 c_3) (by decide) (by decide)
        refine lv_aload_n hx hb dX12_kindOf_52 rfl (lv_at hl 1 rfl) ?_
        refine lv_bipush (v := 96) hx hb dX12_kindOf_53 (by decide) ?_
        refine lv_iload_n hx hb dX12_kindOf_55 rfl (lv_at hl 2 rfl) ?_
        refine lv_iadd hx hb dX12_kindOf_56 ?_
        refine lv_topi (fun x_5 ex_5 => ?_)
        try rw [← ex_5] at hv
        have rx_5 : rgI (96) (119) x_5 := by rw [ex_5]; exact rg_w (rg_add rl_96 ry1_29 (by decide) (by decide)) (by decide) (by decide)
        obtain ⟨_, rfl, o_c_6⟩ := hH b0 _ k_b0
        have o_c_6 : va_at g.1 vwCl (b0, .inl (g.2.1 1, 122, .inl (G.2.1 b0))) s.heap := o_c_6
        refine hg_iald hx hb hK o_c_6 (rg_in (n := 122) rx_5 (by decide) (by decide)) dX12_kindOf_57 ?_
        refine lv_topi (fun x_7 ex_7 => ?_)
        try rw [← ex_7] at hv
        refine lv_iconst (v := 1) hx hb dX12_kindOf_58 (by decide) ?_
        refine lv_icmp_ne (tgt := 66) hx hb dX12_kindOf_59 (by decide) (fun c_8 => ?_) (fun c_8 => ?_)
        · rw [if_neg c_8] at hv
          refine lv_iconst (v := 0) hx hb dX12_kindOf_66 (by decide) ?_
          exact W.iret hx hb hr (fun t ht hW => ⟨0, rfl, hv, ht⟩) (fun q h => by cases h) dX12_kindOf_67
        · rw [if_pos c_8] at hv
          have r_9 : rgI (1) (1) x_7 := rg_w (rg_eq rl_1 c_8) (by decide) (by decide)
          refine lv_iconst (v := 3) hx hb dX12_kindOf_62 (by decide) ?_
          refine lv_goto (tgt := 67) hx hb dX12_kindOf_63 (by decide) ?_
          exact W.iret hx hb hr (fun t ht hW => ⟨3, rfl, hv, ht⟩) (fun q h => by cases h) dX12_kindOf_67
      · rw [if_neg c_3] at hv
        have r_10 : rgI (1) (1) z0_29 := rg_w (rg_neL rz0_29 rl_0 c_3) (by decide) (by decide)
        refine lv_iconst (v := 2) hx hb dX12_kindOf_48 (by decide) ?_
        refine lv_goto (tgt := 67) hx hb dX12_kindOf_49 (by decide) ?_
        exact W.iret hx hb hr (fun t ht hW => ⟨2, rfl, hv, ht⟩) (fun q h => by cases h) dX12_kindOf_67
    · rw [if_neg c_1] at hv
      have r_11 : rgI (1) (1) y2_29 := rg_w (rg_neL ry2_29 rl_0 c_1) (by decide) (by decide)
      refine lv_iload_n hx hb dX12_kindOf_34 rfl (lv_at hl 0 rfl) ?_
      refine lv_if_eq (tgt := 42) hx hb dX12_kindOf_35 (by decide) (fun c_12 => ?_) (fun c_12 => ?_)
      · rw [if_pos c_12] at hv
        have r_13 : rgI (0) (0) z0_29 := rg_w (rg_eq rl_0 c_12) (by decide) (by decide)
        refine lv_iconst (v := 1) hx hb dX12_kindOf_42 (by decide) ?_
        exact W.iret hx hb hr (fun t ht hW => ⟨1, rfl, hv, ht⟩) (fun q h => by cases h) dX12_kindOf_43
      · rw [if_neg c_12] at hv
        have r_14 : rgI (1) (1) z0_29 := rg_w (rg_neL rz0_29 rl_0 c_12) (by decide) (by decide)
        refine lv_iconst (v := 4) hx hb dX12_kindOf_38 (by decide) ?_
        refine lv_goto (tgt := 43) hx hb dX12_kindOf_39 (by decide) ?_
        exact W.iret hx hb hr (fun t ht hW => ⟨4, rfl, hv, ht⟩) (fun q h => by cases h) dX12_kindOf_43
  have L_14 : ∀ (z0_14 : Int32) (ls : Array Slot), rgI (0) (23) a1 → rgI (0) (1) z0_14 → lv_has ls 4 [(0, .ref b0), (1, .int a1)] → (if ((G.2.1 b0) (Int32.toNatClampNeg ((72 : Int32) + a1))) = (0 : Int32) then (if z0_14 = (0 : Int32) then (if (0 : Int32) = (0 : Int32) then (if ((G.2.1 b0) (Int32.toNatClampNeg ((96 : Int32) + a1))) = (1 : Int32) then (3 : Int32) else (0 : Int32)) else (2 : Int32)) else (if (0 : Int32) = (0 : Int32) then (1 : Int32) else (4 : Int32))) else (if z0_14 = (0 : Int32) then (if (1 : Int32) = (0 : Int32) then (if ((G.2.1 b0) (Int32.toNatClampNeg ((96 : Int32) + a1))) = (1 : Int32) then (3 : Int32) else (0 : Int32)) else (2 : Int32)) else (if (1 : Int32) = (0 : Int32) then (1 : Int32) else (4 : Int32)))) = F_X12_kindOf (G.2.1 b0) a1 → Wm p l e (wsG yX12_kindOf cX12_kindOf 4 (some .int)) ({ frames := 0, cells := 0, slots := 0, locals := 0 }) s m [.ref b0, .int a1] below meth c s.heap [] (0) (0) (vp_Si (fun r => r = F_X12_kindOf (G.2.1 b0) a1)) 0 0 (fun _ => False) (F0 m 14 ls [.int z0_14]) := by
    intro z0_14 ls ry1_14 rz0_14 hl hv
    refine lv_istore_n (lv' := [(2, .int z0_14), (0, .ref b0), (1, .int a1)]) hx hb dX12_kindOf_14 rfl hl (by decide) rfl (fun ls hl => ?_)
    refine lv_aload_n hx hb dX12_kindOf_15 rfl (lv_at hl 1 rfl) ?_
    refine lv_bipush (v := 72) hx hb dX12_kindOf_16 (by decide) ?_
    refine lv_iload_n hx hb dX12_kindOf_18 rfl (lv_at hl 2 rfl) ?_
    refine lv_iadd hx hb dX12_kindOf_19 ?_
    refine lv_topi (fun x_15 ex_15 => ?_)
    try rw [← ex_15] at hv
    have rx_15 : rgI (72) (95) x_15 := by rw [ex_15]; exact rg_w (rg_add rl_72 ry1_14 (by decide) (by decide)) (by decide) (by decide)
    obtain ⟨_, rfl, o_c_16⟩ := hH b0 _ k_b0
    have o_c_16 : va_at g.1 vwCl (b0, .inl (g.2.1 1, 122, .inl (G.2.1 b0))) s.heap := o_c_16
    refine hg_iald hx hb hK o_c_16 (rg_in (n := 122) rx_15 (by decide) (by decide)) dX12_kindOf_20 ?_
    refine lv_topi (fun x_17 ex_17 => ?_)
    try rw [← ex_17] at hv
    refine lv_if_eq (tgt := 28) hx hb dX12_kindOf_21 (by decide) (fun c_18 => ?_) (fun c_18 => ?_)
    · rw [if_pos c_18] at hv
      have r_19 : rgI (0) (0) x_17 := rg_w (rg_eq rl_0 c_18) (by decide) (by decide)
      refine lv_iconst (v := 0) hx hb dX12_kindOf_28 (by decide) ?_
      exact L_29 z0_14 0 ls ry1_14 rz0_14 (rg_w rl_0 (by decide) (by decide)) (lv_sub hl [1, 2, 0] rfl) hv
    · rw [if_neg c_18] at hv
      refine lv_iconst (v := 1) hx hb dX12_kindOf_24 (by decide) ?_
      refine lv_goto (tgt := 29) hx hb dX12_kindOf_25 (by decide) ?_
      exact L_29 z0_14 1 ls ry1_14 rz0_14 (rg_w rl_1 (by decide) (by decide)) (lv_sub hl [1, 2, 0] rfl) hv
  refine lv_aload_n hx hb dX12_kindOf_0 rfl (lv_at hl 0 rfl) ?_
  refine lv_bipush (v := 48) hx hb dX12_kindOf_1 (by decide) ?_
  refine lv_iload_n hx hb dX12_kindOf_3 rfl (lv_at hl 1 rfl) ?_
  refine lv_iadd hx hb dX12_kindOf_4 ?_
  refine lv_topi (fun x_20 ex_20 => ?_)
  try rw [← ex_20] at hv
  have rx_20 : rgI (48) (71) x_20 := by rw [ex_20]; exact rg_w (rg_add rl_48 pr1 (by decide) (by decide)) (by decide) (by decide)
  obtain ⟨_, rfl, o_c_21⟩ := hH b0 _ k_b0
  have o_c_21 : va_at g.1 vwCl (b0, .inl (g.2.1 1, 122, .inl (G.2.1 b0))) s.heap := o_c_21
  refine hg_iald hx hb hK o_c_21 (rg_in (n := 122) rx_20 (by decide) (by decide)) dX12_kindOf_5 ?_
  refine lv_topi (fun x_22 ex_22 => ?_)
  try rw [← ex_22] at hv
  refine lv_if_eq (tgt := 13) hx hb dX12_kindOf_6 (by decide) (fun c_23 => ?_) (fun c_23 => ?_)
  · rw [if_pos c_23] at hv
    have r_24 : rgI (0) (0) x_22 := rg_w (rg_eq rl_0 c_23) (by decide) (by decide)
    refine lv_iconst (v := 0) hx hb dX12_kindOf_13 (by decide) ?_
    exact L_14 0 ls pr1 (rg_w rl_0 (by decide) (by decide)) (lv_sub hl [0, 1] rfl) hv
  · rw [if_neg c_23] at hv
    refine lv_iconst (v := 1) hx hb dX12_kindOf_9 (by decide) ?_
    refine lv_goto (tgt := 14) hx hb dX12_kindOf_10 (by decide) ?_
    exact L_14 1 ls pr1 (rg_w rl_1 (by decide) (by decide)) (lv_sub hl [0, 1] rfl) hv

def F_X12_thereOf_4 (f0 : Nat → Int32) : Nat → Int32 → Int32 → Int32
  | 0, y1, _ => y1
  | n + 1, y1, y2 => (if (24 : Int32) ≤ y2 then y1 else (if (F_X12_isThere (f0) y2) = (0 : Int32) then (F_X12_thereOf_4 f0 n (y1 ||| (0 : Int32)) (y2 + (1 : Int32))) else (F_X12_thereOf_4 f0 n (y1 ||| ((1 : Int32) <<< (y2 &&& 31))) (y2 + (1 : Int32)))))
def F_X12_thereOf (f0 : Nat → Int32) : Int32 := (F_X12_thereOf_4 f0 26 (0 : Int32) (0 : Int32))
set_option maxHeartbeats 4000000 in
set_option maxRecDepth 100000 in
theorem c_X12_thereOf (l : Launch) (g : Gx) (Ty : TyM) (G : Gh) (b0 : Nat) (k_b0 : Ty b0 = some (30, 122)) : Met l yX12_thereOf (wsG yX12_thereOf cX12_thereOf 3 (some .int)) ({ frames := 2, cells := 0, slots := 0, locals := 43 }) (PcH g Ty G [.ref b0]) (vp_Si (fun r => r = F_X12_thereOf (G.2.1 b0))) 0 0 (fun _ => False) := by
  refine Met.ofW (cc := cX12_thereOf) (maxL := 3) (ret := (some .int)) (by decide) rfl ?_
  intro p e s m args below meth c s₁ B hml hv
  obtain ⟨rfl, hK, hH⟩ := hv
  have hx := B.exec
  have hb := B.bytes
  have hr := B.returns
  have hts := atoms_spec (ws := (wsG yX12_thereOf cX12_thereOf 3 (some .int))) B.pre
  have hG : ∀ w ∈ GW, w.before ([.ref b0] : List Value).toArray s = true := fun w h => hts w (List.mem_cons_of_mem _ h)
  have hown : s.vm.findClass RX12 = some m.cls := findClass_of_methodNamed B.named
  have hlocks := B.notSynchronized
  have hl := lv_entry [.ref b0] (n := 3) (Nat.le_of_ble_eq_true rfl)
  rw [lg_entry_eq]
  generalize (lg_sl [.ref b0] ++ List.replicate (3 - (lg_sl [.ref b0]).length) Slot.unset).toArray = ls at hl ⊢
  have hl : lv_has ls 3 [(0, .ref b0)] := hl
  have hv : (F_X12_thereOf_4 (G.2.1 b0) 26 (0 : Int32) (0 : Int32)) = F_X12_thereOf (G.2.1 b0) := rfl
  have L_4 : ∀ (n_4 : Nat) (y1_4 : Int32) (y2_4 : Int32) (ls : Array Slot), rgI (0) (24) y2_4 → (24 - (y2_4).toInt).toNat < n_4 → lv_has ls 3 [(0, .ref b0), (1, .int y1_4), (2, .int y2_4)] → (F_X12_thereOf_4 (G.2.1 b0) n_4 y1_4 y2_4) = F_X12_thereOf (G.2.1 b0) → Wm p l e (wsG yX12_thereOf cX12_thereOf 3 (some .int)) ({ frames := 2, cells := 0, slots := 0, locals := 43 }) s m [.ref b0] below meth c s.heap [] (0) (0) (vp_Si (fun r => r = F_X12_thereOf (G.2.1 b0))) 0 0 (fun _ => False) (F0 m 4 ls []) := by
    intro n_4
    induction n_4 with
    | zero => intro y1_4 y2_4 ls ry2_4 hm; exact absurd hm (Nat.not_lt_zero _)
    | succ n_4 ih_4 =>
      intro y1_4 y2_4 ls ry2_4 hm_4 hl hv
      have L_26 : ∀ (z0_26 : Int32) (ls : Array Slot), rgI (0) (23) y2_4 → lv_has ls 3 [(0, .ref b0), (2, .int y2_4)] → (F_X12_thereOf_4 (G.2.1 b0) n_4 (y1_4 ||| z0_26) (y2_4 + (1 : Int32))) = F_X12_thereOf (G.2.1 b0) → Wm p l e (wsG yX12_thereOf cX12_thereOf 3 (some .int)) ({ frames := 2, cells := 0, slots := 0, locals := 43 }) s m [.ref b0] below meth c s.heap [] (0) (0) (vp_Si (fun r => r = F_X12_thereOf (G.2.1 b0))) 0 0 (fun _ => False) (F0 m 26 ls [.int z0_26, .int y1_4]) := by
        intro z0_26 ls ry2_26 hl hv
        refine lv_ior hx hb dX12_thereOf_26 ?_
        refine lv_topi (fun x_1 ex_1 => ?_)
        try rw [← ex_1] at hv
        refine lv_istore_n (lv' := [(1, .int x_1), (0, .ref b0), (2, .int y2_4)]) hx hb dX12_thereOf_27 rfl hl (by decide) rfl (fun ls hl => ?_)
        obtain ⟨x_2, ex_2⟩ : ∃ y : Int32, y = y2_4 + 1 := ⟨_, rfl⟩
        try rw [← ex_2] at hv
        have rx_2 : rgI (1) (24) x_2 := by rw [ex_2]; exact rg_w (rg_add ry2_26 rl_1 (by decide) (by decide)) (by decide) (by decide)
        have qx_2 : x_2.toInt = (y2_4 : Int32).toInt + 1 := by rw [ex_2]; exact rg_addE ry2_26 rl_1 (by decide) (by decide)
        refine lv_iinc (v := x_2) (lv' := [(2, .int x_2), (1, .int x_1), (0, .ref b0)]) hx hb dX12_thereOf_28 hl (k := 2) rfl (by rw [ex_2]; rfl) (by decide) rfl (fun ls hl => ?_)
        refine lv_goto (tgt := 4) hx hb dX12_thereOf_31 (by decide) ?_
        exact ih_4 x_1 x_2 ls (rg_w rx_2 (by decide) (by decide)) (by have h1 := qx_2; have h2 := ry2_26.1; have h3 := ry2_26.2; have h4 := hm_4; omega) (lv_sub hl [2, 1, 0] rfl) hv
      rw [F_X12_thereOf_4] at hv
      refine lv_iload_n hx hb dX12_thereOf_4 rfl (lv_at hl 2 rfl) ?_
      refine lv_bipush (v := 24) hx hb dX12_thereOf_5 (by decide) ?_
      refine lv_icmp_ge (tgt := 34) hx hb dX12_thereOf_7 (by decide) (fun c_3 => ?_) (fun c_3 => ?_)
      · rw [if_pos c_3] at hv
        have r_4 : rgI (24) (24) y2_4 := rg_w (rg_leR rl_24 ry2_4 c_3) (by decide) (by decide)
        refine lv_iload_n hx hb dX12_thereOf_34 rfl (lv_at hl 1 rfl) ?_
        exact W.iret hx hb hr (fun t ht hW => ⟨y1_4, rfl, hv, ht⟩) (fun q h => by cases h) dX12_thereOf_35
      · rw [if_neg c_3] at hv
        have r_5 : rgI (0) (23) y2_4 := rg_w (rg_ltL ry2_4 rl_24 (nle_lt c_3)) (by decide) (by decide)
        refine lv_iload_n hx hb dX12_thereOf_10 rfl (lv_at hl 1 rfl) ?_
        refine lv_aload_n hx hb dX12_thereOf_11 rfl (lv_at hl 0 rfl) ?_
        refine lv_iload_n hx hb dX12_thereOf_12 rfl (lv_at hl 2 rfl) ?_
        refine vp_callSi (W.runS (As := [.ref b0, .int y2_4]) (rest := [.int y1_4]) ⟨hx, hb, hml, hown, hts⟩ (c_X12_isThere l g Ty G b0 y2_4 k_b0) (cwSx 2 hts hG (gwC mw_1520) mw_88 mw_1518 mw_1519 rfl rfl rfl hd_X12_isThere ⟨Nat.le_of_ble_eq_true rfl, Nat.le_of_ble_eq_true rfl⟩) ⟨PcH_blind, PcH_pre hK hH⟩ rfl rfl hl.1 rfl (lv_room (Nat.le_of_ble_eq_true rfl)) dX12_thereOf_13 ⟨Nat.zero_le _, Nat.zero_le _⟩) (fun x_6 hx_6 => ?_)
        have rx_6 : rgI (0) (1) x_6 := hx_6.1
        try rw [← hx_6.2.2] at hv
        refine lv_if_eq (tgt := 25) hx hb dX12_thereOf_16 (by decide) (fun c_7 => ?_) (fun c_7 => ?_)
        · rw [if_pos c_7] at hv
          have r_8 : rgI (0) (0) x_6 := rg_w (rg_eq rl_0 c_7) (by decide) (by decide)
          refine lv_iconst (v := 0) hx hb dX12_thereOf_25 (by decide) ?_
          exact L_26 0 ls r_5 (lv_sub hl [0, 2] rfl) hv
        · rw [if_neg c_7] at hv
          have r_9 : rgI (1) (1) x_6 := rg_w (rg_neL rx_6 rl_0 c_7) (by decide) (by decide)
          refine lv_iconst (v := 1) hx hb dX12_thereOf_19 (by decide) ?_
          refine lv_iload_n hx hb dX12_thereOf_20 rfl (lv_at hl 2 rfl) ?_
          refine lv_ishl hx hb dX12_thereOf_21 ?_
          refine lv_topi (fun x_10 ex_10 => ?_)
          try rw [← ex_10] at hv
          refine lv_goto (tgt := 26) hx hb dX12_thereOf_22 (by decide) ?_
          exact L_26 x_10 ls r_5 (lv_sub hl [0, 2] rfl) hv
  refine lv_iconst (v := 0) hx hb dX12_thereOf_0 (by decide) ?_
  refine lv_istore_n (lv' := [(1, .int 0), (0, .ref b0)]) hx hb dX12_thereOf_1 rfl hl (by decide) rfl (fun ls hl => ?_)
  refine lv_iconst (v := 0) hx hb dX12_thereOf_2 (by decide) ?_
  refine lv_istore_n (lv' := [(2, .int 0), (1, .int 0), (0, .ref b0)]) hx hb dX12_thereOf_3 rfl hl (by decide) rfl (fun ls hl => ?_)
  exact L_4 26 0 0 ls (rg_w rl_0 (by decide) (by decide)) (by decide) (lv_sub hl [2, 1, 0] rfl) hv

def F_X12_inGroup_4 (f0 : Nat → Int32) : Nat → Int32 → Int32 → Int32 → Int32
  | 0, _, y2, _ => y2
  | n + 1, y1, y2, y3 => (if (24 : Int32) ≤ y3 then y2 else (if (F_X12_isThere (f0) y3) = (0 : Int32) then (F_X12_inGroup_4 f0 n y1 (y2 ||| (0 : Int32)) (y3 + (1 : Int32))) else (if (f0 (Int32.toNatClampNeg ((48 : Int32) + y3))) = y1 then (F_X12_inGroup_4 f0 n y1 (y2 ||| ((1 : Int32) <<< (y3 &&& 31))) (y3 + (1 : Int32))) else (F_X12_inGroup_4 f0 n y1 (y2 ||| (0 : Int32)) (y3 + (1 : Int32))))))
def F_X12_inGroup (f0 : Nat → Int32) (a1 : Int32) : Int32 := (F_X12_inGroup_4 f0 26 a1 (0 : Int32) (0 : Int32))
set_option maxHeartbeats 4000000 in
set_option maxRecDepth 100000 in
theorem c_X12_inGroup (l : Launch) (g : Gx) (Ty : TyM) (G : Gh) (b0 : Nat) (a1 : Int32) (k_b0 : Ty b0 = some (30, 122)) : Met l yX12_inGroup (wsG yX12_inGroup cX12_inGroup 4 (some .int)) ({ frames := 2, cells := 0, slots := 0, locals := 43 }) (PcH g Ty G [.ref b0, .int a1]) (vp_Si (fun r => r = F_X12_inGroup (G.2.1 b0) a1)) 0 0 (fun _ => False) := by
  refine Met.ofW (cc := cX12_inGroup) (maxL := 4) (ret := (some .int)) (by decide) rfl ?_
  intro p e s m args below meth c s₁ B hml hv
  obtain ⟨rfl, hK, hH⟩ := hv
  have hx := B.exec
  have hb := B.bytes
  have hr := B.returns
  have hts := atoms_spec (ws := (wsG yX12_inGroup cX12_inGroup 4 (some .int))) B.pre
  have hG : ∀ w ∈ GW, w.before ([.ref b0, .int a1] : List Value).toArray s = true := fun w h => hts w (List.mem_cons_of_mem _ h)
  have hown : s.vm.findClass RX12 = some m.cls := findClass_of_methodNamed B.named
  have hlocks := B.notSynchronized
  have hl := lv_entry [.ref b0, .int a1] (n := 4) (Nat.le_of_ble_eq_true rfl)
  rw [lg_entry_eq]
  generalize (lg_sl [.ref b0, .int a1] ++ List.replicate (4 - (lg_sl [.ref b0, .int a1]).length) Slot.unset).toArray = ls at hl ⊢
  have hl : lv_has ls 4 [(0, .ref b0), (1, .int a1)] := hl
  have hv : (F_X12_inGroup_4 (G.2.1 b0) 26 a1 (0 : Int32) (0 : Int32)) = F_X12_inGroup (G.2.1 b0) a1 := rfl
  have L_4 : ∀ (n_4 : Nat) (y2_4 : Int32) (y3_4 : Int32) (ls : Array Slot), rgI (0) (24) y3_4 → (24 - (y3_4).toInt).toNat < n_4 → lv_has ls 4 [(0, .ref b0), (1, .int a1), (2, .int y2_4), (3, .int y3_4)] → (F_X12_inGroup_4 (G.2.1 b0) n_4 a1 y2_4 y3_4) = F_X12_inGroup (G.2.1 b0) a1 → Wm p l e (wsG yX12_inGroup cX12_inGroup 4 (some .int)) ({ frames := 2, cells := 0, slots := 0, locals := 43 }) s m [.ref b0, .int a1] below meth c s.heap [] (0) (0) (vp_Si (fun r => r = F_X12_inGroup (G.2.1 b0) a1)) 0 0 (fun _ => False) (F0 m 4 ls []) := by
    intro n_4
    induction n_4 with
    | zero => intro y2_4 y3_4 ls ry3_4 hm; exact absurd hm (Nat.not_lt_zero _)
    | succ n_4 ih_4 =>
      intro y2_4 y3_4 ls ry3_4 hm_4 hl hv
      have L_36 : ∀ (z0_36 : Int32) (ls : Array Slot), rgI (0) (23) y3_4 → lv_has ls 4 [(0, .ref b0), (1, .int a1), (3, .int y3_4)] → (F_X12_inGroup_4 (G.2.1 b0) n_4 a1 (y2_4 ||| z0_36) (y3_4 + (1 : Int32))) = F_X12_inGroup (G.2.1 b0) a1 → Wm p l e (wsG yX12_inGroup cX12_inGroup 4 (some .int)) ({ frames := 2, cells := 0, slots := 0, locals := 43 }) s m [.ref b0, .int a1] below meth c s.heap [] (0) (0) (vp_Si (fun r => r = F_X12_inGroup (G.2.1 b0) a1)) 0 0 (fun _ => False) (F0 m 36 ls [.int z0_36, .int y2_4]) := by
        intro z0_36 ls ry3_36 hl hv
        refine lv_ior hx hb dX12_inGroup_36 ?_
        refine lv_topi (fun x_1 ex_1 => ?_)
        try rw [← ex_1] at hv
        refine lv_istore_n (lv' := [(2, .int x_1), (0, .ref b0), (1, .int a1), (3, .int y3_4)]) hx hb dX12_inGroup_37 rfl hl (by decide) rfl (fun ls hl => ?_)
        obtain ⟨x_2, ex_2⟩ : ∃ y : Int32, y = y3_4 + 1 := ⟨_, rfl⟩
        try rw [← ex_2] at hv
        have rx_2 : rgI (1) (24) x_2 := by rw [ex_2]; exact rg_w (rg_add ry3_36 rl_1 (by decide) (by decide)) (by decide) (by decide)
        have qx_2 : x_2.toInt = (y3_4 : Int32).toInt + 1 := by rw [ex_2]; exact rg_addE ry3_36 rl_1 (by decide) (by decide)
        refine lv_iinc (v := x_2) (lv' := [(3, .int x_2), (2, .int x_1), (0, .ref b0), (1, .int a1)]) hx hb dX12_inGroup_38 hl (k := 3) rfl (by rw [ex_2]; rfl) (by decide) rfl (fun ls hl => ?_)
        refine lv_goto (tgt := 4) hx hb dX12_inGroup_41 (by decide) ?_
        exact ih_4 x_1 x_2 ls (rg_w rx_2 (by decide) (by decide)) (by have h1 := qx_2; have h2 := ry3_36.1; have h3 := ry3_36.2; have h4 := hm_4; omega) (lv_sub hl [2, 3, 1, 0] rfl) hv
      have L_35 : ∀ (ls : Array Slot), rgI (0) (23) y3_4 → lv_has ls 4 [(0, .ref b0), (1, .int a1), (3, .int y3_4)] → (F_X12_inGroup_4 (G.2.1 b0) n_4 a1 (y2_4 ||| (0 : Int32)) (y3_4 + (1 : Int32))) = F_X12_inGroup (G.2.1 b0) a1 → Wm p l e (wsG yX12_inGroup cX12_inGroup 4 (some .int)) ({ frames := 2, cells := 0, slots := 0, locals := 43 }) s m [.ref b0, .int a1] below meth c s.heap [] (0) (0) (vp_Si (fun r => r = F_X12_inGroup (G.2.1 b0) a1)) 0 0 (fun _ => False) (F0 m 35 ls [.int y2_4]) := by
        intro ls ry3_35 hl hv
        refine lv_iconst (v := 0) hx hb dX12_inGroup_35 (by decide) ?_
        exact L_36 0 ls ry3_35 (lv_sub hl [0, 1, 2] rfl) hv
      rw [F_X12_inGroup_4] at hv
      refine lv_iload_n hx hb dX12_inGroup_4 rfl (lv_at hl 3 rfl) ?_
      refine lv_bipush (v := 24) hx hb dX12_inGroup_5 (by decide) ?_
      refine lv_icmp_ge (tgt := 44) hx hb dX12_inGroup_7 (by decide) (fun c_3 => ?_) (fun c_3 => ?_)
      · rw [if_pos c_3] at hv
        have r_4 : rgI (24) (24) y3_4 := rg_w (rg_leR rl_24 ry3_4 c_3) (by decide) (by decide)
        refine lv_iload_n hx hb dX12_inGroup_44 rfl (lv_at hl 2 rfl) ?_
        exact W.iret hx hb hr (fun t ht hW => ⟨y2_4, rfl, hv, ht⟩) (fun q h => by cases h) dX12_inGroup_45
      · rw [if_neg c_3] at hv
        have r_5 : rgI (0) (23) y3_4 := rg_w (rg_ltL ry3_4 rl_24 (nle_lt c_3)) (by decide) (by decide)
        refine lv_iload_n hx hb dX12_inGroup_10 rfl (lv_at hl 2 rfl) ?_
        refine lv_aload_n hx hb dX12_inGroup_11 rfl (lv_at hl 0 rfl) ?_
        refine lv_iload_n hx hb dX12_inGroup_12 rfl (lv_at hl 3 rfl) ?_
        refine vp_callSi (W.runS (As := [.ref b0, .int y3_4]) (rest := [.int y2_4]) ⟨hx, hb, hml, hown, hts⟩ (c_X12_isThere l g Ty G b0 y3_4 k_b0) (cwSx 2 hts hG (gwC mw_1520) mw_88 mw_1518 mw_1519 rfl rfl rfl hd_X12_isThere ⟨Nat.le_of_ble_eq_true rfl, Nat.le_of_ble_eq_true rfl⟩) ⟨PcH_blind, PcH_pre hK hH⟩ rfl rfl hl.1 rfl (lv_room (Nat.le_of_ble_eq_true rfl)) dX12_inGroup_13 ⟨Nat.zero_le _, Nat.zero_le _⟩) (fun x_6 hx_6 => ?_)
        have rx_6 : rgI (0) (1) x_6 := hx_6.1
        try rw [← hx_6.2.2] at hv
        refine lv_if_eq (tgt := 35) hx hb dX12_inGroup_16 (by decide) (fun c_7 => ?_) (fun c_7 => ?_)
        · rw [if_pos c_7] at hv
          have r_8 : rgI (0) (0) x_6 := rg_w (rg_eq rl_0 c_7) (by decide) (by decide)
          exact L_35  ls r_5 (lv_sub hl [0, 1, 3] rfl) hv
        · rw [if_neg c_7] at hv
          have r_9 : rgI (1) (1) x_6 := rg_w (rg_neL rx_6 rl_0 c_7) (by decide) (by decide)
          refine lv_aload_n hx hb dX12_inGroup_19 rfl (lv_at hl 0 rfl) ?_
          refine lv_bipush (v := 48) hx hb dX12_inGroup_20 (by decide) ?_
          refine lv_iload_n hx hb dX12_inGroup_22 rfl (lv_at hl 3 rfl) ?_
          refine lv_iadd hx hb dX12_inGroup_23 ?_
          refine lv_topi (fun x_10 ex_10 => ?_)
          try rw [← ex_10] at hv
          have rx_10 : rgI (48) (71) x_10 := by rw [ex_10]; exact rg_w (rg_add rl_48 r_5 (by decide) (by decide)) (by decide) (by decide)
          obtain ⟨_, rfl, o_c_11⟩ := hH b0 _ k_b0
          have o_c_11 : va_at g.1 vwCl (b0, .inl (g.2.1 1, 122, .inl (G.2.1 b0))) s.heap := o_c_11
          refine hg_iald hx hb hK o_c_11 (rg_in (n := 122) rx_10 (by decide) (by decide)) dX12_inGroup_24 ?_
          refine lv_topi (fun x_12 ex_12 => ?_)
          try rw [← ex_12] at hv
          refine lv_iload_n hx hb dX12_inGroup_25 rfl (lv_at hl 1 rfl) ?_
          refine lv_icmp_ne (tgt := 35) hx hb dX12_inGroup_26 (by decide) (fun c_13 => ?_) (fun c_13 => ?_)
          · rw [if_neg c_13] at hv
            exact L_35  ls r_5 (lv_sub hl [0, 1, 3] rfl) hv
          · rw [if_pos c_13] at hv
            refine lv_iconst (v := 1) hx hb dX12_inGroup_29 (by decide) ?_
            refine lv_iload_n hx hb dX12_inGroup_30 rfl (lv_at hl 3 rfl) ?_
            refine lv_ishl hx hb dX12_inGroup_31 ?_
            refine lv_topi (fun x_14 ex_14 => ?_)
            try rw [← ex_14] at hv
            refine lv_goto (tgt := 36) hx hb dX12_inGroup_32 (by decide) ?_
            exact L_36 x_14 ls r_5 (lv_sub hl [0, 1, 3] rfl) hv
  refine lv_iconst (v := 0) hx hb dX12_inGroup_0 (by decide) ?_
  refine lv_istore_n (lv' := [(2, .int 0), (0, .ref b0), (1, .int a1)]) hx hb dX12_inGroup_1 rfl hl (by decide) rfl (fun ls hl => ?_)
  refine lv_iconst (v := 0) hx hb dX12_inGroup_2 (by decide) ?_
  refine lv_istore_n (lv' := [(3, .int 0), (2, .int 0), (0, .ref b0), (1, .int a1)]) hx hb dX12_inGroup_3 rfl hl (by decide) rfl (fun ls hl => ?_)
  exact L_4 26 0 0 ls (rg_w rl_0 (by decide) (by decide)) (by decide) (lv_sub hl [2, 3, 1, 0] rfl) hv

def F_X12_slavesOf_4 (f0 : Nat → Int32) : Nat → Int32 → Int32 → Int32 → Int32
  | 0, _, y2, _ => y2
  | n + 1, y1, y2, y3 => (if (24 : Int32) ≤ y3 then y2 else (if (F_X12_isThere (f0) y3) = (0 : Int32) then (F_X12_slavesOf_4 f0 n y1 (y2 ||| (0 : Int32)) (y3 + (1 : Int32))) else (if (f0 (Int32.toNatClampNeg ((72 : Int32) + y3))) = y1 then (F_X12_slavesOf_4 f0 n y1 (y2 ||| ((1 : Int32) <<< (y3 &&& 31))) (y3 + (1 : Int32))) else (F_X12_slavesOf_4 f0 n y1 (y2 ||| (0 : Int32)) (y3 + (1 : Int32))))))
def F_X12_slavesOf (f0 : Nat → Int32) (a1 : Int32) : Int32 := (F_X12_slavesOf_4 f0 26 a1 (0 : Int32) (0 : Int32))
set_option maxHeartbeats 4000000 in
set_option maxRecDepth 100000 in
theorem c_X12_slavesOf (l : Launch) (g : Gx) (Ty : TyM) (G : Gh) (b0 : Nat) (a1 : Int32) (k_b0 : Ty b0 = some (30, 122)) : Met l yX12_slavesOf (wsG yX12_slavesOf cX12_slavesOf 4 (some .int)) ({ frames := 2, cells := 0, slots := 0, locals := 43 }) (PcH g Ty G [.ref b0, .int a1]) (vp_Si (fun r => r = F_X12_slavesOf (G.2.1 b0) a1)) 0 0 (fun _ => False) := by
  refine Met.ofW (cc := cX12_slavesOf) (maxL := 4) (ret := (some .int)) (by decide) rfl ?_
  intro p e s m args below meth c s₁ B hml hv
  obtain ⟨rfl, hK, hH⟩ := hv
  have hx := B.exec
  have hb := B.bytes
  have hr := B.returns
  have hts := atoms_spec (ws := (wsG yX12_slavesOf cX12_slavesOf 4 (some .int))) B.pre
  have hG : ∀ w ∈ GW, w.before ([.ref b0, .int a1] : List Value).toArray s = true := fun w h => hts w (List.mem_cons_of_mem _ h)
  have hown : s.vm.findClass RX12 = some m.cls := findClass_of_methodNamed B.named
  have hlocks := B.notSynchronized
  have hl := lv_entry [.ref b0, .int a1] (n := 4) (Nat.le_of_ble_eq_true rfl)
  rw [lg_entry_eq]
  generalize (lg_sl [.ref b0, .int a1] ++ List.replicate (4 - (lg_sl [.ref b0, .int a1]).length) Slot.unset).toArray = ls at hl ⊢
  have hl : lv_has ls 4 [(0, .ref b0), (1, .int a1)] := hl
  have hv : (F_X12_slavesOf_4 (G.2.1 b0) 26 a1 (0 : Int32) (0 : Int32)) = F_X12_slavesOf (G.2.1 b0) a1 := rfl
  have L_4 : ∀ (n_4 : Nat) (y2_4 : Int32) (y3_4 : Int32) (ls : Array Slot), rgI (0) (24) y3_4 → (24 - (y3_4).toInt).toNat < n_4 → lv_has ls 4 [(0, .ref b0), (1, .int a1), (2, .int y2_4), (3, .int y3_4)] → (F_X12_slavesOf_4 (G.2.1 b0) n_4 a1 y2_4 y3_4) = F_X12_slavesOf (G.2.1 b0) a1 → Wm p l e (wsG yX12_slavesOf cX12_slavesOf 4 (some .int)) ({ frames := 2, cells := 0, slots := 0, locals := 43 }) s m [.ref b0, .int a1] below meth c s.heap [] (0) (0) (vp_Si (fun r => r = F_X12_slavesOf (G.2.1 b0) a1)) 0 0 (fun _ => False) (F0 m 4 ls []) := by
    intro n_4
    induction n_4 with
    | zero => intro y2_4 y3_4 ls ry3_4 hm; exact absurd hm (Nat.not_lt_zero _)
    | succ n_4 ih_4 =>
      intro y2_4 y3_4 ls ry3_4 hm_4 hl hv
      have L_36 : ∀ (z0_36 : Int32) (ls : Array Slot), rgI (0) (23) y3_4 → lv_has ls 4 [(0, .ref b0), (1, .int a1), (3, .int y3_4)] → (F_X12_slavesOf_4 (G.2.1 b0) n_4 a1 (y2_4 ||| z0_36) (y3_4 + (1 : Int32))) = F_X12_slavesOf (G.2.1 b0) a1 → Wm p l e (wsG yX12_slavesOf cX12_slavesOf 4 (some .int)) ({ frames := 2, cells := 0, slots := 0, locals := 43 }) s m [.ref b0, .int a1] below meth c s.heap [] (0) (0) (vp_Si (fun r => r = F_X12_slavesOf (G.2.1 b0) a1)) 0 0 (fun _ => False) (F0 m 36 ls [.int z0_36, .int y2_4]) := by
        intro z0_36 ls ry3_36 hl hv
        refine lv_ior hx hb dX12_slavesOf_36 ?_
        refine lv_topi (fun x_1 ex_1 => ?_)
        try rw [← ex_1] at hv
        refine lv_istore_n (lv' := [(2, .int x_1), (0, .ref b0), (1, .int a1), (3, .int y3_4)]) hx hb dX12_slavesOf_37 rfl hl (by decide) rfl (fun ls hl => ?_)
        obtain ⟨x_2, ex_2⟩ : ∃ y : Int32, y = y3_4 + 1 := ⟨_, rfl⟩
        try rw [← ex_2] at hv
        have rx_2 : rgI (1) (24) x_2 := by rw [ex_2]; exact rg_w (rg_add ry3_36 rl_1 (by decide) (by decide)) (by decide) (by decide)
        have qx_2 : x_2.toInt = (y3_4 : Int32).toInt + 1 := by rw [ex_2]; exact rg_addE ry3_36 rl_1 (by decide) (by decide)
        refine lv_iinc (v := x_2) (lv' := [(3, .int x_2), (2, .int x_1), (0, .ref b0), (1, .int a1)]) hx hb dX12_slavesOf_38 hl (k := 3) rfl (by rw [ex_2]; rfl) (by decide) rfl (fun ls hl => ?_)
        refine lv_goto (tgt := 4) hx hb dX12_slavesOf_41 (by decide) ?_
        exact ih_4 x_1 x_2 ls (rg_w rx_2 (by decide) (by decide)) (by have h1 := qx_2; have h2 := ry3_36.1; have h3 := ry3_36.2; have h4 := hm_4; omega) (lv_sub hl [2, 3, 1, 0] rfl) hv
      have L_35 : ∀ (ls : Array Slot), rgI (0) (23) y3_4 → lv_has ls 4 [(0, .ref b0), (1, .int a1), (3, .int y3_4)] → (F_X12_slavesOf_4 (G.2.1 b0) n_4 a1 (y2_4 ||| (0 : Int32)) (y3_4 + (1 : Int32))) = F_X12_slavesOf (G.2.1 b0) a1 → Wm p l e (wsG yX12_slavesOf cX12_slavesOf 4 (some .int)) ({ frames := 2, cells := 0, slots := 0, locals := 43 }) s m [.ref b0, .int a1] below meth c s.heap [] (0) (0) (vp_Si (fun r => r = F_X12_slavesOf (G.2.1 b0) a1)) 0 0 (fun _ => False) (F0 m 35 ls [.int y2_4]) := by
        intro ls ry3_35 hl hv
        refine lv_iconst (v := 0) hx hb dX12_slavesOf_35 (by decide) ?_
        exact L_36 0 ls ry3_35 (lv_sub hl [0, 1, 2] rfl) hv
      rw [F_X12_slavesOf_4] at hv
      refine lv_iload_n hx hb dX12_slavesOf_4 rfl (lv_at hl 3 rfl) ?_
      refine lv_bipush (v := 24) hx hb dX12_slavesOf_5 (by decide) ?_
      refine lv_icmp_ge (tgt := 44) hx hb dX12_slavesOf_7 (by decide) (fun c_3 => ?_) (fun c_3 => ?_)
      · rw [if_pos c_3] at hv
        have r_4 : rgI (24) (24) y3_4 := rg_w (rg_leR rl_24 ry3_4 c_3) (by decide) (by decide)
        refine lv_iload_n hx hb dX12_slavesOf_44 rfl (lv_at hl 2 rfl) ?_
        exact W.iret hx hb hr (fun t ht hW => ⟨y2_4, rfl, hv, ht⟩) (fun q h => by cases h) dX12_slavesOf_45
      · rw [if_neg c_3] at hv
        have r_5 : rgI (0) (23) y3_4 := rg_w (rg_ltL ry3_4 rl_24 (nle_lt c_3)) (by decide) (by decide)
        refine lv_iload_n hx hb dX12_slavesOf_10 rfl (lv_at hl 2 rfl) ?_
        refine lv_aload_n hx hb dX12_slavesOf_11 rfl (lv_at hl 0 rfl) ?_
        refine lv_iload_n hx hb dX12_slavesOf_12 rfl (lv_at hl 3 rfl) ?_
        refine vp_callSi (W.runS (As := [.ref b0, .int y3_4]) (rest := [.int y2_4]) ⟨hx, hb, hml, hown, hts⟩ (c_X12_isThere l g Ty G b0 y3_4 k_b0) (cwSx 2 hts hG (gwC mw_1520) mw_88 mw_1518 mw_1519 rfl rfl rfl hd_X12_isThere ⟨Nat.le_of_ble_eq_true rfl, Nat.le_of_ble_eq_true rfl⟩) ⟨PcH_blind, PcH_pre hK hH⟩ rfl rfl hl.1 rfl (lv_room (Nat.le_of_ble_eq_true rfl)) dX12_slavesOf_13 ⟨Nat.zero_le _, Nat.zero_le _⟩) (fun x_6 hx_6 => ?_)
        have rx_6 : rgI (0) (1) x_6 := hx_6.1
        try rw [← hx_6.2.2] at hv
        refine lv_if_eq (tgt := 35) hx hb dX12_slavesOf_16 (by decide) (fun c_7 => ?_) (fun c_7 => ?_)
        · rw [if_pos c_7] at hv
          have r_8 : rgI (0) (0) x_6 := rg_w (rg_eq rl_0 c_7) (by decide) (by decide)
          exact L_35  ls r_5 (lv_sub hl [0, 1, 3] rfl) hv
        · rw [if_neg c_7] at hv
          have r_9 : rgI (1) (1) x_6 := rg_w (rg_neL rx_6 rl_0 c_7) (by decide) (by decide)
          refine lv_aload_n hx hb dX12_slavesOf_19 rfl (lv_at hl 0 rfl) ?_
          refine lv_bipush (v := 72) hx hb dX12_slavesOf_20 (by decide) ?_
          refine lv_iload_n hx hb dX12_slavesOf_22 rfl (lv_at hl 3 rfl) ?_
          refine lv_iadd hx hb dX12_slavesOf_23 ?_
          refine lv_topi (fun x_10 ex_10 => ?_)
          try rw [← ex_10] at hv
          have rx_10 : rgI (72) (95) x_10 := by rw [ex_10]; exact rg_w (rg_add rl_72 r_5 (by decide) (by decide)) (by decide) (by decide)
          obtain ⟨_, rfl, o_c_11⟩ := hH b0 _ k_b0
          have o_c_11 : va_at g.1 vwCl (b0, .inl (g.2.1 1, 122, .inl (G.2.1 b0))) s.heap := o_c_11
          refine hg_iald hx hb hK o_c_11 (rg_in (n := 122) rx_10 (by decide) (by decide)) dX12_slavesOf_24 ?_
          refine lv_topi (fun x_12 ex_12 => ?_)
          try rw [← ex_12] at hv
          refine lv_iload_n hx hb dX12_slavesOf_25 rfl (lv_at hl 1 rfl) ?_
          refine lv_icmp_ne (tgt := 35) hx hb dX12_slavesOf_26 (by decide) (fun c_13 => ?_) (fun c_13 => ?_)
          · rw [if_neg c_13] at hv
            exact L_35  ls r_5 (lv_sub hl [0, 1, 3] rfl) hv
          · rw [if_pos c_13] at hv
            refine lv_iconst (v := 1) hx hb dX12_slavesOf_29 (by decide) ?_
            refine lv_iload_n hx hb dX12_slavesOf_30 rfl (lv_at hl 3 rfl) ?_
            refine lv_ishl hx hb dX12_slavesOf_31 ?_
            refine lv_topi (fun x_14 ex_14 => ?_)
            try rw [← ex_14] at hv
            refine lv_goto (tgt := 36) hx hb dX12_slavesOf_32 (by decide) ?_
            exact L_36 x_14 ls r_5 (lv_sub hl [0, 1, 3] rfl) hv
  refine lv_iconst (v := 0) hx hb dX12_slavesOf_0 (by decide) ?_
  refine lv_istore_n (lv' := [(2, .int 0), (0, .ref b0), (1, .int a1)]) hx hb dX12_slavesOf_1 rfl hl (by decide) rfl (fun ls hl => ?_)
  refine lv_iconst (v := 0) hx hb dX12_slavesOf_2 (by decide) ?_
  refine lv_istore_n (lv' := [(3, .int 0), (2, .int 0), (0, .ref b0), (1, .int a1)]) hx hb dX12_slavesOf_3 rfl hl (by decide) rfl (fun ls hl => ?_)
  exact L_4 26 0 0 ls (rg_w rl_0 (by decide) (by decide)) (by decide) (lv_sub hl [2, 3, 1, 0] rfl) hv
