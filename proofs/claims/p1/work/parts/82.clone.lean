theorem no_0 {ol nw : Nat → Int32} {nm g y : Int32} (h : ∀ i : Nat, (i : Int) < y.toInt → (g = 0 ∨ ¬ ol i = g)) (c : nm ≤ y) : NO ol nw nm g 0 := by
  have q := fz_le.mp c
  by_cases z : g = 0
  · exact Or.inl ⟨rfl, Or.inl z⟩
  · exact Or.inl ⟨rfl, Or.inr (fun i hi => (h i (by omega)).resolve_left z)⟩
theorem no_1 {ol nw : Nat → Int32} {nm g y r : Int32} (hg : ¬ g = 0) (ho : ol y.toNatClampNeg = g) (er : r = nw y.toNatClampNeg) (hy : rgI 0 23 y) (c : y < nm) : NO ol nw nm g r := by
  have q := fz_lt.mp c
  exact Or.inr ⟨hg, y.toNatClampNeg, by rw [cl_nat hy.1]; exact q, ho, er⟩
theorem no_s {ol : Nat → Int32} {g y x : Int32} (h : ∀ i : Nat, (i : Int) < y.toInt → (g = 0 ∨ ¬ ol i = g)) (hn : g = 0 ∨ ¬ ol y.toNatClampNeg = g) (q : x.toInt = y.toInt + 1) {a b : Int} (hy : rgI a b y) (h0 : 0 ≤ a := by decide) : ∀ i : Nat, (i : Int) < x.toInt → (g = 0 ∨ ¬ ol i = g) := fun i hi => by
  have h1 := hy.1
  by_cases e : (i : Int) < y.toInt
  · exact h i e
  · have : i = y.toNatClampNeg := by have := cl_nat (x := y) (by omega); omega
    rw [this]; exact hn

set_option maxHeartbeats 4000000 in
set_option maxRecDepth 100000 in
theorem c_X12_newOf (l : Launch) (g : Gx) (Ty : TyM) (G : Gh) (h0 : Nat) (a0 : Int32) (k_h0 : Ty h0 = some (22, 0)) (hn7 : rgI 0 24 (G.1 127)) : Met l yX12_newOf (wsG yX12_newOf cX12_newOf 3 (some .int)) ({ frames := 0, cells := 0, slots := 0, locals := 0 }) (PcH g Ty G [.ref h0, .int a0]) (vp_Si (fun r => (NO (G.2.1 (g.2.2 125)) (G.2.1 (g.2.2 126)) (G.1 127) a0 r))) 0 0 (fun _ => False) := by
  refine Met.ofW (cc := cX12_newOf) (maxL := 3) (ret := (some .int)) (by decide) rfl ?_
  intro p e s m args below meth c s₁ B hml hv
  obtain ⟨rfl, hK, hH⟩ := hv
  have hx := B.exec
  have hb := B.bytes
  have hr := B.returns
  have hts := atoms_spec (ws := (wsG yX12_newOf cX12_newOf 3 (some .int))) B.pre
  have hG : ∀ w ∈ GW, w.before ([.ref h0, .int a0] : List Value).toArray s = true := fun w h => hts w (List.mem_cons_of_mem _ h)
  have hown : s.vm.findClass RX12 = some m.cls := findClass_of_methodNamed B.named
  have hlocks := B.notSynchronized
  have hl := lv_entry [.ref h0, .int a0] (n := 3) (Nat.le_of_ble_eq_true rfl)
  rw [lg_entry_eq]
  generalize (lg_sl [.ref h0, .int a0] ++ List.replicate (3 - (lg_sl [.ref h0, .int a0]).length) Slot.unset).toArray = ls at hl ⊢
  have hl : lv_has ls 3 [(0, .ref h0), (1, .int a0)] := hl
  have hmk : mdK g Ty := mdk_of hH k_h0
  have L_2 : ∀ (n : Nat) (y2_2 : Int32) (ls : Array Slot), rgI (0) (24) y2_2 → (∀ i : Nat, (i : Int) < (y2_2 : Int32).toInt → (a0 = 0 ∨ ¬ (G.2.1 (g.2.2 125)) i = a0)) → (24 - (y2_2).toInt).toNat < n → lv_has ls 3 [(0, .ref h0), (1, .int a0), (2, .int y2_2)] → Wm p l e (wsG yX12_newOf cX12_newOf 3 (some .int)) ({ frames := 0, cells := 0, slots := 0, locals := 0 }) s m [.ref h0, .int a0] below meth c s.heap [] (0) (0) (vp_Si (fun r => (NO (G.2.1 (g.2.2 125)) (G.2.1 (g.2.2 126)) (G.1 127) a0 r))) 0 0 (fun _ => False) (F0 m 2 ls []) := by
    intro n
    induction n with
    | zero => intro y2_2 ls ry2_2 hi0_2 hm; exact absurd hm (Nat.not_lt_zero _)
    | succ n ih_2 =>
      intro y2_2 ls ry2_2 hi0_2 hm_2 hl
      refine lv_iload_n hx hb dX12_newOf_2 rfl (lv_at hl 2 rfl) ?_
      refine lv_aload_n hx hb dX12_newOf_3 rfl (lv_at hl 0 rfl) ?_
      obtain ⟨_, ⟨rfl, t_2, hk_3⟩, o_c_1⟩ := hH h0 _ k_h0
      refine hg_get hx hb hG igX12 hown hK o_c_1 rfl 27 (by decide) (hG _ mw_1311) rfl dX12_newOf_4 ?_
      refine lv_icmp_ge (tgt := 37) hx hb dX12_newOf_7 (by decide) (fun c_4 => ?_) (fun c_4 => ?_)
      · refine lv_iconst (v := 0) hx hb dX12_newOf_37 (by decide) ?_
        exact W.iret hx hb hr (fun t ht hW => ⟨0, rfl, no_0 hi0_2 c_4, ht⟩) (fun q h => by cases h) dX12_newOf_38
      · have r_5 : rgI (0) (23) y2_2 := rg_w (rg_ltL ry2_2 hn7 (nle_lt c_4)) (by decide) (by decide)
        have r_6 : rgI (1) (24) (G.1 127) := rg_w (rg_ltR ry2_2 hn7 (nle_lt c_4)) (by decide) (by decide)
        refine lv_iload_n hx hb dX12_newOf_10 rfl (lv_at hl 1 rfl) ?_
        refine lv_if_eq (tgt := 31) hx hb dX12_newOf_11 (by decide) (fun c_7 => ?_) (fun c_7 => ?_)
        · have r_8 : rgI (0) (0) a0 := rg_w (rg_eq rl_0 c_7) (by decide) (by decide)
          obtain ⟨x_9, ex_9⟩ : ∃ y : Int32, y = y2_2 + 1 := ⟨_, rfl⟩
          have rx_9 : rgI (1) (24) x_9 := by rw [ex_9]; exact rg_w (rg_add r_5 rl_1 (by decide) (by decide)) (by decide) (by decide)
          have qx_9 : x_9.toInt = (y2_2 : Int32).toInt + 1 := by rw [ex_9]; exact rg_addE r_5 rl_1 (by decide) (by decide)
          refine lv_iinc (v := x_9) (lv' := [(2, .int x_9), (0, .ref h0), (1, .int a0)]) hx hb dX12_newOf_31 hl (k := 2) rfl (by rw [ex_9]; rfl) (by decide) rfl (fun ls hl => ?_)
          refine lv_goto (tgt := 2) hx hb dX12_newOf_34 (by decide) ?_
          exact ih_2 x_9 ls (rg_w rx_9 (by decide) (by decide)) (no_s hi0_2 (Or.inl c_7) qx_9 r_5) (by have h1 := qx_9; have h2 := r_5.1; have h3 := r_5.2; have h4 := hm_2; omega) (lv_sub hl [1, 2, 0] rfl)
        · refine lv_aload_n hx hb dX12_newOf_14 rfl (lv_at hl 0 rfl) ?_
          refine hg_get hx hb hG igX12 hown hK o_c_1 rfl 25 (by decide) (hG _ mw_1309) rfl dX12_newOf_15 ?_
          refine lv_iload_n hx hb dX12_newOf_18 rfl (lv_at hl 2 rfl) ?_
          obtain ⟨_, rfl, o_c_10⟩ := hH (g.2.2 125) _ hk_3.2.2.2.2.2.2.2.2.1
          have o_c_10 : va_at g.1 vwCl ((g.2.2 125), .inl (g.2.1 1, 24, .inl (G.2.1 (g.2.2 125)))) s.heap := o_c_10
          refine hg_iald hx hb hK o_c_10 (rg_in (n := 24) r_5 (by decide) (by decide)) dX12_newOf_19 ?_
          refine lv_topi (fun x_11 ex_11 => ?_)
          refine lv_iload_n hx hb dX12_newOf_20 rfl (lv_at hl 1 rfl) ?_
          refine lv_icmp_ne (tgt := 31) hx hb dX12_newOf_21 (by decide) (fun c_12 => ?_) (fun c_12 => ?_)
          · obtain ⟨x_13, ex_13⟩ : ∃ y : Int32, y = y2_2 + 1 := ⟨_, rfl⟩
            have rx_13 : rgI (1) (24) x_13 := by rw [ex_13]; exact rg_w (rg_add r_5 rl_1 (by decide) (by decide)) (by decide) (by decide)
            have qx_13 : x_13.toInt = (y2_2 : Int32).toInt + 1 := by rw [ex_13]; exact rg_addE r_5 rl_1 (by decide) (by decide)
            refine lv_iinc (v := x_13) (lv' := [(2, .int x_13), (0, .ref h0), (1, .int a0)]) hx hb dX12_newOf_31 hl (k := 2) rfl (by rw [ex_13]; rfl) (by decide) rfl (fun ls hl => ?_)
            refine lv_goto (tgt := 2) hx hb dX12_newOf_34 (by decide) ?_
            exact ih_2 x_13 ls (rg_w rx_13 (by decide) (by decide)) (no_s hi0_2 (Or.inr (by rw [← ex_11]; exact c_12)) qx_13 r_5) (by have h1 := qx_13; have h2 := r_5.1; have h3 := r_5.2; have h4 := hm_2; omega) (lv_sub hl [1, 2, 0] rfl)
          · refine lv_aload_n hx hb dX12_newOf_24 rfl (lv_at hl 0 rfl) ?_
            refine hg_get hx hb hG igX12 hown hK o_c_1 rfl 26 (by decide) (hG _ mw_1310) rfl dX12_newOf_25 ?_
            refine lv_iload_n hx hb dX12_newOf_28 rfl (lv_at hl 2 rfl) ?_
            obtain ⟨_, rfl, o_c_14⟩ := hH (g.2.2 126) _ hk_3.2.2.2.2.2.2.2.2.2.1
            have o_c_14 : va_at g.1 vwCl ((g.2.2 126), .inl (g.2.1 1, 24, .inl (G.2.1 (g.2.2 126)))) s.heap := o_c_14
            refine hg_iald hx hb hK o_c_14 (rg_in (n := 24) r_5 (by decide) (by decide)) dX12_newOf_29 ?_
            refine lv_topi (fun x_15 ex_15 => ?_)
            exact W.iret hx hb hr (fun t ht hW => ⟨x_15, rfl, no_1 c_7 (by rw [← ex_11]; exact c_12) ex_15 r_5 (nle_lt c_4), ht⟩) (fun q h => by cases h) dX12_newOf_30
  refine lv_iconst (v := 0) hx hb dX12_newOf_0 (by decide) ?_
  refine lv_istore_n (lv' := [(2, .int 0), (0, .ref h0), (1, .int a0)]) hx hb dX12_newOf_1 rfl hl (by decide) rfl (fun ls hl => ?_)
  exact L_2 _ 0 ls (rg_w rl_0 (by decide) (by decide)) (fun i hi => absurd hi (by show ¬ (i : Int) < 0; omega)) (Nat.lt_succ_self _) (lv_sub hl [1, 2, 0] rfl)

set_option maxHeartbeats 4000000 in
set_option maxRecDepth 100000 in
theorem c_X12_layNew (l : Launch) (g : Gx) (Ty : TyM) (G : Gh) (sz : Nat) (h0 : Nat) (a0 : Int32) (a1 : Int32) (k_h0 : Ty h0 = some (22, 0)) (hLD : LD g) (hn7 : rgI 0 23 (G.1 127)) : Met l yX12_layNew (wsG yX12_layNew cX12_layNew 3 none) ({ frames := 0, cells := 0, slots := 0, locals := 0 }) (PcT g Ty G sz [.ref h0, .int a0, .int a1]) (QwV g Ty sz (fun u => u.1 = Ty ∧ FR [127] [(g.2.2 125), (g.2.2 126)] [] G u.2 ∧ u.2.2.1 (g.2.2 125) = upd (G.2.1 (g.2.2 125)) (G.1 127).toNatClampNeg a0 ∧ u.2.2.1 (g.2.2 126) = upd (G.2.1 (g.2.2 126)) (G.1 127).toNatClampNeg a1 ∧ u.2.1 127 = G.1 127 + 1)) 0 0 (AF Ty sz) := by
  refine Met.ofW (cc := cX12_layNew) (maxL := 3) (ret := none) (by decide) rfl ?_
  intro p e s m args below meth c s₁ B hml hv
  obtain ⟨rfl, hsz, hK, hH⟩ := hv
  subst hsz
  have hx := B.exec
  have hb := B.bytes
  have hr := B.returns
  have hts := atoms_spec (ws := (wsG yX12_layNew cX12_layNew 3 none)) B.pre
  have hG : ∀ w ∈ GW, w.before ([.ref h0, .int a0, .int a1] : List Value).toArray s = true := fun w h => hts w (List.mem_cons_of_mem _ h)
  have hown : s.vm.findClass RX12 = some m.cls := findClass_of_methodNamed B.named
  have hlocks := B.notSynchronized
  have hl := lv_entry [.ref h0, .int a0, .int a1] (n := 3) (Nat.le_of_ble_eq_true rfl)
  rw [lg_entry_eq]
  generalize (lg_sl [.ref h0, .int a0, .int a1] ++ List.replicate (3 - (lg_sl [.ref h0, .int a0, .int a1]).length) Slot.unset).toArray = ls at hl ⊢
  have hl : lv_has ls 3 [(0, .ref h0), (1, .int a0), (2, .int a1)] := hl
  have hmk : mdK g Ty := mdk_of hH k_h0
  have hS : va_S (AF Ty s.heap.size) s.heap s.heap [] := va_S.rf
  refine lv_aload_n hx hb dX12_layNew_0 rfl (lv_at hl 0 rfl) ?_
  obtain ⟨_, ⟨rfl, t_2, hk_3⟩, o_c_1⟩ := hH h0 _ k_h0
  refine hg_get hx hb hG igX12 hown hK o_c_1 rfl 25 (by decide) (hG _ mw_1309) rfl dX12_layNew_1 ?_
  refine lv_aload_n hx hb dX12_layNew_4 rfl (lv_at hl 0 rfl) ?_
  refine hg_get hx hb hG igX12 hown hK o_c_1 rfl 27 (by decide) (hG _ mw_1311) rfl dX12_layNew_5 ?_
  refine lv_iload_n hx hb dX12_layNew_8 rfl (lv_at hl 1 rfl) ?_
  obtain ⟨_, rfl, o_c_4⟩ := hH (g.2.2 125) _ hk_3.2.2.2.2.2.2.2.2.1
  have o_c_4 : va_at g.1 vwCl ((g.2.2 125), .inl (g.2.1 1, 24, .inl (G.2.1 (g.2.2 125)))) s.heap := o_c_4
  refine hg_iast hx hb hK hS o_c_4 (AF.of hk_3.2.2.2.2.2.2.2.2.1) (rg_in (n := 24) hn7 (by decide) (by decide)) dX12_layNew_9 (fun H locs o_c_4 hz oq hS => ?_)
  obtain ⟨G_5, eG_5⟩ : ∃ z : Gh, z = aset G (g.2.2 125) (upd (G.2.1 (g.2.2 125)) ((G.1 127) : Int32).toNatClampNeg a0) := ⟨_, rfl⟩
  have hH : HT g Ty G_5 H := by rw [eG_5]; exact HT.putA (upd (G.2.1 (g.2.2 125)) ((G.1 127) : Int32).toNatClampNeg a0) hH hk_3.2.2.2.2.2.2.2.2.1 cf30 o_c_4 oq
  obtain ⟨f_6, ef_6⟩ : ∃ z : Nat → Int32, z = (upd (G.2.1 (g.2.2 125)) ((G.1 127) : Int32).toNatClampNeg a0) := ⟨_, rfl⟩
  have eaf_6 : G_5 = aset G (g.2.2 125) f_6 := by rw [eG_5, ef_6]
  have fr_7 : FR [127] [(g.2.2 125), (g.2.2 126)] [] G G_5 := FR.a FR.rf eaf_6 (fun b h => h.1)
  have u_8 : G_5.1 127 = (G.1 127) := by rw [eaf_6]; exact rfl
  have w_9 : G_5.2.1 (g.2.2 125) = f_6 := by rw [eaf_6]; exact aset_eq
  have w_10 : G_5.2.1 (g.2.2 126) = (G.2.1 (g.2.2 126)) := by rw [eaf_6]; exact (aset_ne (hLD 126 (by decide) 125 (by decide) (by decide)))
  clear oq hz
  refine lv_aload_n hx hb dX12_layNew_10 rfl (lv_at hl 0 rfl) ?_
  obtain ⟨_, ⟨rfl, t_12, hk_13⟩, o_c_11⟩ := hH h0 _ k_h0
  refine hg_get hx hb hG igX12 hown hK o_c_11 rfl 26 (by decide) (hG _ mw_1310) rfl dX12_layNew_11 ?_
  refine lv_aload_n hx hb dX12_layNew_14 rfl (lv_at hl 0 rfl) ?_
  refine hg_get hx hb hG igX12 hown hK o_c_11 rfl 27 (by decide) (hG _ mw_1311) rfl dX12_layNew_15 ?_
  rw [u_8]
  refine lv_iload_n hx hb dX12_layNew_18 rfl (lv_at hl 2 rfl) ?_
  obtain ⟨_, rfl, o_c_14⟩ := hH (g.2.2 126) _ hk_13.2.2.2.2.2.2.2.2.2.1
  have o_c_14 : va_at g.1 vwCl ((g.2.2 126), .inl (g.2.1 1, 24, .inl (G_5.2.1 (g.2.2 126)))) H := o_c_14
  refine hg_iast hx hb hK hS o_c_14 (AF.of hk_13.2.2.2.2.2.2.2.2.2.1) (rg_in (n := 24) hn7 (by decide) (by decide)) dX12_layNew_19 (fun H locs o_c_14 hz oq hS => ?_)
  obtain ⟨G_15, eG_15⟩ : ∃ z : Gh, z = aset G_5 (g.2.2 126) (upd (G_5.2.1 (g.2.2 126)) ((G.1 127) : Int32).toNatClampNeg a1) := ⟨_, rfl⟩
  have hH : HT g Ty G_15 H := by rw [eG_15]; exact HT.putA (upd (G_5.2.1 (g.2.2 126)) ((G.1 127) : Int32).toNatClampNeg a1) hH hk_13.2.2.2.2.2.2.2.2.2.1 cf30 o_c_14 oq
  obtain ⟨f_16, ef_16⟩ : ∃ z : Nat → Int32, z = (upd (G.2.1 (g.2.2 126)) ((G.1 127) : Int32).toNatClampNeg a1) := ⟨_, rfl⟩
  have eaf_16 : G_15 = aset G_5 (g.2.2 126) f_16 := by rw [eG_15, ef_16, w_10]
  have fr_17 : FR [127] [(g.2.2 125), (g.2.2 126)] [] G G_15 := FR.a fr_7 eaf_16 (fun b h => h.2.1)
  have u_18 : G_15.1 127 = (G.1 127) := by rw [eaf_16]; exact u_8
  have w_19 : G_15.2.1 (g.2.2 125) = f_6 := by rw [eaf_16]; exact (aset_ne (hLD 125 (by decide) 126 (by decide) (by decide))).trans w_9
  have w_20 : G_15.2.1 (g.2.2 126) = f_16 := by rw [eaf_16]; exact aset_eq
  clear oq hz
  refine lv_aload_n hx hb dX12_layNew_20 rfl (lv_at hl 0 rfl) ?_
  refine lv_dup hx hb dX12_layNew_21 rfl ?_
  obtain ⟨_, ⟨rfl, t_22, hk_23⟩, o_c_21⟩ := hH h0 _ k_h0
  refine hg_get hx hb hG igX12 hown hK o_c_21 rfl 27 (by decide) (hG _ mw_1311) rfl dX12_layNew_22 ?_
  rw [u_18]
  refine lv_iconst (v := 1) hx hb dX12_layNew_25 (by decide) ?_
  refine lv_iadd hx hb dX12_layNew_26 ?_
  refine lv_topi (fun x_24 ex_24 => ?_)
  have rx_24 : rgI (1) (24) x_24 := by rw [ex_24]; exact rg_w (rg_add hn7 rl_1 (by decide) (by decide)) (by decide) (by decide)
  have qx_24 : x_24.toInt = ((G.1 127) : Int32).toInt + 1 := by rw [ex_24]; exact rg_addE hn7 rl_1 (by decide) (by decide)
  refine hg_put (ty := .int) hx hb hG igX12 tyX12 tyX12_ok nmX12 hown hK hS o_c_21 (AF.of k_h0) rfl 27 (by decide) (hG _ mw_1311) rfl (by decide +kernel) rfl rfl (Nat.le_of_ble_eq_true rfl) dX12_layNew_27 (fun H locs o_c_21 hz oq hS => ?_)
  obtain ⟨G_25, eG_25⟩ : ∃ z : Gh, z = gset G_15 127 x_24 := ⟨_, rfl⟩
  have hH : HT g Ty G_25 H := by rw [eG_25]; exact HT.putN 127 x_24 hH k_h0 ⟨rfl, t_22, hk_23⟩ o_c_21 oq (Or.inr (Or.inr (Or.inr (Or.inr (Or.inr ⟨by decide, t_22⟩)))))
  have fr_26 : FR [127] [(g.2.2 125), (g.2.2 126)] [] G G_25 := FR.n fr_17 eG_25 (by decide)
  have u_27 : G_25.1 127 = x_24 := by rw [eG_25]; exact gs_eq
  have w_28 : G_25.2.1 (g.2.2 125) = f_6 := by rw [eG_25]; exact w_19
  have w_29 : G_25.2.1 (g.2.2 126) = f_16 := by rw [eG_25]; exact w_20
  clear oq hz
  exact W.vret hx hb hr (fun t ht hWm => ⟨⟨(Ty, G_25), rfl, ⟨rfl, ⟨fr_26, ⟨by rw [w_28, ef_6], by rw [w_29, ef_16], by rw [u_27, ex_24]⟩⟩⟩, by show HT g Ty G_25 t.heap; rw [ht]; exact hH⟩, hS.F ht⟩) hS.2.2 dX12_layNew_30
