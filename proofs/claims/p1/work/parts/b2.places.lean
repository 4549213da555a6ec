theorem em24 {f : Nat → Int32} {r : Int32} (h : ¬ r = 24 → thr f r) : r = 24 ∨ thr f r := by
  by_cases c : r = 24
  · exact Or.inl c
  · exact Or.inr (h c)
theorem ps_min {f f2 : Nat → Int32} {r x y i : Int32} (hr : r = 0) (hx : 0 ≤ x.toInt) (c : ¬ x = 0) (ey : y = if (12 : Int32) < x then 12 else x) (ei : i = r + y) (e : f2 = upd f i.toNatClampNeg (vp_nar .byte 4)) : PSt f2 160 r := by
  have hx1 : x.toInt ≠ 0 := fun q => c (Int32.toInt_inj.mp q)
  have hy : 1 ≤ y.toInt ∧ y.toInt ≤ 12 := by
    rw [ey]
    split
    · exact ⟨by decide, by decide⟩
    · rename_i q
      have := fz_le.mp (nlt_le q)
      have z : (12 : Int32).toInt = 12 := rfl
      omega
  have hi : i.toInt = y.toInt := by
    rw [ei, hr, ti_add (x := 0) (by show _ ≤ (0 : Int) + _; omega) (by show (0 : Int) + _ ≤ _; omega)]
    show (0 : Int) + _ = _
    omega
  have hn := cl_nat (x := i) (by omega)
  have hr0 : r.toInt = 0 := by rw [hr]; rfl
  exact ⟨by omega, i.toNatClampNeg, by omega, by omega, by omega, by rw [e, upd_eq]; rfl⟩
theorem wr_ge {w : Int32} (h : WR w) (c : ¬ w = -1) : rgI 0 2147483647 w := ⟨h.resolve_left c, (rg_top w).2⟩

set_option maxHeartbeats 4000000 in
set_option maxRecDepth 100000 in
theorem c_X12_goPath (l : Launch) (g : Gx) (Ty : TyM) (G : Gh) (sz : Nat) (h0 : Nat) (b0 : Nat) (a1 : Int32) (k_h0 : Ty h0 = some (22, 0)) (k_b0 : Ty b0 = some (30, 122)) (ρ : Nat → Nat) (hT : P1 (G.2.1 b0) ρ) (lmx : Int) (hps : PSt (G.2.1 (g.2.2 116)) lmx a1) : Met l yX12_goPath (wsG yX12_goPath cX12_goPath 4 (some .boolean)) ({ frames := 1, cells := 0, slots := 0, locals := 23 }) (PcT g Ty G sz [.ref h0, .ref b0, .int a1]) (QwI g Ty sz (fun r u => (rgI (0) (1) r) ∧ u.1 = Ty ∧ FR [118, 119, 120] [] [] G u.2 ∧ thr (G.2.1 b0) (u.2.1 118))) 0 0 (AF Ty sz) := by
  refine Met.ofW (cc := cX12_goPath) (maxL := 4) (ret := (some .boolean)) (by decide) rfl ?_
  intro p e s m args below meth c s₁ B hml hv
  obtain ⟨rfl, hsz, hK, hH⟩ := hv
  subst hsz
  have hx := B.exec
  have hb := B.bytes
  have hr := B.returns
  have hts := atoms_spec (ws := (wsG yX12_goPath cX12_goPath 4 (some .boolean))) B.pre
  have hG : ∀ w ∈ GW, w.before ([.ref h0, .ref b0, .int a1] : List Value).toArray s = true := fun w h => hts w (List.mem_cons_of_mem _ h)
  have hown : s.vm.findClass RX12 = some m.cls := findClass_of_methodNamed B.named
  have hlocks := B.notSynchronized
  have hl := lv_entry [.ref h0, .ref b0, .int a1] (n := 4) (Nat.le_of_ble_eq_true rfl)
  rw [lg_entry_eq]
  generalize (lg_sl [.ref h0, .ref b0, .int a1] ++ List.replicate (4 - (lg_sl [.ref h0, .ref b0, .int a1]).length) Slot.unset).toArray = ls at hl ⊢
  have hl : lv_has ls 4 [(0, .ref h0), (1, .ref b0), (2, .int a1)] := hl
  have hmk : mdK g Ty := mdk_of hH k_h0
  have hS : va_S (AF Ty s.heap.size) s.heap s.heap [] := va_S.rf
  obtain ⟨hx0, ee, he1, he2, he3, he4⟩ := hps
  have L_20 : ∀ (n : Nat) (H : Heap) (locs : List Loc) (G_20 : Gh) (ls : Array Slot), FR [118, 119, 120] [] [] G G_20 → thr (G.2.1 b0) (G_20.1 118) → a1.toInt + ((G_20.1 120) : Int32).toInt ≤ (ee : Int) → 1 ≤ ((G_20.1 120) : Int32).toInt → ((ee : Int) - a1.toInt - (G_20.1 120).toInt).toNat < n → lv_has ls 4 [(0, .ref h0), (1, .ref b0), (2, .int a1)] → HT g Ty G_20 H → va_S (AF Ty s.heap.size) s.heap H locs → Wm p l e (wsG yX12_goPath cX12_goPath 4 (some .boolean)) ({ frames := 1, cells := 0, slots := 0, locals := 23 }) s m [.ref h0, .ref b0, .int a1] below meth c H locs (0) (0) (QwI g Ty s.heap.size (fun r u => (rgI (0) (1) r) ∧ u.1 = Ty ∧ FR [118, 119, 120] [] [] G u.2 ∧ thr (G.2.1 b0) (u.2.1 118))) 0 0 (AF Ty s.heap.size) (F0 m 20 ls []) := by
    intro n
    induction n with
    | zero => intro H locs G_20 ls frL_20 hi0_20 hi1_20 hi2_20 hm; exact absurd hm (Nat.not_lt_zero _)
    | succ n ih_20 =>
      intro H locs G_20 ls frL_20 hi0_20 hi1_20 hi2_20 hm_20 hl hH hS
      refine lv_aload_n hx hb dX12_goPath_20 rfl (lv_at hl 0 rfl) ?_
      obtain ⟨_, ⟨rfl, t_2, hk_3⟩, o_c_1⟩ := hH h0 _ k_h0
      refine hg_get hx hb hG igX12 hown hK o_c_1 rfl 16 (by decide) (hG _ mw_1300) rfl dX12_goPath_21 ?_
      refine lv_iload_n hx hb dX12_goPath_24 rfl (lv_at hl 2 rfl) ?_
      refine lv_aload_n hx hb dX12_goPath_25 rfl (lv_at hl 0 rfl) ?_
      refine hg_get hx hb hG igX12 hown hK o_c_1 rfl 20 (by decide) (hG _ mw_1304) rfl dX12_goPath_26 ?_
      refine lv_iadd hx hb dX12_goPath_29 ?_
      refine lv_topi (fun x_4 ex_4 => ?_)
      obtain ⟨_, rfl, o_c_5⟩ := hH (g.2.2 116) _ hk_3.2.2.2.2.1
      have o_c_5 : va_at g.1 vwCl ((g.2.2 116), .inl (g.2.1 0, 160, .inl (G_20.2.1 (g.2.2 116)))) H := o_c_5
      have in_6 : vp_in x_4 160 := (rg_in (n := 160) (gp_ix (L := (G.2.1 (g.2.2 116))) hx0 hi1_20 he3 hi2_20 ex_4).1 (by decide) (by decide))
      refine hg_bald hx hb hK o_c_5 in_6 dX12_goPath_30 ?_
      rw [(frL_20.2.1 (g.2.2 116) trivial)]
      refine lv_topi (fun x_7 ex_7 => ?_)
      refine lv_iconst (v := 4) hx hb dX12_goPath_31 (by decide) ?_
      refine lv_icmp_eq (tgt := 89) hx hb dX12_goPath_32 (by decide) (fun c_8 => ?_) (fun c_8 => ?_)
      · have r_9 : rgI (4) (4) x_7 := rg_w (rg_eq rl_4 c_8) (by decide) (by decide)
        refine lv_iconst (v := 1) hx hb dX12_goPath_89 (by decide) ?_
        exact W.zret hx hb hr rfl (fun t ht hWm => ⟨⟨1, (Ty, G_20), rfl, ⟨rg_w rl_1 (by decide) (by decide), ⟨rfl, ⟨frL_20, hi0_20⟩⟩⟩, by show HT g Ty G_20 t.heap; rw [ht]; exact hH⟩, hS.F ht⟩) hS.2.2 dX12_goPath_90
      · refine lv_aload_n hx hb dX12_goPath_35 rfl (lv_at hl 1 rfl) ?_
        refine lv_aload_n hx hb dX12_goPath_36 rfl (lv_at hl 0 rfl) ?_
        refine hg_get hx hb hG igX12 hown hK o_c_1 rfl 18 (by decide) (hG _ mw_1302) rfl dX12_goPath_37 ?_
        refine lv_aload_n hx hb dX12_goPath_40 rfl (lv_at hl 0 rfl) ?_
        refine hg_get hx hb hG igX12 hown hK o_c_1 rfl 19 (by decide) (hG _ mw_1303) rfl dX12_goPath_41 ?_
        refine vp_callSi (W.runS (As := [.ref b0, .int (G_20.1 118), .int (G_20.1 119)]) (rest := []) ⟨hx, hb, hml, hown, hts⟩ (c_X12_atOf l g Ty G_20 b0 (G_20.1 118) (G_20.1 119) k_b0) (cwSx 3 hts hG (gwC mw_1509) mw_88 mw_1507 mw_1508 rfl rfl rfl hd_X12_atOf ⟨Nat.le_of_ble_eq_true rfl, Nat.le_of_ble_eq_true rfl⟩) ⟨PcH_blind, PcH_pre hK hH⟩ rfl rfl hl.1 rfl (lv_room (Nat.le_of_ble_eq_true rfl)) dX12_goPath_44 ⟨Nat.zero_le _, Nat.zero_le _⟩) (fun x_10 hx_10 => ?_)
        have rx_10 : rgI (1) (24) x_10 := hx_10.1
        have ex_11 : x_10 = F_X12_atOf (G.2.1 b0) (G_20.1 118) (G_20.1 119) := by rw [← (frL_20.2.1 b0 trivial)]; exact hx_10.2
        refine lv_istore_n (lv' := [(3, .int x_10), (0, .ref h0), (1, .ref b0), (2, .int a1)]) hx hb dX12_goPath_47 rfl hl (by decide) rfl (fun ls hl => ?_)
        refine lv_iload_n hx hb dX12_goPath_48 rfl (lv_at hl 0 rfl) ?_
        refine lv_bipush (v := 24) hx hb dX12_goPath_49 (by decide) ?_
        refine lv_icmp_ne (tgt := 56) hx hb dX12_goPath_51 (by decide) (fun c_12 => ?_) (fun c_12 => ?_)
        · have r_13 : rgI (1) (23) x_10 := rg_w (rg_neR rx_10 rl_24 c_12) (by decide) (by decide)
          refine lv_aload_n hx hb dX12_goPath_56 rfl (lv_at hl 1 rfl) ?_
          refine lv_iload_n hx hb dX12_goPath_57 rfl (lv_at hl 0 rfl) ?_
          refine hg_put (ty := .int) hx hb hG igX12 tyX12 tyX12_ok nmX12 hown hK hS o_c_1 (AF.of k_h0) rfl 18 (by decide) (hG _ mw_1302) rfl (by decide +kernel) rfl rfl (Nat.le_of_ble_eq_true rfl) dX12_goPath_58 (fun H locs o_c_1 hz oq hS => ?_)
          obtain ⟨G_14, eG_14⟩ : ∃ z : Gh, z = gset G_20 118 x_10 := ⟨_, rfl⟩
          have hH : HT g Ty G_14 H := by rw [eG_14]; exact HT.putN 118 x_10 hH k_h0 ⟨rfl, t_2, hk_3⟩ o_c_1 oq (Or.inr (Or.inr (Or.inr (Or.inr (Or.inr ⟨by decide, t_2⟩)))))
          have fr_15 : FR [118, 119, 120] [] [] G G_14 := FR.n frL_20 eG_14 (by decide)
          have u_16 : G_14.1 119 = (G_20.1 119) := by rw [eG_14]; exact (gs_ne (by decide))
          have u_17 : G_14.1 120 = (G_20.1 120) := by rw [eG_14]; exact (gs_ne (by decide))
          have u_18 : G_14.1 118 = x_10 := by rw [eG_14]; exact gs_eq
          have w_19 : G_14.2.1 b0 = (G.2.1 b0) := by rw [eG_14]; exact (frL_20.2.1 b0 trivial)
          have w_20 : G_14.2.1 (g.2.2 116) = (G.2.1 (g.2.2 116)) := by rw [eG_14]; exact (frL_20.2.1 (g.2.2 116) trivial)
          clear oq hz
          refine lv_aload_n hx hb dX12_goPath_61 rfl (lv_at hl 1 rfl) ?_
          refine lv_aload_n hx hb dX12_goPath_62 rfl (lv_at hl 1 rfl) ?_
          obtain ⟨_, ⟨rfl, t_22, hk_23⟩, o_c_21⟩ := hH h0 _ k_h0
          refine hg_get hx hb hG igX12 hown hK o_c_21 rfl 16 (by decide) (hG _ mw_1300) rfl dX12_goPath_63 ?_
          refine lv_iload_n hx hb dX12_goPath_66 rfl (lv_at hl 3 rfl) ?_
          refine lv_aload_n hx hb dX12_goPath_67 rfl (lv_at hl 1 rfl) ?_
          refine hg_get hx hb hG igX12 hown hK o_c_21 rfl 20 (by decide) (hG _ mw_1304) rfl dX12_goPath_68 ?_
          rw [u_17]
          refine lv_iadd hx hb dX12_goPath_71 ?_
          refine lv_topi (fun x_24 ex_24 => ?_)
          obtain ⟨_, rfl, o_c_25⟩ := hH (g.2.2 116) _ hk_23.2.2.2.2.1
          have o_c_25 : va_at g.1 vwCl ((g.2.2 116), .inl (g.2.1 0, 160, .inl (G_14.2.1 (g.2.2 116)))) H := o_c_25
          have in_26 : vp_in x_24 160 := (rg_in (n := 160) (gp_ix (L := (G.2.1 (g.2.2 116))) hx0 hi1_20 he3 hi2_20 ex_24).1 (by decide) (by decide))
          refine hg_bald hx hb hK o_c_25 in_26 dX12_goPath_72 ?_
          rw [w_20]
          refine lv_topi (fun x_27 ex_27 => ?_)
          refine hg_put (ty := .int) hx hb hG igX12 tyX12 tyX12_ok nmX12 hown hK hS o_c_21 (AF.of k_h0) rfl 19 (by decide) (hG _ mw_1303) rfl (by decide +kernel) rfl rfl (Nat.le_of_ble_eq_true rfl) dX12_goPath_73 (fun H locs o_c_21 hz oq hS => ?_)
          obtain ⟨G_28, eG_28⟩ : ∃ z : Gh, z = gset G_14 119 x_27 := ⟨_, rfl⟩
          have hH : HT g Ty G_28 H := by rw [eG_28]; exact HT.putN 119 x_27 hH k_h0 ⟨rfl, t_22, hk_23⟩ o_c_21 oq (Or.inr (Or.inr (Or.inr (Or.inr (Or.inr ⟨by decide, t_22⟩)))))
          have fr_29 : FR [118, 119, 120] [] [] G G_28 := FR.n fr_15 eG_28 (by decide)
          have u_30 : G_28.1 120 = (G_20.1 120) := by rw [eG_28]; exact (gs_ne (by decide)).trans u_17
          have u_31 : G_28.1 118 = x_10 := by rw [eG_28]; exact (gs_ne (by decide)).trans u_18
          have u_32 : G_28.1 119 = x_27 := by rw [eG_28]; exact gs_eq
          have w_33 : G_28.2.1 b0 = (G.2.1 b0) := by rw [eG_28]; exact w_19
          have w_34 : G_28.2.1 (g.2.2 116) = (G.2.1 (g.2.2 116)) := by rw [eG_28]; exact w_20
          clear oq hz
          refine lv_aload_n hx hb dX12_goPath_76 rfl (lv_at hl 1 rfl) ?_
          refine lv_dup hx hb dX12_goPath_77 rfl ?_
          obtain ⟨_, ⟨rfl, t_36, hk_37⟩, o_c_35⟩ := hH h0 _ k_h0
          refine hg_get hx hb hG igX12 hown hK o_c_35 rfl 20 (by decide) (hG _ mw_1304) rfl dX12_goPath_78 ?_
          rw [u_30]
          refine lv_iconst (v := 1) hx hb dX12_goPath_81 (by decide) ?_
          refine lv_iadd hx hb dX12_goPath_82 ?_
          refine lv_topi (fun x_38 ex_38 => ?_)
          refine hg_put (ty := .int) hx hb hG igX12 tyX12 tyX12_ok nmX12 hown hK hS o_c_35 (AF.of k_h0) rfl 20 (by decide) (hG _ mw_1304) rfl (by decide +kernel) rfl rfl (Nat.le_of_ble_eq_true rfl) dX12_goPath_83 (fun H locs o_c_35 hz oq hS => ?_)
          obtain ⟨G_39, eG_39⟩ : ∃ z : Gh, z = gset G_28 120 x_38 := ⟨_, rfl⟩
          have hH : HT g Ty G_39 H := by rw [eG_39]; exact HT.putN 120 x_38 hH k_h0 ⟨rfl, t_36, hk_37⟩ o_c_35 oq (Or.inr (Or.inr (Or.inr (Or.inr (Or.inr ⟨by decide, t_36⟩)))))
          have fr_40 : FR [118, 119, 120] [] [] G G_39 := FR.n fr_29 eG_39 (by decide)
          have u_41 : G_39.1 118 = x_10 := by rw [eG_39]; exact (gs_ne (by decide)).trans u_31
          have u_42 : G_39.1 119 = x_27 := by rw [eG_39]; exact (gs_ne (by decide)).trans u_32
          have u_43 : G_39.1 120 = x_38 := by rw [eG_39]; exact gs_eq
          have w_44 : G_39.2.1 b0 = (G.2.1 b0) := by rw [eG_39]; exact w_33
          have w_45 : G_39.2.1 (g.2.2 116) = (G.2.1 (g.2.2 116)) := by rw [eG_39]; exact w_34
          clear oq hz
          refine lv_goto (tgt := 20) hx hb dX12_goPath_86 (by decide) ?_
          exact ih_20 H locs G_39 ls fr_40 (by rw [u_41]; exact (at_thr hi0_20 ex_11 c_12)) (by rw [u_43]; exact (gp_s hx0 hi1_20 he3 he4 hi2_20 ex_4 ex_7 c_8 ex_38).1) (by rw [u_43]; exact (gp_s hx0 hi1_20 he3 he4 hi2_20 ex_4 ex_7 c_8 ex_38).2.1) (by have q := (gp_s hx0 hi1_20 he3 he4 hi2_20 ex_4 ex_7 c_8 ex_38); have q3 := hm_20; show ((ee : Int) - a1.toInt - (G_39.1 120).toInt).toNat < _; rw [u_43]; omega) (lv_sub hl [1, 2, 3] rfl) hH hS
        · have r_46 : rgI (24) (24) x_10 := rg_w (rg_eq rl_24 c_12) (by decide) (by decide)
          refine lv_iconst (v := 0) hx hb dX12_goPath_54 (by decide) ?_
          exact W.zret hx hb hr rfl (fun t ht hWm => ⟨⟨0, (Ty, G_20), rfl, ⟨rg_w rl_0 (by decide) (by decide), ⟨rfl, ⟨frL_20, hi0_20⟩⟩⟩, by show HT g Ty G_20 t.heap; rw [ht]; exact hH⟩, hS.F ht⟩) hS.2.2 dX12_goPath_55
  refine lv_aload_n hx hb dX12_goPath_0 rfl (lv_at hl 0 rfl) ?_
  refine lv_iconst (v := 0) hx hb dX12_goPath_1 (by decide) ?_
  obtain ⟨_, ⟨rfl, t_48, hk_49⟩, o_c_47⟩ := hH h0 _ k_h0
  refine hg_put (ty := .int) hx hb hG igX12 tyX12 tyX12_ok nmX12 hown hK hS o_c_47 (AF.of k_h0) rfl 18 (by decide) (hG _ mw_1302) rfl (by decide +kernel) rfl rfl (Nat.le_of_ble_eq_true rfl) dX12_goPath_2 (fun H locs o_c_47 hz oq hS => ?_)
  obtain ⟨G_50, eG_50⟩ : ∃ z : Gh, z = gset G 118 0 := ⟨_, rfl⟩
  have hH : HT g Ty G_50 H := by rw [eG_50]; exact HT.putN 118 0 hH k_h0 ⟨rfl, t_48, hk_49⟩ o_c_47 oq (Or.inr (Or.inr (Or.inr (Or.inr (Or.inr ⟨by decide, t_48⟩)))))
  have fr_51 : FR [118, 119, 120] [] [] G G_50 := FR.n FR.rf eG_50 (by decide)
  have u_52 : G_50.1 118 = 0 := by rw [eG_50]; exact gs_eq
  have w_53 : G_50.2.1 b0 = (G.2.1 b0) := by rw [eG_50]; exact rfl
  have w_54 : G_50.2.1 (g.2.2 116) = (G.2.1 (g.2.2 116)) := by rw [eG_50]; exact rfl
  clear oq hz
  refine lv_aload_n hx hb dX12_goPath_5 rfl (lv_at hl 0 rfl) ?_
  refine lv_aload_n hx hb dX12_goPath_6 rfl (lv_at hl 0 rfl) ?_
  obtain ⟨_, ⟨rfl, t_56, hk_57⟩, o_c_55⟩ := hH h0 _ k_h0
  refine hg_get hx hb hG igX12 hown hK o_c_55 rfl 16 (by decide) (hG _ mw_1300) rfl dX12_goPath_7 ?_
  refine lv_iload_n hx hb dX12_goPath_10 rfl (lv_at hl 2 rfl) ?_
  obtain ⟨_, rfl, o_c_58⟩ := hH (g.2.2 116) _ hk_57.2.2.2.2.1
  have o_c_58 : va_at g.1 vwCl ((g.2.2 116), .inl (g.2.1 0, 160, .inl (G_50.2.1 (g.2.2 116)))) H := o_c_58
  have in_59 : vp_in a1 160 := (vp_in_iff.mpr ⟨hx0, by have q := he1; omega⟩)
  refine hg_bald hx hb hK o_c_58 in_59 dX12_goPath_11 ?_
  rw [w_54]
  refine lv_topi (fun x_60 ex_60 => ?_)
  refine hg_put (ty := .int) hx hb hG igX12 tyX12 tyX12_ok nmX12 hown hK hS o_c_55 (AF.of k_h0) rfl 19 (by decide) (hG _ mw_1303) rfl (by decide +kernel) rfl rfl (Nat.le_of_ble_eq_true rfl) dX12_goPath_12 (fun H locs o_c_55 hz oq hS => ?_)
  obtain ⟨G_61, eG_61⟩ : ∃ z : Gh, z = gset G_50 119 x_60 := ⟨_, rfl⟩
  have hH : HT g Ty G_61 H := by rw [eG_61]; exact HT.putN 119 x_60 hH k_h0 ⟨rfl, t_56, hk_57⟩ o_c_55 oq (Or.inr (Or.inr (Or.inr (Or.inr (Or.inr ⟨by decide, t_56⟩)))))
  have fr_62 : FR [118, 119, 120] [] [] G G_61 := FR.n fr_51 eG_61 (by decide)
  have u_63 : G_61.1 118 = 0 := by rw [eG_61]; exact (gs_ne (by decide)).trans u_52
  have u_64 : G_61.1 119 = x_60 := by rw [eG_61]; exact gs_eq
  have w_65 : G_61.2.1 b0 = (G.2.1 b0) := by rw [eG_61]; exact w_53
  have w_66 : G_61.2.1 (g.2.2 116) = (G.2.1 (g.2.2 116)) := by rw [eG_61]; exact w_54
  clear oq hz
  refine lv_aload_n hx hb dX12_goPath_15 rfl (lv_at hl 0 rfl) ?_
  refine lv_iconst (v := 1) hx hb dX12_goPath_16 (by decide) ?_
  obtain ⟨_, ⟨rfl, t_68, hk_69⟩, o_c_67⟩ := hH h0 _ k_h0
  refine hg_put (ty := .int) hx hb hG igX12 tyX12 tyX12_ok nmX12 hown hK hS o_c_67 (AF.of k_h0) rfl 20 (by decide) (hG _ mw_1304) rfl (by decide +kernel) rfl rfl (Nat.le_of_ble_eq_true rfl) dX12_goPath_17 (fun H locs o_c_67 hz oq hS => ?_)
  obtain ⟨G_70, eG_70⟩ : ∃ z : Gh, z = gset G_61 120 1 := ⟨_, rfl⟩
  have hH : HT g Ty G_70 H := by rw [eG_70]; exact HT.putN 120 1 hH k_h0 ⟨rfl, t_68, hk_69⟩ o_c_67 oq (Or.inr (Or.inr (Or.inr (Or.inr (Or.inr ⟨by decide, t_68⟩)))))
  have fr_71 : FR [118, 119, 120] [] [] G G_70 := FR.n fr_62 eG_70 (by decide)
  have u_72 : G_70.1 118 = 0 := by rw [eG_70]; exact (gs_ne (by decide)).trans u_63
  have u_73 : G_70.1 119 = x_60 := by rw [eG_70]; exact (gs_ne (by decide)).trans u_64
  have u_74 : G_70.1 120 = 1 := by rw [eG_70]; exact gs_eq
  have w_75 : G_70.2.1 b0 = (G.2.1 b0) := by rw [eG_70]; exact w_65
  have w_76 : G_70.2.1 (g.2.2 116) = (G.2.1 (g.2.2 116)) := by rw [eG_70]; exact w_66
  clear oq hz
  exact L_20 _ H locs G_70 ls fr_71 (by rw [u_72]; exact (thr_0 hT)) (by rw [u_74]; exact (by show _ + (1 : Int) ≤ _; omega)) (by rw [u_74]; exact (by decide)) (Nat.lt_succ_self _) (lv_sub hl [0, 1, 2] rfl) hH hS

set_option maxHeartbeats 4000000 in
set_option maxRecDepth 100000 in
theorem c_X12_mountedAt (l : Launch) (g : Gx) (Ty : TyM) (G : Gh) (sz : Nat) (h0 : Nat) (a0 : Int32) (k_h0 : Ty h0 = some (22, 0)) (ρ : Nat → Nat) (hT : P1 (G.2.1 (g.2.2 100)) ρ) (lmx : Int) (hps : PSt (G.2.1 (g.2.2 116)) lmx a0) : Met l yX12_mountedAt (wsG yX12_mountedAt cX12_mountedAt 2 (some .int)) ({ frames := 2, cells := 0, slots := 0, locals := 46 }) (PcT g Ty G sz [.ref h0, .int a0]) (QwI g Ty sz (fun r u => (rgI (1) (24) r ∧ (r = 24 ∨ thr (G.2.1 (g.2.2 100)) r)) ∧ u.1 = Ty ∧ FR [118, 119, 120] [] [] G u.2 ∧ True)) 0 0 (AF Ty sz) := by
  refine Met.ofW (cc := cX12_mountedAt) (maxL := 2) (ret := (some .int)) (by decide) rfl ?_
  intro p e s m args below meth c s₁ B hml hv
  obtain ⟨rfl, hsz, hK, hH⟩ := hv
  subst hsz
  have hx := B.exec
  have hb := B.bytes
  have hr := B.returns
  have hts := atoms_spec (ws := (wsG yX12_mountedAt cX12_mountedAt 2 (some .int))) B.pre
  have hG : ∀ w ∈ GW, w.before ([.ref h0, .int a0] : List Value).toArray s = true := fun w h => hts w (List.mem_cons_of_mem _ h)
  have hown : s.vm.findClass RX12 = some m.cls := findClass_of_methodNamed B.named
  have hlocks := B.notSynchronized
  have hl := lv_entry [.ref h0, .int a0] (n := 2) (Nat.le_of_ble_eq_true rfl)
  rw [lg_entry_eq]
  generalize (lg_sl [.ref h0, .int a0] ++ List.replicate (2 - (lg_sl [.ref h0, .int a0]).length) Slot.unset).toArray = ls at hl ⊢
  have hl : lv_has ls 2 [(0, .ref h0), (1, .int a0)] := hl
  have hmk : mdK g Ty := mdk_of hH k_h0
  have hS : va_S (AF Ty s.heap.size) s.heap s.heap [] := va_S.rf
  refine lv_aload_n hx hb dX12_mountedAt_0 rfl (lv_at hl 0 rfl) ?_
  refine lv_aload_n hx hb dX12_mountedAt_1 rfl (lv_at hl 0 rfl) ?_
  obtain ⟨_, ⟨rfl, t_2, hk_3⟩, o_c_1⟩ := hH h0 _ k_h0
  refine hg_get hx hb hG igX12 hown hK o_c_1 rfl 0 (by decide) (hG _ mw_1284) rfl dX12_mountedAt_2 ?_
  refine lv_iload_n hx hb dX12_mountedAt_5 rfl (lv_at hl 1 rfl) ?_
  refine va_calli (va_runV (As := [.ref (g.2.2 100), .int a0]) (rest := []) ⟨hx, hb, hml, hown, hts⟩ (c_X12_goPath l g Ty G s.heap.size h0 (g.2.2 100) a0 k_h0 (hk_3.1) ρ hT lmx hps) (cwV 2 hts (gwV mw_1503 mw_1505 mw_47 mw_88 mw_1506) rfl rfl rfl hv_X12_goPath ⟨Nat.le_of_ble_eq_true rfl, Nat.le_of_ble_eq_true rfl⟩) ⟨PcT_blind, hg_recv hK o_c_1 rfl, PcT_pre hK hH⟩ rfl rfl hl.1 rfl (lv_room (Nat.le_of_ble_eq_true rfl)) dX12_mountedAt_6 ⟨Nat.zero_le _, Nat.zero_le _⟩) hS (fun q _ h => AF.mono hS.1 h) (fun q h => AF.mono hS.1 h) (fun x_4 ux_4 t H locs ht hvm hx_4 hB hz hk hS => ?_)
  obtain ⟨hx_4, fx_4⟩ := hx_4
  obtain ⟨eTx_4, eGx_4⟩ := fx_4
  obtain ⟨G_5, eG_5⟩ : ∃ z, z = ux_4.2 := ⟨_, rfl⟩
  rw [← eG_5] at eGx_4
  obtain ⟨hfr_6, hex_7⟩ := eGx_4
  have fr_8 : FR [118, 119, 120] [] [] G G_5 := FR.tr FR.rf hfr_6 (by decide) (fun _ _ => trivial) (by decide)
  have w_9 : G_5.2.1 (g.2.2 100) = (G.2.1 (g.2.2 100)) := (hfr_6.2.1 (g.2.2 100) trivial)
  have w_10 : G_5.2.1 (g.2.2 116) = (G.2.1 (g.2.2 116)) := (hfr_6.2.1 (g.2.2 116) trivial)
  obtain ⟨x_11, ex_11⟩ : ∃ z : Int32, G_5.1 118 = z := ⟨_, rfl⟩
  obtain ⟨x_12, ex_12⟩ : ∃ z : Int32, G_5.1 119 = z := ⟨_, rfl⟩
  obtain ⟨x_13, ex_13⟩ : ∃ z : Int32, G_5.1 120 = z := ⟨_, rfl⟩
  have tp_14 := hex_7
  rw [ex_11] at tp_14
  have hH : HT g Ty G_5 H := by rw [← ht, ← eTx_4, eG_5]; exact hB
  have rx_4 : rgI (0) (1) x_4 := hx_4
  refine lv_if_eq (tgt := 30) hx hb dX12_mountedAt_9 (by decide) (fun c_15 => ?_) (fun c_15 => ?_)
  · have r_16 : rgI (0) (0) x_4 := rg_w (rg_eq rl_0 c_15) (by decide) (by decide)
    refine lv_bipush (v := 24) hx hb dX12_mountedAt_30 (by decide) ?_
    exact W.iret hx hb hr (fun t ht hWm => ⟨⟨24, (Ty, G_5), rfl, ⟨⟨rg_w rl_24 (by decide) (by decide), Or.inl rfl⟩, ⟨rfl, ⟨fr_8, trivial⟩⟩⟩, by show HT g Ty G_5 t.heap; rw [ht]; exact hH⟩, hS.F ht⟩) hS.2.2 dX12_mountedAt_32
  · have r_17 : rgI (1) (1) x_4 := rg_w (rg_neL rx_4 rl_0 c_15) (by decide) (by decide)
    refine lv_aload_n hx hb dX12_mountedAt_12 rfl (lv_at hl 0 rfl) ?_
    obtain ⟨_, ⟨rfl, t_19, hk_20⟩, o_c_18⟩ := hH h0 _ k_h0
    refine hg_get hx hb hG igX12 hown hK o_c_18 rfl 0 (by decide) (hG _ mw_1284) rfl dX12_mountedAt_13 ?_
    refine lv_aload_n hx hb dX12_mountedAt_16 rfl (lv_at hl 0 rfl) ?_
    refine hg_get hx hb hG igX12 hown hK o_c_18 rfl 18 (by decide) (hG _ mw_1302) rfl dX12_mountedAt_17 ?_
    rw [ex_11]
    refine lv_aload_n hx hb dX12_mountedAt_20 rfl (lv_at hl 0 rfl) ?_
    refine hg_get hx hb hG igX12 hown hK o_c_18 rfl 19 (by decide) (hG _ mw_1303) rfl dX12_mountedAt_21 ?_
    rw [ex_12]
    refine vp_callSi (W.runS (As := [.ref (g.2.2 100), .int x_11, .int x_12]) (rest := []) ⟨hx, hb, hml, hown, hts⟩ (c_X12_atOf l g Ty G_5 (g.2.2 100) x_11 x_12 (hk_20.1)) (cwSx 3 hts hG (gwC mw_1509) mw_88 mw_1507 mw_1508 rfl rfl rfl hd_X12_atOf ⟨Nat.le_of_ble_eq_true rfl, Nat.le_of_ble_eq_true rfl⟩) ⟨PcH_blind, PcH_pre hK hH⟩ rfl rfl hl.1 rfl (lv_room (Nat.le_of_ble_eq_true rfl)) dX12_mountedAt_24 ⟨Nat.zero_le _, Nat.zero_le _⟩) (fun x_21 hx_21 => ?_)
    have rx_21 : rgI (1) (24) x_21 := hx_21.1
    have ex_22 : x_21 = F_X12_atOf (G.2.1 (g.2.2 100)) x_11 x_12 := by rw [← w_9]; exact hx_21.2
    refine lv_goto (tgt := 32) hx hb dX12_mountedAt_27 (by decide) ?_
    exact W.iret hx hb hr (fun t ht hWm => ⟨⟨x_21, (Ty, G_5), rfl, ⟨⟨rg_w rx_21 (by decide) (by decide), (em24 (fun c => at_thr tp_14 ex_22 c))⟩, ⟨rfl, ⟨fr_8, trivial⟩⟩⟩, by show HT g Ty G_5 t.heap; rw [ht]; exact hH⟩, hS.F ht⟩) hS.2.2 dX12_mountedAt_32

set_option maxHeartbeats 4000000 in
set_option maxRecDepth 100000 in
theorem c_X12_place (l : Launch) (g : Gx) (Ty : TyM) (G : Gh) (sz : Nat) (h0 : Nat) (k_h0 : Ty h0 = some (22, 0)) (Bd : Int) (hI : OI g Bd G) (hBd : Bd ≤ 1900000) (hLD : LD g) : Met l yX12_place (wsG yX12_place cX12_place 3 (some .int)) ({ frames := 4, cells := 0, slots := 0, locals := 85 }) (PcT g Ty G sz [.ref h0]) (QwI g Ty sz (fun r u => u.1 = Ty ∧ FR [102, 104, 105, 107, 108, 109, 110, 117, 118, 119, 120] [(g.2.2 116)] [106] G u.2 ∧ OI g (Bd + 1000) u.2 ∧ rgI 0 0 (u.2.1 102))) 0 0 (AF Ty sz) := by
  refine Met.ofW (cc := cX12_place) (maxL := 3) (ret := (some .int)) (by decide) rfl ?_
  intro p e s m args below meth c s₁ B hml hv
  obtain ⟨rfl, hsz, hK, hH⟩ := hv
  subst hsz
  have hx := B.exec
  have hb := B.bytes
  have hr := B.returns
  have hts := atoms_spec (ws := (wsG yX12_place cX12_place 3 (some .int))) B.pre
  have hG : ∀ w ∈ GW, w.before ([.ref h0] : List Value).toArray s = true := fun w h => hts w (List.mem_cons_of_mem _ h)
  have hown : s.vm.findClass RX12 = some m.cls := findClass_of_methodNamed B.named
  have hlocks := B.notSynchronized
  have hl := lv_entry [.ref h0] (n := 3) (Nat.le_of_ble_eq_true rfl)
  rw [lg_entry_eq]
  generalize (lg_sl [.ref h0] ++ List.replicate (3 - (lg_sl [.ref h0]).length) Slot.unset).toArray = ls at hl ⊢
  have hl : lv_has ls 3 [(0, .ref h0)] := hl
  have hmk : mdK g Ty := mdk_of hH k_h0
  have hS : va_S (AF Ty s.heap.size) s.heap s.heap [] := va_S.rf
  obtain ⟨⟨σ0, hTS0⟩, h10, hBB0⟩ := id hI.ti
  obtain ⟨ρ, hT⟩ := hTS0.1
  refine lv_aload_n hx hb dX12_place_0 rfl (lv_at hl 0 rfl) ?_
  refine lv_iconst (v := 0) hx hb dX12_place_1 (by decide) ?_
  obtain ⟨_, ⟨rfl, t_2, hk_3⟩, o_c_1⟩ := hH h0 _ k_h0
  refine hg_put (ty := .int) hx hb hG igX12 tyX12 tyX12_ok nmX12 hown hK hS o_c_1 (AF.of k_h0) rfl 5 (by decide) (hG _ mw_1289) rfl (by decide +kernel) rfl rfl (Nat.le_of_ble_eq_true rfl) dX12_place_2 (fun H locs o_c_1 hz oq hS => ?_)
  obtain ⟨G_4, eG_4⟩ : ∃ z : Gh, z = gset G 105 0 := ⟨_, rfl⟩
  have hH : HT g Ty G_4 H := by rw [eG_4]; exact HT.putN 105 0 hH k_h0 ⟨rfl, t_2, hk_3⟩ o_c_1 oq (Or.inr (Or.inr (Or.inr (Or.inr (Or.inr ⟨by decide, t_2⟩)))))
  have fr_5 : FR [102, 104, 105, 107, 108, 109, 110, 117, 118, 119, 120] [(g.2.2 116)] [106] G G_4 := FR.n FR.rf eG_4 (by decide)
  have u_6 : G_4.1 102 = (G.1 102) := by rw [eG_4]; exact (gs_ne (by decide))
  have u_7 : G_4.1 104 = (G.1 104) := by rw [eG_4]; exact (gs_ne (by decide))
  have u_8 : G_4.1 113 = (G.1 113) := by rw [eG_4]; exact (gs_ne (by decide))
  have u_9 : G_4.1 122 = (G.1 122) := by rw [eG_4]; exact (gs_ne (by decide))
  have u_10 : G_4.1 133 = (G.1 133) := by rw [eG_4]; exact (gs_ne (by decide))
  have u_11 : G_4.1 137 = (G.1 137) := by rw [eG_4]; exact (gs_ne (by decide))
  have u_12 : G_4.1 105 = 0 := by rw [eG_4]; exact gs_eq
  have w_13 : G_4.2.1 (g.2.2 100) = (G.2.1 (g.2.2 100)) := by rw [eG_4]; exact rfl
  have w_14 : G_4.2.1 (g.2.2 121) = (G.2.1 (g.2.2 121)) := by rw [eG_4]; exact rfl
  have w_15 : G_4.2.1 (g.2.2 140) = (G.2.1 (g.2.2 140)) := by rw [eG_4]; exact rfl
  have w_16 : G_4.2.1 (g.2.2 141) = (G.2.1 (g.2.2 141)) := by rw [eG_4]; exact rfl
  have w_17 : G_4.2.1 (g.2.2 111) = (G.2.1 (g.2.2 111)) := by rw [eG_4]; exact rfl
  have w_18 : G_4.2.1 (g.2.2 116) = (G.2.1 (g.2.2 116)) := by rw [eG_4]; exact rfl
  have u_19 : G_4.2.2 111 = some (g.2.2 111) := by rw [eG_4]; exact hI.r111
  have u_20 : G_4.2.2 112 = some (g.2.2 112) := by rw [eG_4]; exact hI.r112
  clear oq hz
  refine lv_aload_n hx hb dX12_place_5 rfl (lv_at hl 0 rfl) ?_
  refine lv_bipush (v := 80) hx hb dX12_place_6 (by decide) ?_
  obtain ⟨_, ⟨rfl, t_22, hk_23⟩, o_c_21⟩ := hH h0 _ k_h0
  refine va_callv (va_runV (As := [.int 80]) (rest := []) ⟨hx, hb, hml, hown, hts⟩ (c_X12_beginText l g Ty G_4 H.size h0 80 k_h0 (by rw [u_6]; exact (rg_w hI.a102 (by decide) (by decide)))) (cwV 1 hts (gwV mw_1435 mw_1437 mw_32 mw_88 mw_1438) rfl rfl rfl hv_X12_beginText ⟨Nat.le_of_ble_eq_true rfl, Nat.le_of_ble_eq_true rfl⟩) ⟨PcT_blind, hg_recv hK o_c_21 rfl, PcT_pre hK hH⟩ rfl rfl hl.1 rfl (lv_room (Nat.le_of_ble_eq_true rfl)) dX12_place_8 ⟨Nat.zero_le _, Nat.zero_le _⟩) hS (fun q _ h => AF.mono hS.1 h) (fun q h => AF.mono hS.1 h) (fun ux_24 t H locs ht hvm hx_24 hB hz hk hS => ?_)
  obtain ⟨eTx_24, eGx_24⟩ := hx_24
  obtain ⟨G_25, eG_25⟩ : ∃ z, z = ux_24.2 := ⟨_, rfl⟩
  rw [← eG_25] at eGx_24
  obtain ⟨hfr_26, hex_27⟩ := eGx_24
  have fr_28 : FR [102, 104, 105, 107, 108, 109, 110, 117, 118, 119, 120] [(g.2.2 116)] [106] G G_25 := FR.tr fr_5 hfr_26 (by decide) (fun _ _ => trivial) (by decide)
  have u_29 : G_25.1 104 = (G.1 104) := (hfr_26.1 104 (by decide)).trans u_7
  have u_30 : G_25.1 113 = (G.1 113) := (hfr_26.1 113 (by decide)).trans u_8
  have u_31 : G_25.1 122 = (G.1 122) := (hfr_26.1 122 (by decide)).trans u_9
  have u_32 : G_25.1 133 = (G.1 133) := (hfr_26.1 133 (by decide)).trans u_10
  have u_33 : G_25.1 137 = (G.1 137) := (hfr_26.1 137 (by decide)).trans u_11
  have u_34 : G_25.1 105 = 0 := (hfr_26.1 105 (by decide)).trans u_12
  have w_35 : G_25.2.1 (g.2.2 100) = (G.2.1 (g.2.2 100)) := (hfr_26.2.1 (g.2.2 100) trivial).trans w_13
  have w_36 : G_25.2.1 (g.2.2 121) = (G.2.1 (g.2.2 121)) := (hfr_26.2.1 (g.2.2 121) trivial).trans w_14
  have w_37 : G_25.2.1 (g.2.2 140) = (G.2.1 (g.2.2 140)) := (hfr_26.2.1 (g.2.2 140) trivial).trans w_15
  have w_38 : G_25.2.1 (g.2.2 141) = (G.2.1 (g.2.2 141)) := (hfr_26.2.1 (g.2.2 141) trivial).trans w_16
  have w_39 : G_25.2.1 (g.2.2 111) = (G.2.1 (g.2.2 111)) := (hfr_26.2.1 (g.2.2 111) trivial).trans w_17
  have w_40 : G_25.2.1 (g.2.2 116) = (G.2.1 (g.2.2 116)) := (hfr_26.2.1 (g.2.2 116) trivial).trans w_18
  have u_41 : G_25.2.2 111 = some (g.2.2 111) := (hfr_26.2.2 111 (by decide)).trans u_19
  have u_42 : G_25.2.2 112 = some (g.2.2 112) := (hfr_26.2.2 112 (by decide)).trans u_20
  have u_43 : G_25.2.2 106 = some (g.2.2 101) := hex_27.1
  have u_44 : G_25.1 107 = (G.1 102) := hex_27.2.1.trans u_6
  have u_45 : G_25.1 108 = 80 := hex_27.2.2.1
  have u_46 : G_25.1 109 = 0 := hex_27.2.2.2.1
  have u_47 : G_25.1 110 = (-1) := hex_27.2.2.2.2.1
  have u_48 : G_25.1 102 = 0 := hex_27.2.2.2.2.2
  have hH : HT g Ty G_25 H := by rw [← ht, ← eTx_24, eG_25]; exact hB
  refine lv_aload_n hx hb dX12_place_11 rfl (lv_at hl 0 rfl) ?_
  refine lv_iconst (v := 0) hx hb dX12_place_12 (by decide) ?_
  obtain ⟨_, ⟨rfl, t_50, hk_51⟩, o_c_49⟩ := hH h0 _ k_h0
  refine hg_put (ty := .int) hx hb hG igX12 tyX12 tyX12_ok nmX12 hown hK hS o_c_49 (AF.of k_h0) rfl 17 (by decide) (hG _ mw_1301) rfl (by decide +kernel) rfl rfl (Nat.le_of_ble_eq_true rfl) dX12_place_13 (fun H locs o_c_49 hz oq hS => ?_)
  obtain ⟨G_52, eG_52⟩ : ∃ z : Gh, z = gset G_25 117 0 := ⟨_, rfl⟩
  have hH : HT g Ty G_52 H := by rw [eG_52]; exact HT.putN 117 0 hH k_h0 ⟨rfl, t_50, hk_51⟩ o_c_49 oq (Or.inr (Or.inr (Or.inr (Or.inr (Or.inr ⟨by decide, t_50⟩)))))
  have fr_53 : FR [102, 104, 105, 107, 108, 109, 110, 117, 118, 119, 120] [(g.2.2 116)] [106] G G_52 := FR.n fr_28 eG_52 (by decide)
  have u_54 : G_52.1 104 = (G.1 104) := by rw [eG_52]; exact (gs_ne (by decide)).trans u_29
  have u_55 : G_52.1 113 = (G.1 113) := by rw [eG_52]; exact (gs_ne (by decide)).trans u_30
  have u_56 : G_52.1 122 = (G.1 122) := by rw [eG_52]; exact (gs_ne (by decide)).trans u_31
  have u_57 : G_52.1 133 = (G.1 133) := by rw [eG_52]; exact (gs_ne (by decide)).trans u_32
  have u_58 : G_52.1 137 = (G.1 137) := by rw [eG_52]; exact (gs_ne (by decide)).trans u_33
  have u_59 : G_52.1 105 = 0 := by rw [eG_52]; exact (gs_ne (by decide)).trans u_34
  have u_60 : G_52.1 107 = (G.1 102) := by rw [eG_52]; exact (gs_ne (by decide)).trans u_44
  have u_61 : G_52.1 108 = 80 := by rw [eG_52]; exact (gs_ne (by decide)).trans u_45
  have u_62 : G_52.1 109 = 0 := by rw [eG_52]; exact (gs_ne (by decide)).trans u_46
  have u_63 : G_52.1 110 = (-1) := by rw [eG_52]; exact (gs_ne (by decide)).trans u_47
  have u_64 : G_52.1 102 = 0 := by rw [eG_52]; exact (gs_ne (by decide)).trans u_48
  have u_65 : G_52.1 117 = 0 := by rw [eG_52]; exact gs_eq
  have w_66 : G_52.2.1 (g.2.2 100) = (G.2.1 (g.2.2 100)) := by rw [eG_52]; exact w_35
  have w_67 : G_52.2.1 (g.2.2 121) = (G.2.1 (g.2.2 121)) := by rw [eG_52]; exact w_36
  have w_68 : G_52.2.1 (g.2.2 140) = (G.2.1 (g.2.2 140)) := by rw [eG_52]; exact w_37
  have w_69 : G_52.2.1 (g.2.2 141) = (G.2.1 (g.2.2 141)) := by rw [eG_52]; exact w_38
  have w_70 : G_52.2.1 (g.2.2 111) = (G.2.1 (g.2.2 111)) := by rw [eG_52]; exact w_39
  have w_71 : G_52.2.1 (g.2.2 116) = (G.2.1 (g.2.2 116)) := by rw [eG_52]; exact w_40
  have u_72 : G_52.2.2 111 = some (g.2.2 111) := by rw [eG_52]; exact u_41
  have u_73 : G_52.2.2 112 = some (g.2.2 112) := by rw [eG_52]; exact u_42
  have u_74 : G_52.2.2 106 = some (g.2.2 101) := by rw [eG_52]; exact u_43
  clear oq hz
  refine lv_aload_n hx hb dX12_place_16 rfl (lv_at hl 0 rfl) ?_
  obtain ⟨_, ⟨rfl, t_76, hk_77⟩, o_c_75⟩ := hH h0 _ k_h0
  refine va_calli (va_runV (As := []) (rest := []) ⟨hx, hb, hml, hown, hts⟩ (c_X12_readPath l g Ty G_52 H.size h0 k_h0 u_74 (by rw [u_60]; exact (rg_w hI.a102 (by decide) (by decide))) (by rw [u_62]; exact (rg_w rl_0 (by decide) (by decide))) (by rw [u_63]; exact (Or.inl rfl)) hLD (by rw [u_65, u_62]; exact ⟨by decide, by decide⟩)) (cwV 0 hts (gwV mw_1498 mw_1500 mw_46 mw_88 mw_1501) rfl rfl rfl hv_X12_readPath ⟨Nat.le_of_ble_eq_true rfl, Nat.le_of_ble_eq_true rfl⟩) ⟨PcT_blind, hg_recv hK o_c_75 rfl, PcT_pre hK hH⟩ rfl rfl hl.1 rfl (lv_room (Nat.le_of_ble_eq_true rfl)) dX12_place_17 ⟨Nat.zero_le _, Nat.zero_le _⟩) hS (fun q _ h => AF.mono hS.1 h) (fun q h => AF.mono hS.1 h) (fun x_78 ux_78 t H locs ht hvm hx_78 hB hz hk hS => ?_)
  obtain ⟨eTx_78, eGx_78⟩ := hx_78
  obtain ⟨G_79, eG_79⟩ : ∃ z, z = ux_78.2 := ⟨_, rfl⟩
  rw [← eG_79] at eGx_78
  obtain ⟨hfr_80, hex_81⟩ := eGx_78
  have fr_82 : FR [102, 104, 105, 107, 108, 109, 110, 117, 118, 119, 120] [(g.2.2 116)] [106] G G_79 := FR.tr fr_53 hfr_80 (by decide) (fun b h => ⟨h.1, trivial⟩) (by decide)
  have u_83 : G_79.1 104 = (G.1 104) := (hfr_80.1 104 (by decide)).trans u_54
  have u_84 : G_79.1 113 = (G.1 113) := (hfr_80.1 113 (by decide)).trans u_55
  have u_85 : G_79.1 122 = (G.1 122) := (hfr_80.1 122 (by decide)).trans u_56
  have u_86 : G_79.1 133 = (G.1 133) := (hfr_80.1 133 (by decide)).trans u_57
  have u_87 : G_79.1 137 = (G.1 137) := (hfr_80.1 137 (by decide)).trans u_58
  have u_88 : G_79.1 105 = 0 := (hfr_80.1 105 (by decide)).trans u_59
  have u_89 : G_79.1 107 = (G.1 102) := (hfr_80.1 107 (by decide)).trans u_60
  have u_90 : G_79.1 108 = 80 := (hfr_80.1 108 (by decide)).trans u_61
  have u_91 : G_79.1 102 = 0 := (hfr_80.1 102 (by decide)).trans u_64
  have w_92 : G_79.2.1 (g.2.2 100) = (G.2.1 (g.2.2 100)) := (hfr_80.2.1 (g.2.2 100) ⟨(ne_kd hmk.1 hmk.2.2.2.2.1 (by decide)), trivial⟩).trans w_66
  have w_93 : G_79.2.1 (g.2.2 121) = (G.2.1 (g.2.2 121)) := (hfr_80.2.1 (g.2.2 121) ⟨(ne_kd hmk.2.2.2.2.2.1 hmk.2.2.2.2.1 (by decide)), trivial⟩).trans w_67
  have w_94 : G_79.2.1 (g.2.2 140) = (G.2.1 (g.2.2 140)) := (hfr_80.2.1 (g.2.2 140) ⟨(ne_kd hmk.2.2.2.2.2.2.2.2.2.2.2.2.2.2.2.2.2.2.1 hmk.2.2.2.2.1 (by decide)), trivial⟩).trans w_68
  have w_95 : G_79.2.1 (g.2.2 141) = (G.2.1 (g.2.2 141)) := (hfr_80.2.1 (g.2.2 141) ⟨(ne_kd hmk.2.2.2.2.2.2.2.2.2.2.2.2.2.2.2.2.2.2.2.1 hmk.2.2.2.2.1 (by decide)), trivial⟩).trans w_69
  have w_96 : G_79.2.1 (g.2.2 111) = (G.2.1 (g.2.2 111)) := (hfr_80.2.1 (g.2.2 111) ⟨(ne_kd hmk.2.2.2.2.2.2.2.2.2.2.2.2.2.2.2.2.2.2.2.2.1 hmk.2.2.2.2.1 (by decide)), trivial⟩).trans w_70
  have u_97 : G_79.2.2 111 = some (g.2.2 111) := (hfr_80.2.2 111 (by decide)).trans u_72
  have u_98 : G_79.2.2 112 = some (g.2.2 112) := (hfr_80.2.2 112 (by decide)).trans u_73
  have u_99 : G_79.2.2 106 = some (g.2.2 101) := (hfr_80.2.2 106 (by decide)).trans u_74
  obtain ⟨f_100, ef_100⟩ : ∃ z : Nat → Int32, G_79.2.1 (g.2.2 116) = z := ⟨_, rfl⟩
  obtain ⟨xl_101, exl_101⟩ : ∃ z : Int32, G_79.1 117 = z := ⟨_, rfl⟩
  obtain ⟨xa_102, exa_102⟩ : ∃ z : Int32, G_79.1 109 = z := ⟨_, rfl⟩
  obtain ⟨xw_103, exw_103⟩ : ∃ z : Int32, G_79.1 110 = z := ⟨_, rfl⟩
  have rp_104 := hex_81
  rw [ef_100, exl_101, exa_102, exw_103, w_71, u_65, u_62] at rp_104
  have hH : HT g Ty G_79 H := by rw [← ht, ← eTx_78, eG_79]; exact hB
  have r0_105 : rgI 0 0 x_78 := by rw [rp_104.2.2.2.2]; exact ⟨by decide, by decide⟩
  refine lv_istore_n (lv' := [(1, .int x_78), (0, .ref h0)]) hx hb dX12_place_20 rfl hl (by decide) rfl (fun ls hl => ?_)
  refine lv_aload_n hx hb dX12_place_21 rfl (lv_at hl 1 rfl) ?_
  obtain ⟨_, ⟨rfl, t_107, hk_108⟩, o_c_106⟩ := hH h0 _ k_h0
  refine va_calli (va_runV (As := []) (rest := []) ⟨hx, hb, hml, hown, hts⟩ (c_X12_wasRight l g Ty G_79 H.size h0 k_h0 (g.2.2 101) 80 (G_79.2.1 (g.2.2 101)) (G_79.2.1 (g.2.2 115)) (G.1 102) 80 (G_79.1 114) 80 xa_102 xw_103 ⟨u_99, hmk.2.1, rfl, (fun _ _ => rfl), u_89, u_90, rfl, exa_102, exw_103, (rg_w hI.a102 (by decide) (by decide)), by decide, Or.inl (show ((G.1 102) : Int32).toInt ≤ 80 from (rg_w (a2 := 0) (b2 := 80) hI.a102 (by decide) (by decide)).2), by decide, by decide, (rg_w rp_104.2.2.1 (by decide) (by decide))⟩) (cwV 0 hts (gwV mw_1490 mw_1492 mw_45 mw_88 mw_1493) rfl rfl rfl hv_X12_wasRight ⟨Nat.le_of_ble_eq_true rfl, Nat.le_of_ble_eq_true rfl⟩) ⟨PcT_blind, hg_recv hK o_c_106 rfl, PcT_pre hK hH⟩ rfl rfl hl.1 rfl (lv_room (Nat.le_of_ble_eq_true rfl)) dX12_place_22 ⟨Nat.zero_le _, Nat.zero_le _⟩) hS (fun q _ h => AF.mono hS.1 h) (fun q h => AF.mono hS.1 h) (fun x_109 ux_109 t H locs ht hvm hx_109 hB hz hk hS => ?_)
  obtain ⟨eTx_109, eGx_109⟩ := hx_109
  obtain ⟨G_110, eG_110⟩ : ∃ z, z = ux_109.2 := ⟨_, rfl⟩
  rw [← eG_110] at eGx_109
  have pq_111 := wsr_pr eGx_109 (rg_w rp_104.2.2.1 (by decide) (by decide))
  obtain ⟨hr_112, hg_113, hm_114, hq_115⟩ := eGx_109
  have hfr_116 : FR [109, 110] [] [] G_79 G_110 := FR.ps FR.rf hg_113 (by decide) (by decide)
  have fr_117 : FR [102, 104, 105, 107, 108, 109, 110, 117, 118, 119, 120] [(g.2.2 116)] [106] G G_110 := FR.tr fr_82 hfr_116 (by decide) (fun _ _ => trivial) (by decide)
  have u_118 : G_110.1 104 = (G.1 104) := (hfr_116.1 104 (by decide)).trans u_83
  have u_119 : G_110.1 113 = (G.1 113) := (hfr_116.1 113 (by decide)).trans u_84
  have u_120 : G_110.1 122 = (G.1 122) := (hfr_116.1 122 (by decide)).trans u_85
  have u_121 : G_110.1 133 = (G.1 133) := (hfr_116.1 133 (by decide)).trans u_86
  have u_122 : G_110.1 137 = (G.1 137) := (hfr_116.1 137 (by decide)).trans u_87
  have u_123 : G_110.1 105 = 0 := (hfr_116.1 105 (by decide)).trans u_88
  have u_124 : G_110.1 107 = (G.1 102) := (hfr_116.1 107 (by decide)).trans u_89
  have u_125 : G_110.1 108 = 80 := (hfr_116.1 108 (by decide)).trans u_90
  have u_126 : G_110.1 102 = 0 := (hfr_116.1 102 (by decide)).trans u_91
  have u_127 : G_110.1 117 = xl_101 := (hfr_116.1 117 (by decide)).trans exl_101
  have w_128 : G_110.2.1 (g.2.2 100) = (G.2.1 (g.2.2 100)) := (hfr_116.2.1 (g.2.2 100) trivial).trans w_92
  have w_129 : G_110.2.1 (g.2.2 121) = (G.2.1 (g.2.2 121)) := (hfr_116.2.1 (g.2.2 121) trivial).trans w_93
  have w_130 : G_110.2.1 (g.2.2 140) = (G.2.1 (g.2.2 140)) := (hfr_116.2.1 (g.2.2 140) trivial).trans w_94
  have w_131 : G_110.2.1 (g.2.2 141) = (G.2.1 (g.2.2 141)) := (hfr_116.2.1 (g.2.2 141) trivial).trans w_95
  have w_132 : G_110.2.1 (g.2.2 111) = (G.2.1 (g.2.2 111)) := (hfr_116.2.1 (g.2.2 111) trivial).trans w_96
  have w_133 : G_110.2.1 (g.2.2 116) = f_100 := (hfr_116.2.1 (g.2.2 116) trivial).trans ef_100
  have u_134 : G_110.2.2 111 = some (g.2.2 111) := (hfr_116.2.2 111 (by decide)).trans u_97
  have u_135 : G_110.2.2 112 = some (g.2.2 112) := (hfr_116.2.2 112 (by decide)).trans u_98
  have u_136 : G_110.2.2 106 = some (g.2.2 101) := (hfr_116.2.2 106 (by decide)).trans u_99
  obtain ⟨xw_137, exw_137⟩ : ∃ z : Int32, G_110.1 110 = z := ⟨_, rfl⟩
  have e9_138 := pq_111.1
  rw [exw_137] at pq_111
  have hH : HT g Ty G_110 H := by rw [← ht, ← eTx_109, eG_110]; exact hB
  refine lv_istore_n (lv' := [(2, .int x_109), (1, .int x_78), (0, .ref h0)]) hx hb dX12_place_25 rfl hl (by decide) rfl (fun ls hl => ?_)
  refine lv_iload_n hx hb dX12_place_26 rfl (lv_at hl 0 rfl) ?_
  refine lv_if_ne (tgt := 47) hx hb dX12_place_27 (by decide) (fun c_139 => ?_) (fun c_139 => ?_)
  · refine lv_iload_n hx hb dX12_place_47 rfl (lv_at hl 0 rfl) ?_
    refine lv_if_ne (tgt := 60) hx hb dX12_place_48 (by decide) (fun c_140 => ?_) (fun c_140 => ?_)
    · have ps_141 := rp_104.1.2.1
      refine lv_aload_n hx hb dX12_place_60 rfl (lv_at hl 2 rfl) ?_
      refine lv_aload_n hx hb dX12_place_61 rfl (lv_at hl 2 rfl) ?_
      obtain ⟨_, ⟨rfl, t_143, hk_144⟩, o_c_142⟩ := hH h0 _ k_h0
      refine hg_get hx hb hG igX12 hown hK o_c_142 rfl 0 (by decide) (hG _ mw_1284) rfl dX12_place_62 ?_
      refine lv_iload_n hx hb dX12_place_65 rfl (lv_at hl 1 rfl) ?_
      refine va_calli (va_runV (As := [.ref (g.2.2 100), .int x_78]) (rest := []) ⟨hx, hb, hml, hown, hts⟩ (c_X12_goPath l g Ty G_110 H.size h0 (g.2.2 100) x_78 k_h0 (hk_144.1) ρ (by rw [w_128]; exact hT) _ (by rw [w_133]; exact (by rw [rp_104.2.2.2.2]; exact ps_141))) (cwV 2 hts (gwV mw_1503 mw_1505 mw_47 mw_88 mw_1506) rfl rfl rfl hv_X12_goPath ⟨Nat.le_of_ble_eq_true rfl, Nat.le_of_ble_eq_true rfl⟩) ⟨PcT_blind, hg_recv hK o_c_142 rfl, PcT_pre hK hH⟩ rfl rfl hl.1 rfl (lv_room (Nat.le_of_ble_eq_true rfl)) dX12_place_66 ⟨Nat.zero_le _, Nat.zero_le _⟩) hS (fun q _ h => AF.mono hS.1 h) (fun q h => AF.mono hS.1 h) (fun x_145 ux_145 t H locs ht hvm hx_145 hB hz hk hS => ?_)
      obtain ⟨hx_145, fx_145⟩ := hx_145
      obtain ⟨eTx_145, eGx_145⟩ := fx_145
      obtain ⟨G_146, eG_146⟩ : ∃ z, z = ux_145.2 := ⟨_, rfl⟩
      rw [← eG_146] at eGx_145
      obtain ⟨hfr_147, hex_148⟩ := eGx_145
      have fr_149 : FR [102, 104, 105, 107, 108, 109, 110, 117, 118, 119, 120] [(g.2.2 116)] [106] G G_146 := FR.tr fr_117 hfr_147 (by decide) (fun _ _ => trivial) (by decide)
      have u_150 : G_146.1 104 = (G.1 104) := (hfr_147.1 104 (by decide)).trans u_118
      have u_151 : G_146.1 113 = (G.1 113) := (hfr_147.1 113 (by decide)).trans u_119
      have u_152 : G_146.1 122 = (G.1 122) := (hfr_147.1 122 (by decide)).trans u_120
      have u_153 : G_146.1 133 = (G.1 133) := (hfr_147.1 133 (by decide)).trans u_121
      have u_154 : G_146.1 137 = (G.1 137) := (hfr_147.1 137 (by decide)).trans u_122
      have u_155 : G_146.1 105 = 0 := (hfr_147.1 105 (by decide)).trans u_123
      have u_156 : G_146.1 107 = (G.1 102) := (hfr_147.1 107 (by decide)).trans u_124
      have u_157 : G_146.1 108 = 80 := (hfr_147.1 108 (by decide)).trans u_125
      have u_158 : G_146.1 102 = 0 := (hfr_147.1 102 (by decide)).trans u_126
      have u_159 : G_146.1 117 = xl_101 := (hfr_147.1 117 (by decide)).trans u_127
      have u_160 : G_146.1 110 = xw_137 := (hfr_147.1 110 (by decide)).trans exw_137
      have u_161 : G_146.1 109 = xa_102 := (hfr_147.1 109 (by decide)).trans e9_138
      have w_162 : G_146.2.1 (g.2.2 100) = (G.2.1 (g.2.2 100)) := (hfr_147.2.1 (g.2.2 100) trivial).trans w_128
      have w_163 : G_146.2.1 (g.2.2 121) = (G.2.1 (g.2.2 121)) := (hfr_147.2.1 (g.2.2 121) trivial).trans w_129
      have w_164 : G_146.2.1 (g.2.2 140) = (G.2.1 (g.2.2 140)) := (hfr_147.2.1 (g.2.2 140) trivial).trans w_130
      have w_165 : G_146.2.1 (g.2.2 141) = (G.2.1 (g.2.2 141)) := (hfr_147.2.1 (g.2.2 141) trivial).trans w_131
      have w_166 : G_146.2.1 (g.2.2 111) = (G.2.1 (g.2.2 111)) := (hfr_147.2.1 (g.2.2 111) trivial).trans w_132
      have w_167 : G_146.2.1 (g.2.2 116) = f_100 := (hfr_147.2.1 (g.2.2 116) trivial).trans w_133
      have u_168 : G_146.2.2 111 = some (g.2.2 111) := (hfr_147.2.2 111 (by decide)).trans u_134
      have u_169 : G_146.2.2 112 = some (g.2.2 112) := (hfr_147.2.2 112 (by decide)).trans u_135
      have u_170 : G_146.2.2 106 = some (g.2.2 101) := (hfr_147.2.2 106 (by decide)).trans u_136
      obtain ⟨x_171, ex_171⟩ : ∃ z : Int32, G_146.1 118 = z := ⟨_, rfl⟩
      obtain ⟨x_172, ex_172⟩ : ∃ z : Int32, G_146.1 119 = z := ⟨_, rfl⟩
      obtain ⟨x_173, ex_173⟩ : ∃ z : Int32, G_146.1 120 = z := ⟨_, rfl⟩
      have tp_174 := hex_148
      rw [ex_171, w_128] at tp_174
      have hH : HT g Ty G_146 H := by rw [← ht, ← eTx_145, eG_146]; exact hB
      have rx_145 : rgI (0) (1) x_145 := hx_145
      refine lv_if_ne (tgt := 79) hx hb dX12_place_69 (by decide) (fun c_175 => ?_) (fun c_175 => ?_)
      · have r_176 : rgI (1) (1) x_145 := rg_w (rg_neL rx_145 rl_0 c_175) (by decide) (by decide)
        refine lv_iload_n hx hb dX12_place_79 rfl (lv_at hl 0 rfl) ?_
        refine lv_if_ne (tgt := 90) hx hb dX12_place_80 (by decide) (fun c_177 => ?_) (fun c_177 => ?_)
        · refine lv_aload_n hx hb dX12_place_90 rfl (lv_at hl 2 rfl) ?_
          refine lv_iconst (v := 0) hx hb dX12_place_91 (by decide) ?_
          obtain ⟨_, ⟨rfl, t_179, hk_180⟩, o_c_178⟩ := hH h0 _ k_h0
          refine hg_put (ty := .int) hx hb hG igX12 tyX12 tyX12_ok nmX12 hown hK hS o_c_178 (AF.of k_h0) rfl 4 (by decide) (hG _ mw_1288) rfl (by decide +kernel) rfl rfl (Nat.le_of_ble_eq_true rfl) dX12_place_92 (fun H locs o_c_178 hz oq hS => ?_)
          obtain ⟨G_181, eG_181⟩ : ∃ z : Gh, z = gset G_146 104 0 := ⟨_, rfl⟩
          have hH : HT g Ty G_181 H := by rw [eG_181]; exact HT.putN 104 0 hH k_h0 ⟨rfl, t_179, hk_180⟩ o_c_178 oq (Or.inr (Or.inr (Or.inr (Or.inr (Or.inr ⟨by decide, t_179⟩)))))
          have fr_182 : FR [102, 104, 105, 107, 108, 109, 110, 117, 118, 119, 120] [(g.2.2 116)] [106] G G_181 := FR.n fr_149 eG_181 (by decide)
          have u_183 : G_181.1 113 = (G.1 113) := by rw [eG_181]; exact (gs_ne (by decide)).trans u_151
          have u_184 : G_181.1 122 = (G.1 122) := by rw [eG_181]; exact (gs_ne (by decide)).trans u_152
          have u_185 : G_181.1 133 = (G.1 133) := by rw [eG_181]; exact (gs_ne (by decide)).trans u_153
          have u_186 : G_181.1 137 = (G.1 137) := by rw [eG_181]; exact (gs_ne (by decide)).trans u_154
          have u_187 : G_181.1 105 = 0 := by rw [eG_181]; exact (gs_ne (by decide)).trans u_155
          have u_188 : G_181.1 107 = (G.1 102) := by rw [eG_181]; exact (gs_ne (by decide)).trans u_156
          have u_189 : G_181.1 108 = 80 := by rw [eG_181]; exact (gs_ne (by decide)).trans u_157
          have u_190 : G_181.1 102 = 0 := by rw [eG_181]; exact (gs_ne (by decide)).trans u_158
          have u_191 : G_181.1 117 = xl_101 := by rw [eG_181]; exact (gs_ne (by decide)).trans u_159
          have u_192 : G_181.1 110 = xw_137 := by rw [eG_181]; exact (gs_ne (by decide)).trans u_160
          have u_193 : G_181.1 109 = xa_102 := by rw [eG_181]; exact (gs_ne (by decide)).trans u_161
          have u_194 : G_181.1 118 = x_171 := by rw [eG_181]; exact (gs_ne (by decide)).trans ex_171
          have u_195 : G_181.1 119 = x_172 := by rw [eG_181]; exact (gs_ne (by decide)).trans ex_172
          have u_196 : G_181.1 120 = x_173 := by rw [eG_181]; exact (gs_ne (by decide)).trans ex_173
          have u_197 : G_181.1 104 = 0 := by rw [eG_181]; exact gs_eq
          have w_198 : G_181.2.1 (g.2.2 100) = (G.2.1 (g.2.2 100)) := by rw [eG_181]; exact w_162
          have w_199 : G_181.2.1 (g.2.2 121) = (G.2.1 (g.2.2 121)) := by rw [eG_181]; exact w_163
          have w_200 : G_181.2.1 (g.2.2 140) = (G.2.1 (g.2.2 140)) := by rw [eG_181]; exact w_164
          have w_201 : G_181.2.1 (g.2.2 141) = (G.2.1 (g.2.2 141)) := by rw [eG_181]; exact w_165
          have w_202 : G_181.2.1 (g.2.2 111) = (G.2.1 (g.2.2 111)) := by rw [eG_181]; exact w_166
          have w_203 : G_181.2.1 (g.2.2 116) = f_100 := by rw [eG_181]; exact w_167
          have u_204 : G_181.2.2 111 = some (g.2.2 111) := by rw [eG_181]; exact u_168
          have u_205 : G_181.2.2 112 = some (g.2.2 112) := by rw [eG_181]; exact u_169
          have u_206 : G_181.2.2 106 = some (g.2.2 101) := by rw [eG_181]; exact u_170
          clear oq hz
          refine lv_aload_n hx hb dX12_place_95 rfl (lv_at hl 2 rfl) ?_
          refine lv_aload_n hx hb dX12_place_96 rfl (lv_at hl 2 rfl) ?_
          obtain ⟨_, ⟨rfl, t_208, hk_209⟩, o_c_207⟩ := hH h0 _ k_h0
          refine hg_get hx hb hG igX12 hown hK o_c_207 rfl 0 (by decide) (hG _ mw_1284) rfl dX12_place_97 ?_
          refine lv_aload_n hx hb dX12_place_100 rfl (lv_at hl 2 rfl) ?_
          refine hg_get hx hb hG igX12 hown hK o_c_207 rfl 18 (by decide) (hG _ mw_1302) rfl dX12_place_101 ?_
          rw [u_194]
          refine lv_aload_n hx hb dX12_place_104 rfl (lv_at hl 2 rfl) ?_
          refine hg_get hx hb hG igX12 hown hK o_c_207 rfl 19 (by decide) (hG _ mw_1303) rfl dX12_place_105 ?_
          rw [u_195]
          refine vp_callSi (W.runS (As := [.ref (g.2.2 100), .int x_171, .int x_172]) (rest := [.ref h0]) ⟨hx, hb, hml, hown, hts⟩ (c_X12_atOf l g Ty G_181 (g.2.2 100) x_171 x_172 (hk_209.1)) (cwSx 3 hts hG (gwC mw_1509) mw_88 mw_1507 mw_1508 rfl rfl rfl hd_X12_atOf ⟨Nat.le_of_ble_eq_true rfl, Nat.le_of_ble_eq_true rfl⟩) ⟨PcH_blind, PcH_pre hK hH⟩ rfl rfl hl.1 rfl (lv_room (Nat.le_of_ble_eq_true rfl)) dX12_place_108 ⟨Nat.zero_le _, Nat.zero_le _⟩) (fun x_210 hx_210 => ?_)
          have rx_210 : rgI (1) (24) x_210 := hx_210.1
          have ex_211 : x_210 = F_X12_atOf (G.2.1 (g.2.2 100)) x_171 x_172 := by rw [← w_198]; exact hx_210.2
          refine lv_i2l hx hb dX12_place_111 rfl ?_
          refine lv_topl (fun u_212 eu_212 => ?_)
          refine va_callv (va_runV (As := [.long u_212]) (rest := []) ⟨hx, hb, hml, hown, hts⟩ (c_X12_tell l g Ty G_181 H.size h0 u_212 k_h0 (by rw [u_197]; exact rg_w rl_0 (by decide) (by decide))) (cwV 1 hts (gwV mw_1510 mw_1512 mw_48 mw_88 mw_1513) rfl rfl rfl hv_X12_tell ⟨Nat.le_of_ble_eq_true rfl, Nat.le_of_ble_eq_true rfl⟩) ⟨PcT_blind, hg_recv hK o_c_207 rfl, PcT_pre hK hH⟩ rfl rfl hl.1 rfl (lv_room (Nat.le_of_ble_eq_true rfl)) dX12_place_112 ⟨Nat.zero_le _, Nat.zero_le _⟩) hS (fun q _ h => AF.mono hS.1 h) (fun q h => AF.mono hS.1 h) (fun ux_213 t H locs ht hvm hx_213 hB hz hk hS => ?_)
          obtain ⟨eTx_213, eGx_213⟩ := hx_213
          obtain ⟨G_214, eG_214⟩ : ∃ z, z = ux_213.2 := ⟨_, rfl⟩
          rw [← eG_214] at eGx_213
          obtain ⟨x_215, ex_215⟩ : ∃ z : Int32, z = 0 + 1 := ⟨_, rfl⟩
          have e_216 : G_214 = gset G_181 104 x_215 := by rw [ex_215, ← u_197]; exact eGx_213
          have rx_215 : rgI (1) (1) x_215 := by rw [ex_215]; exact rg_w (rg_add rl_0 rl_1 (by decide) (by decide)) (by decide) (by decide)
          have fr_217 : FR [102, 104, 105, 107, 108, 109, 110, 117, 118, 119, 120] [(g.2.2 116)] [106] G G_214 := FR.n fr_182 e_216 (by decide)
          have u_218 : G_214.1 113 = (G.1 113) := by rw [e_216]; exact (gs_ne (by decide)).trans u_183
          have u_219 : G_214.1 122 = (G.1 122) := by rw [e_216]; exact (gs_ne (by decide)).trans u_184
          have u_220 : G_214.1 133 = (G.1 133) := by rw [e_216]; exact (gs_ne (by decide)).trans u_185
          have u_221 : G_214.1 137 = (G.1 137) := by rw [e_216]; exact (gs_ne (by decide)).trans u_186
          have u_222 : G_214.1 105 = 0 := by rw [e_216]; exact (gs_ne (by decide)).trans u_187
          have u_223 : G_214.1 107 = (G.1 102) := by rw [e_216]; exact (gs_ne (by decide)).trans u_188
          have u_224 : G_214.1 108 = 80 := by rw [e_216]; exact (gs_ne (by decide)).trans u_189
          have u_225 : G_214.1 102 = 0 := by rw [e_216]; exact (gs_ne (by decide)).trans u_190
          have u_226 : G_214.1 117 = xl_101 := by rw [e_216]; exact (gs_ne (by decide)).trans u_191
          have u_227 : G_214.1 110 = xw_137 := by rw [e_216]; exact (gs_ne (by decide)).trans u_192
          have u_228 : G_214.1 109 = xa_102 := by rw [e_216]; exact (gs_ne (by decide)).trans u_193
          have u_229 : G_214.1 118 = x_171 := by rw [e_216]; exact (gs_ne (by decide)).trans u_194
          have u_230 : G_214.1 119 = x_172 := by rw [e_216]; exact (gs_ne (by decide)).trans u_195
          have u_231 : G_214.1 120 = x_173 := by rw [e_216]; exact (gs_ne (by decide)).trans u_196
          have u_232 : G_214.1 104 = x_215 := by rw [e_216]; exact gs_eq
          have w_233 : G_214.2.1 (g.2.2 100) = (G.2.1 (g.2.2 100)) := by rw [e_216]; exact w_198
          have w_234 : G_214.2.1 (g.2.2 121) = (G.2.1 (g.2.2 121)) := by rw [e_216]; exact w_199
          have w_235 : G_214.2.1 (g.2.2 140) = (G.2.1 (g.2.2 140)) := by rw [e_216]; exact w_200
          have w_236 : G_214.2.1 (g.2.2 141) = (G.2.1 (g.2.2 141)) := by rw [e_216]; exact w_201
          have w_237 : G_214.2.1 (g.2.2 111) = (G.2.1 (g.2.2 111)) := by rw [e_216]; exact w_202
          have w_238 : G_214.2.1 (g.2.2 116) = f_100 := by rw [e_216]; exact w_203
          have u_239 : G_214.2.2 111 = some (g.2.2 111) := by rw [e_216]; exact u_204
          have u_240 : G_214.2.2 112 = some (g.2.2 112) := by rw [e_216]; exact u_205
          have u_241 : G_214.2.2 106 = some (g.2.2 101) := by rw [e_216]; exact u_206
          have hH : HT g Ty G_214 H := by rw [← ht, ← eTx_213, eG_214]; exact hB
          refine lv_bipush (v := 100) hx hb dX12_place_115 (by decide) ?_
          refine lv_aload_n hx hb dX12_place_117 rfl (lv_at hl 2 rfl) ?_
          obtain ⟨_, ⟨rfl, t_243, hk_244⟩, o_c_242⟩ := hH h0 _ k_h0
          refine hg_get hx hb hG igX12 hown hK o_c_242 rfl 18 (by decide) (hG _ mw_1302) rfl dX12_place_118 ?_
          rw [u_229]
          refine lv_imul hx hb dX12_place_121 ?_
          refine lv_topi (fun x_245 ex_245 => ?_)
          have rx_245 : rgI (0) (2300) x_245 := by rw [ex_245]; exact rg_w (rg_mul rl_100 tp_174.1 (by decide) (by decide) (by decide)) (by decide) (by decide)
          refine lv_aload_n hx hb dX12_place_122 rfl (lv_at hl 2 rfl) ?_
          refine hg_get hx hb hG igX12 hown hK o_c_242 rfl 19 (by decide) (hG _ mw_1303) rfl dX12_place_123 ?_
          rw [u_230]
          refine lv_iadd hx hb dX12_place_126 ?_
          refine lv_topi (fun x_246 ex_246 => ?_)
          exact W.iret hx hb hr (fun t ht hWm => ⟨⟨x_246, (Ty, G_214), rfl, ⟨rfl, ⟨fr_217, ⟨⟨(by rw [u_225]; exact (rg_w rl_0 (by decide) (by decide))), (by rw [u_232]; exact (rg_w rx_215 (by decide) (by decide))), (by rw [u_218]; exact (rg_w hI.a113 (by decide) (by decide))), (by rw [u_219]; exact (rg_w hI.a122 (by decide) (by decide))), (by rw [u_220]; exact (rg_w hI.a133 (by decide) (by decide))), (by rw [u_221]; exact (rg_w hI.a137 (by decide) (by decide))), u_239, u_240, (by rw [w_233]; exact (hI.ti.hi (show Bd ≤ Bd + 1000 by omega))), (hI.un2 (show Bd ≤ Bd + 1000 by omega) w_234 u_219), (hI.ke2 (show Bd ≤ Bd + 1000 by omega) w_235 w_236)⟩, (by rw [u_225]; exact (rg_w rl_0 (by decide) (by decide)))⟩⟩⟩, by show HT g Ty G_214 t.heap; rw [ht]; exact hH⟩, hS.F ht⟩) hS.2.2 dX12_place_127
        · have r_247 : rgI (0) (0) x_109 := rg_w (rg_eq rl_0 c_177) (by decide) (by decide)
          refine lv_iconst (v := (-1)) hx hb dX12_place_83 (by decide) ?_
          refine lv_aload_n hx hb dX12_place_84 rfl (lv_at hl 2 rfl) ?_
          obtain ⟨_, ⟨rfl, t_249, hk_250⟩, o_c_248⟩ := hH h0 _ k_h0
          refine hg_get hx hb hG igX12 hown hK o_c_248 rfl 10 (by decide) (hG _ mw_1294) rfl dX12_place_85 ?_
          rw [u_160]
          refine lv_isub hx hb dX12_place_88 ?_
          refine lv_topi (fun x_251 ex_251 => ?_)
          exact W.iret hx hb hr (fun t ht hWm => ⟨⟨x_251, (Ty, G_146), rfl, ⟨rfl, ⟨fr_149, ⟨⟨(by rw [u_158]; exact (rg_w rl_0 (by decide) (by decide))), (by rw [u_150]; exact (rg_w hI.a104 (by decide) (by decide))), (by rw [u_151]; exact (rg_w hI.a113 (by decide) (by decide))), (by rw [u_152]; exact (rg_w hI.a122 (by decide) (by decide))), (by rw [u_153]; exact (rg_w hI.a133 (by decide) (by decide))), (by rw [u_154]; exact (rg_w hI.a137 (by decide) (by decide))), u_168, u_169, (by rw [w_162]; exact (hI.ti.hi (show Bd ≤ Bd + 1000 by omega))), (hI.un2 (show Bd ≤ Bd + 1000 by omega) w_163 u_152), (hI.ke2 (show Bd ≤ Bd + 1000 by omega) w_164 w_165)⟩, (by rw [u_158]; exact (rg_w rl_0 (by decide) (by decide)))⟩⟩⟩, by show HT g Ty G_146 t.heap; rw [ht]; exact hH⟩, hS.F ht⟩) hS.2.2 dX12_place_89
      · have r_252 : rgI (0) (0) x_145 := rg_w (rg_eq rl_0 c_175) (by decide) (by decide)
        refine lv_iconst (v := (-1)) hx hb dX12_place_72 (by decide) ?_
        refine lv_aload_n hx hb dX12_place_73 rfl (lv_at hl 2 rfl) ?_
        obtain ⟨_, ⟨rfl, t_254, hk_255⟩, o_c_253⟩ := hH h0 _ k_h0
        refine hg_get hx hb hG igX12 hown hK o_c_253 rfl 20 (by decide) (hG _ mw_1304) rfl dX12_place_74 ?_
        rw [ex_173]
        refine lv_isub hx hb dX12_place_77 ?_
        refine lv_topi (fun x_256 ex_256 => ?_)
        exact W.iret hx hb hr (fun t ht hWm => ⟨⟨x_256, (Ty, G_146), rfl, ⟨rfl, ⟨fr_149, ⟨⟨(by rw [u_158]; exact (rg_w rl_0 (by decide) (by decide))), (by rw [u_150]; exact (rg_w hI.a104 (by decide) (by decide))), (by rw [u_151]; exact (rg_w hI.a113 (by decide) (by decide))), (by rw [u_152]; exact (rg_w hI.a122 (by decide) (by decide))), (by rw [u_153]; exact (rg_w hI.a133 (by decide) (by decide))), (by rw [u_154]; exact (rg_w hI.a137 (by decide) (by decide))), u_168, u_169, (by rw [w_162]; exact (hI.ti.hi (show Bd ≤ Bd + 1000 by omega))), (hI.un2 (show Bd ≤ Bd + 1000 by omega) w_163 u_152), (hI.ke2 (show Bd ≤ Bd + 1000 by omega) w_164 w_165)⟩, (by rw [u_158]; exact (rg_w rl_0 (by decide) (by decide)))⟩⟩⟩, by show HT g Ty G_146 t.heap; rw [ht]; exact hH⟩, hS.F ht⟩) hS.2.2 dX12_place_78
    · have r_257 : rgI (0) (0) x_109 := rg_w (rg_eq rl_0 c_140) (by decide) (by decide)
      refine lv_aload_n hx hb dX12_place_51 rfl (lv_at hl 2 rfl) ?_
      obtain ⟨_, ⟨rfl, t_259, hk_260⟩, o_c_258⟩ := hH h0 _ k_h0
      refine hg_get hx hb hG igX12 hown hK o_c_258 rfl 10 (by decide) (hG _ mw_1294) rfl dX12_place_52 ?_
      rw [exw_137]
      refine lv_if_ne (tgt := 60) hx hb dX12_place_55 (by decide) (fun c_261 => ?_) (fun c_261 => ?_)
      · have ps_262 := rp_104.1.2.1
        refine lv_aload_n hx hb dX12_place_60 rfl (lv_at hl 2 rfl) ?_
        refine lv_aload_n hx hb dX12_place_61 rfl (lv_at hl 2 rfl) ?_
        refine hg_get hx hb hG igX12 hown hK o_c_258 rfl 0 (by decide) (hG _ mw_1284) rfl dX12_place_62 ?_
        refine lv_iload_n hx hb dX12_place_65 rfl (lv_at hl 1 rfl) ?_
        refine va_calli (va_runV (As := [.ref (g.2.2 100), .int x_78]) (rest := []) ⟨hx, hb, hml, hown, hts⟩ (c_X12_goPath l g Ty G_110 H.size h0 (g.2.2 100) x_78 k_h0 (hk_260.1) ρ (by rw [w_128]; exact hT) _ (by rw [w_133]; exact (by rw [rp_104.2.2.2.2]; exact ps_262))) (cwV 2 hts (gwV mw_1503 mw_1505 mw_47 mw_88 mw_1506) rfl rfl rfl hv_X12_goPath ⟨Nat.le_of_ble_eq_true rfl, Nat.le_of_ble_eq_true rfl⟩) ⟨PcT_blind, hg_recv hK o_c_258 rfl, PcT_pre hK hH⟩ rfl rfl hl.1 rfl (lv_room (Nat.le_of_ble_eq_true rfl)) dX12_place_66 ⟨Nat.zero_le _, Nat.zero_le _⟩) hS (fun q _ h => AF.mono hS.1 h) (fun q h => AF.mono hS.1 h) (fun x_263 ux_263 t H locs ht hvm hx_263 hB hz hk hS => ?_)
        obtain ⟨hx_263, fx_263⟩ := hx_263
        obtain ⟨eTx_263, eGx_263⟩ := fx_263
        obtain ⟨G_264, eG_264⟩ : ∃ z, z = ux_263.2 := ⟨_, rfl⟩
        rw [← eG_264] at eGx_263
        obtain ⟨hfr_265, hex_266⟩ := eGx_263
        have fr_267 : FR [102, 104, 105, 107, 108, 109, 110, 117, 118, 119, 120] [(g.2.2 116)] [106] G G_264 := FR.tr fr_117 hfr_265 (by decide) (fun _ _ => trivial) (by decide)
        have u_268 : G_264.1 104 = (G.1 104) := (hfr_265.1 104 (by decide)).trans u_118
        have u_269 : G_264.1 113 = (G.1 113) := (hfr_265.1 113 (by decide)).trans u_119
        have u_270 : G_264.1 122 = (G.1 122) := (hfr_265.1 122 (by decide)).trans u_120
        have u_271 : G_264.1 133 = (G.1 133) := (hfr_265.1 133 (by decide)).trans u_121
        have u_272 : G_264.1 137 = (G.1 137) := (hfr_265.1 137 (by decide)).trans u_122
        have u_273 : G_264.1 105 = 0 := (hfr_265.1 105 (by decide)).trans u_123
        have u_274 : G_264.1 107 = (G.1 102) := (hfr_265.1 107 (by decide)).trans u_124
        have u_275 : G_264.1 108 = 80 := (hfr_265.1 108 (by decide)).trans u_125
        have u_276 : G_264.1 102 = 0 := (hfr_265.1 102 (by decide)).trans u_126
        have u_277 : G_264.1 117 = xl_101 := (hfr_265.1 117 (by decide)).trans u_127
        have u_278 : G_264.1 110 = xw_137 := (hfr_265.1 110 (by decide)).trans exw_137
        have u_279 : G_264.1 109 = xa_102 := (hfr_265.1 109 (by decide)).trans e9_138
        have w_280 : G_264.2.1 (g.2.2 100) = (G.2.1 (g.2.2 100)) := (hfr_265.2.1 (g.2.2 100) trivial).trans w_128
        have w_281 : G_264.2.1 (g.2.2 121) = (G.2.1 (g.2.2 121)) := (hfr_265.2.1 (g.2.2 121) trivial).trans w_129
        have w_282 : G_264.2.1 (g.2.2 140) = (G.2.1 (g.2.2 140)) := (hfr_265.2.1 (g.2.2 140) trivial).trans w_130
        have w_283 : G_264.2.1 (g.2.2 141) = (G.2.1 (g.2.2 141)) := (hfr_265.2.1 (g.2.2 141) trivial).trans w_131
        have w_284 : G_264.2.1 (g.2.2 111) = (G.2.1 (g.2.2 111)) := (hfr_265.2.1 (g.2.2 111) trivial).trans w_132
        have w_285 : G_264.2.1 (g.2.2 116) = f_100 := (hfr_265.2.1 (g.2.2 116) trivial).trans w_133
        have u_286 : G_264.2.2 111 = some (g.2.2 111) := (hfr_265.2.2 111 (by decide)).trans u_134
        have u_287 : G_264.2.2 112 = some (g.2.2 112) := (hfr_265.2.2 112 (by decide)).trans u_135
        have u_288 : G_264.2.2 106 = some (g.2.2 101) := (hfr_265.2.2 106 (by decide)).trans u_136
        obtain ⟨x_289, ex_289⟩ : ∃ z : Int32, G_264.1 118 = z := ⟨_, rfl⟩
        obtain ⟨x_290, ex_290⟩ : ∃ z : Int32, G_264.1 119 = z := ⟨_, rfl⟩
        obtain ⟨x_291, ex_291⟩ : ∃ z : Int32, G_264.1 120 = z := ⟨_, rfl⟩
        have tp_292 := hex_266
        rw [ex_289, w_128] at tp_292
        have hH : HT g Ty G_264 H := by rw [← ht, ← eTx_263, eG_264]; exact hB
        have rx_263 : rgI (0) (1) x_263 := hx_263
        refine lv_if_ne (tgt := 79) hx hb dX12_place_69 (by decide) (fun c_293 => ?_) (fun c_293 => ?_)
        · have r_294 : rgI (1) (1) x_263 := rg_w (rg_neL rx_263 rl_0 c_293) (by decide) (by decide)
          refine lv_iload_n hx hb dX12_place_79 rfl (lv_at hl 0 rfl) ?_
          refine lv_if_ne (tgt := 90) hx hb dX12_place_80 (by decide) (fun c_295 => ?_) (fun c_295 => ?_)
          · exact rg_clash (rg_neL r_257 rl_0 c_295) (r_257) (by decide)
          · refine lv_iconst (v := (-1)) hx hb dX12_place_83 (by decide) ?_
            refine lv_aload_n hx hb dX12_place_84 rfl (lv_at hl 2 rfl) ?_
            obtain ⟨_, ⟨rfl, t_297, hk_298⟩, o_c_296⟩ := hH h0 _ k_h0
            refine hg_get hx hb hG igX12 hown hK o_c_296 rfl 10 (by decide) (hG _ mw_1294) rfl dX12_place_85 ?_
            rw [u_278]
            refine lv_isub hx hb dX12_place_88 ?_
            refine lv_topi (fun x_299 ex_299 => ?_)
            exact W.iret hx hb hr (fun t ht hWm => ⟨⟨x_299, (Ty, G_264), rfl, ⟨rfl, ⟨fr_267, ⟨⟨(by rw [u_276]; exact (rg_w rl_0 (by decide) (by decide))), (by rw [u_268]; exact (rg_w hI.a104 (by decide) (by decide))), (by rw [u_269]; exact (rg_w hI.a113 (by decide) (by decide))), (by rw [u_270]; exact (rg_w hI.a122 (by decide) (by decide))), (by rw [u_271]; exact (rg_w hI.a133 (by decide) (by decide))), (by rw [u_272]; exact (rg_w hI.a137 (by decide) (by decide))), u_286, u_287, (by rw [w_280]; exact (hI.ti.hi (show Bd ≤ Bd + 1000 by omega))), (hI.un2 (show Bd ≤ Bd + 1000 by omega) w_281 u_270), (hI.ke2 (show Bd ≤ Bd + 1000 by omega) w_282 w_283)⟩, (by rw [u_276]; exact (rg_w rl_0 (by decide) (by decide)))⟩⟩⟩, by show HT g Ty G_264 t.heap; rw [ht]; exact hH⟩, hS.F ht⟩) hS.2.2 dX12_place_89
        · have r_300 : rgI (0) (0) x_263 := rg_w (rg_eq rl_0 c_293) (by decide) (by decide)
          refine lv_iconst (v := (-1)) hx hb dX12_place_72 (by decide) ?_
          refine lv_aload_n hx hb dX12_place_73 rfl (lv_at hl 2 rfl) ?_
          obtain ⟨_, ⟨rfl, t_302, hk_303⟩, o_c_301⟩ := hH h0 _ k_h0
          refine hg_get hx hb hG igX12 hown hK o_c_301 rfl 20 (by decide) (hG _ mw_1304) rfl dX12_place_74 ?_
          rw [ex_291]
          refine lv_isub hx hb dX12_place_77 ?_
          refine lv_topi (fun x_304 ex_304 => ?_)
          exact W.iret hx hb hr (fun t ht hWm => ⟨⟨x_304, (Ty, G_264), rfl, ⟨rfl, ⟨fr_267, ⟨⟨(by rw [u_276]; exact (rg_w rl_0 (by decide) (by decide))), (by rw [u_268]; exact (rg_w hI.a104 (by decide) (by decide))), (by rw [u_269]; exact (rg_w hI.a113 (by decide) (by decide))), (by rw [u_270]; exact (rg_w hI.a122 (by decide) (by decide))), (by rw [u_271]; exact (rg_w hI.a133 (by decide) (by decide))), (by rw [u_272]; exact (rg_w hI.a137 (by decide) (by decide))), u_286, u_287, (by rw [w_280]; exact (hI.ti.hi (show Bd ≤ Bd + 1000 by omega))), (hI.un2 (show Bd ≤ Bd + 1000 by omega) w_281 u_270), (hI.ke2 (show Bd ≤ Bd + 1000 by omega) w_282 w_283)⟩, (by rw [u_276]; exact (rg_w rl_0 (by decide) (by decide)))⟩⟩⟩, by show HT g Ty G_264 t.heap; rw [ht]; exact hH⟩, hS.F ht⟩) hS.2.2 dX12_place_78
      · have r_305 : rgI (0) (0) xw_137 := rg_w (rg_eq rl_0 c_261) (by decide) (by decide)
        refine lv_iconst (v := (-1)) hx hb dX12_place_58 (by decide) ?_
        exact W.iret hx hb hr (fun t ht hWm => ⟨⟨(-1), (Ty, G_110), rfl, ⟨rfl, ⟨fr_117, ⟨⟨(by rw [u_126]; exact (rg_w rl_0 (by decide) (by decide))), (by rw [u_118]; exact (rg_w hI.a104 (by decide) (by decide))), (by rw [u_119]; exact (rg_w hI.a113 (by decide) (by decide))), (by rw [u_120]; exact (rg_w hI.a122 (by decide) (by decide))), (by rw [u_121]; exact (rg_w hI.a133 (by decide) (by decide))), (by rw [u_122]; exact (rg_w hI.a137 (by decide) (by decide))), u_134, u_135, (by rw [w_128]; exact (hI.ti.hi (show Bd ≤ Bd + 1000 by omega))), (hI.un2 (show Bd ≤ Bd + 1000 by omega) w_129 u_120), (hI.ke2 (show Bd ≤ Bd + 1000 by omega) w_130 w_131)⟩, (by rw [u_126]; exact (rg_w rl_0 (by decide) (by decide)))⟩⟩⟩, by show HT g Ty G_110 t.heap; rw [ht]; exact hH⟩, hS.F ht⟩) hS.2.2 dX12_place_59
  · have r_306 : rgI (0) (0) x_109 := rg_w (rg_eq rl_0 c_139) (by decide) (by decide)
    have wg_307 : rgI 0 2147483647 xw_137 := wr_ge (pq_111.2.1 rp_104.2.1) (pq_111.2.2.2 c_139)
    refine lv_aload_n hx hb dX12_place_30 rfl (lv_at hl 2 rfl) ?_
    obtain ⟨_, ⟨rfl, t_309, hk_310⟩, o_c_308⟩ := hH h0 _ k_h0
    refine hg_get hx hb hG igX12 hown hK o_c_308 rfl 16 (by decide) (hG _ mw_1300) rfl dX12_place_31 ?_
    refine lv_iload_n hx hb dX12_place_34 rfl (lv_at hl 1 rfl) ?_
    refine lv_aload_n hx hb dX12_place_35 rfl (lv_at hl 2 rfl) ?_
    refine hg_get hx hb hG igX12 hown hK o_c_308 rfl 10 (by decide) (hG _ mw_1294) rfl dX12_place_36 ?_
    rw [exw_137]
    refine lv_bipush (v := 12) hx hb dX12_place_39 (by decide) ?_
    refine va_mmin hx hb (by rw [hml]; exact hl.1.symm) hown (hG _ mw_1502) (hG _ mw_476) (hG _ mw_91) (hG _ mw_477) (Nat.le_of_ble_eq_true rfl) (Nat.le_of_ble_eq_true rfl) (Nat.le_of_ble_eq_true rfl) (Nat.le_of_ble_eq_true rfl) dX12_place_41 ?_
    refine lv_topi (fun x_311 ex_311 => ?_)
    have rx_311 : rgI (0) (12) x_311 := by rw [ex_311]; exact rg_w (show rgI (0) (12) _ from rg_mn wg_307 rl_12 (by decide) (by decide) (by decide) (by decide)) (by decide) (by decide)
    refine lv_iadd hx hb dX12_place_44 ?_
    refine lv_topi (fun x_312 ex_312 => ?_)
    have rx_312 : rgI (0) (12) x_312 := by rw [ex_312]; exact rg_w (rg_add r0_105 rx_311 (by decide) (by decide)) (by decide) (by decide)
    refine lv_iconst (v := 4) hx hb dX12_place_45 (by decide) ?_
    obtain ⟨_, rfl, o_c_313⟩ := hH (g.2.2 116) _ hk_310.2.2.2.2.1
    have o_c_313 : va_at g.1 vwCl ((g.2.2 116), .inl (g.2.1 0, 160, .inl (G_110.2.1 (g.2.2 116)))) H := o_c_313
    refine hg_bast hx hb hK hS o_c_313 (AF.of hk_310.2.2.2.2.1) (rg_in (n := 160) rx_312 (by decide) (by decide)) dX12_place_46 (fun H locs o_c_313 hz oq hS => ?_)
    obtain ⟨G_314, eG_314⟩ : ∃ z : Gh, z = aset G_110 (g.2.2 116) (upd (G_110.2.1 (g.2.2 116)) (x_312 : Int32).toNatClampNeg (vp_nar .byte 4)) := ⟨_, rfl⟩
    have hH : HT g Ty G_314 H := by rw [eG_314]; exact HT.putA (upd (G_110.2.1 (g.2.2 116)) (x_312 : Int32).toNatClampNeg (vp_nar .byte 4)) hH hk_310.2.2.2.2.1 cf31 o_c_313 oq
    obtain ⟨f_315, ef_315⟩ : ∃ z : Nat → Int32, z = (upd f_100 (x_312 : Int32).toNatClampNeg (vp_nar .byte 4)) := ⟨_, rfl⟩
    have eaf_315 : G_314 = aset G_110 (g.2.2 116) f_315 := by rw [eG_314, ef_315, w_133]
    have fr_316 : FR [102, 104, 105, 107, 108, 109, 110, 117, 118, 119, 120] [(g.2.2 116)] [106] G G_314 := FR.a fr_117 eaf_315 (fun b h => h.1)
    have u_317 : G_314.1 104 = (G.1 104) := by rw [eaf_315]; exact u_118
    have u_318 : G_314.1 113 = (G.1 113) := by rw [eaf_315]; exact u_119
    have u_319 : G_314.1 122 = (G.1 122) := by rw [eaf_315]; exact u_120
    have u_320 : G_314.1 133 = (G.1 133) := by rw [eaf_315]; exact u_121
    have u_321 : G_314.1 137 = (G.1 137) := by rw [eaf_315]; exact u_122
    have u_322 : G_314.1 105 = 0 := by rw [eaf_315]; exact u_123
    have u_323 : G_314.1 107 = (G.1 102) := by rw [eaf_315]; exact u_124
    have u_324 : G_314.1 108 = 80 := by rw [eaf_315]; exact u_125
    have u_325 : G_314.1 102 = 0 := by rw [eaf_315]; exact u_126
    have u_326 : G_314.1 117 = xl_101 := by rw [eaf_315]; exact u_127
    have u_327 : G_314.1 110 = xw_137 := by rw [eaf_315]; exact exw_137
    have u_328 : G_314.1 109 = xa_102 := by rw [eaf_315]; exact e9_138
    have w_329 : G_314.2.1 (g.2.2 100) = (G.2.1 (g.2.2 100)) := by rw [eaf_315]; exact (aset_ne (ne_kd hmk.1 hmk.2.2.2.2.1 (by decide))).trans w_128
    have w_330 : G_314.2.1 (g.2.2 121) = (G.2.1 (g.2.2 121)) := by rw [eaf_315]; exact (aset_ne (ne_kd hmk.2.2.2.2.2.1 hmk.2.2.2.2.1 (by decide))).trans w_129
    have w_331 : G_314.2.1 (g.2.2 140) = (G.2.1 (g.2.2 140)) := by rw [eaf_315]; exact (aset_ne (ne_kd hmk.2.2.2.2.2.2.2.2.2.2.2.2.2.2.2.2.2.2.1 hmk.2.2.2.2.1 (by decide))).trans w_130
    have w_332 : G_314.2.1 (g.2.2 141) = (G.2.1 (g.2.2 141)) := by rw [eaf_315]; exact (aset_ne (ne_kd hmk.2.2.2.2.2.2.2.2.2.2.2.2.2.2.2.2.2.2.2.1 hmk.2.2.2.2.1 (by decide))).trans w_131
    have w_333 : G_314.2.1 (g.2.2 111) = (G.2.1 (g.2.2 111)) := by rw [eaf_315]; exact (aset_ne (ne_kd hmk.2.2.2.2.2.2.2.2.2.2.2.2.2.2.2.2.2.2.2.2.1 hmk.2.2.2.2.1 (by decide))).trans w_132
    have w_334 : G_314.2.1 (g.2.2 116) = f_315 := by rw [eaf_315]; exact aset_eq
    have u_335 : G_314.2.2 111 = some (g.2.2 111) := by rw [eaf_315]; exact u_134
    have u_336 : G_314.2.2 112 = some (g.2.2 112) := by rw [eaf_315]; exact u_135
    have u_337 : G_314.2.2 106 = some (g.2.2 101) := by rw [eaf_315]; exact u_136
    clear oq hz
    refine lv_iload_n hx hb dX12_place_47 rfl (lv_at hl 0 rfl) ?_
    refine lv_if_ne (tgt := 60) hx hb dX12_place_48 (by decide) (fun c_338 => ?_) (fun c_338 => ?_)
    · exact rg_clash (rg_neL r_306 rl_0 c_338) (r_306) (by decide)
    · refine lv_aload_n hx hb dX12_place_51 rfl (lv_at hl 2 rfl) ?_
      obtain ⟨_, ⟨rfl, t_340, hk_341⟩, o_c_339⟩ := hH h0 _ k_h0
      refine hg_get hx hb hG igX12 hown hK o_c_339 rfl 10 (by decide) (hG _ mw_1294) rfl dX12_place_52 ?_
      rw [u_327]
      refine lv_if_ne (tgt := 60) hx hb dX12_place_55 (by decide) (fun c_342 => ?_) (fun c_342 => ?_)
      · have r_343 : rgI (1) (2147483647) xw_137 := rg_w (rg_neL wg_307 rl_0 c_342) (by decide) (by decide)
        refine lv_aload_n hx hb dX12_place_60 rfl (lv_at hl 2 rfl) ?_
        refine lv_aload_n hx hb dX12_place_61 rfl (lv_at hl 2 rfl) ?_
        refine hg_get hx hb hG igX12 hown hK o_c_339 rfl 0 (by decide) (hG _ mw_1284) rfl dX12_place_62 ?_
        refine lv_iload_n hx hb dX12_place_65 rfl (lv_at hl 1 rfl) ?_
        refine va_calli (va_runV (As := [.ref (g.2.2 100), .int x_78]) (rest := []) ⟨hx, hb, hml, hown, hts⟩ (c_X12_goPath l g Ty G_314 H.size h0 (g.2.2 100) x_78 k_h0 (hk_341.1) ρ (by rw [w_329]; exact hT) 160 (by rw [w_334]; exact (ps_min rp_104.2.2.2.2 wg_307.1 c_342 ex_311 ex_312 ef_315))) (cwV 2 hts (gwV mw_1503 mw_1505 mw_47 mw_88 mw_1506) rfl rfl rfl hv_X12_goPath ⟨Nat.le_of_ble_eq_true rfl, Nat.le_of_ble_eq_true rfl⟩) ⟨PcT_blind, hg_recv hK o_c_339 rfl, PcT_pre hK hH⟩ rfl rfl hl.1 rfl (lv_room (Nat.le_of_ble_eq_true rfl)) dX12_place_66 ⟨Nat.zero_le _, Nat.zero_le _⟩) hS (fun q _ h => AF.mono hS.1 h) (fun q h => AF.mono hS.1 h) (fun x_344 ux_344 t H locs ht hvm hx_344 hB hz hk hS => ?_)
        obtain ⟨hx_344, fx_344⟩ := hx_344
        obtain ⟨eTx_344, eGx_344⟩ := fx_344
        obtain ⟨G_345, eG_345⟩ : ∃ z, z = ux_344.2 := ⟨_, rfl⟩
        rw [← eG_345] at eGx_344
        obtain ⟨hfr_346, hex_347⟩ := eGx_344
        have fr_348 : FR [102, 104, 105, 107, 108, 109, 110, 117, 118, 119, 120] [(g.2.2 116)] [106] G G_345 := FR.tr fr_316 hfr_346 (by decide) (fun _ _ => trivial) (by decide)
        have u_349 : G_345.1 104 = (G.1 104) := (hfr_346.1 104 (by decide)).trans u_317
        have u_350 : G_345.1 113 = (G.1 113) := (hfr_346.1 113 (by decide)).trans u_318
        have u_351 : G_345.1 122 = (G.1 122) := (hfr_346.1 122 (by decide)).trans u_319
        have u_352 : G_345.1 133 = (G.1 133) := (hfr_346.1 133 (by decide)).trans u_320
        have u_353 : G_345.1 137 = (G.1 137) := (hfr_346.1 137 (by decide)).trans u_321
        have u_354 : G_345.1 105 = 0 := (hfr_346.1 105 (by decide)).trans u_322
        have u_355 : G_345.1 107 = (G.1 102) := (hfr_346.1 107 (by decide)).trans u_323
        have u_356 : G_345.1 108 = 80 := (hfr_346.1 108 (by decide)).trans u_324
        have u_357 : G_345.1 102 = 0 := (hfr_346.1 102 (by decide)).trans u_325
        have u_358 : G_345.1 117 = xl_101 := (hfr_346.1 117 (by decide)).trans u_326
        have u_359 : G_345.1 110 = xw_137 := (hfr_346.1 110 (by decide)).trans u_327
        have u_360 : G_345.1 109 = xa_102 := (hfr_346.1 109 (by decide)).trans u_328
        have w_361 : G_345.2.1 (g.2.2 100) = (G.2.1 (g.2.2 100)) := (hfr_346.2.1 (g.2.2 100) trivial).trans w_329
        have w_362 : G_345.2.1 (g.2.2 121) = (G.2.1 (g.2.2 121)) := (hfr_346.2.1 (g.2.2 121) trivial).trans w_330
        have w_363 : G_345.2.1 (g.2.2 140) = (G.2.1 (g.2.2 140)) := (hfr_346.2.1 (g.2.2 140) trivial).trans w_331
        have w_364 : G_345.2.1 (g.2.2 141) = (G.2.1 (g.2.2 141)) := (hfr_346.2.1 (g.2.2 141) trivial).trans w_332
        have w_365 : G_345.2.1 (g.2.2 111) = (G.2.1 (g.2.2 111)) := (hfr_346.2.1 (g.2.2 111) trivial).trans w_333
        have w_366 : G_345.2.1 (g.2.2 116) = f_315 := (hfr_346.2.1 (g.2.2 116) trivial).trans w_334
        have u_367 : G_345.2.2 111 = some (g.2.2 111) := (hfr_346.2.2 111 (by decide)).trans u_335
        have u_368 : G_345.2.2 112 = some (g.2.2 112) := (hfr_346.2.2 112 (by decide)).trans u_336
        have u_369 : G_345.2.2 106 = some (g.2.2 101) := (hfr_346.2.2 106 (by decide)).trans u_337
        obtain ⟨x_370, ex_370⟩ : ∃ z : Int32, G_345.1 118 = z := ⟨_, rfl⟩
        obtain ⟨x_371, ex_371⟩ : ∃ z : Int32, G_345.1 119 = z := ⟨_, rfl⟩
        obtain ⟨x_372, ex_372⟩ : ∃ z : Int32, G_345.1 120 = z := ⟨_, rfl⟩
        have tp_373 := hex_347
        rw [ex_370, w_329] at tp_373
        have hH : HT g Ty G_345 H := by rw [← ht, ← eTx_344, eG_345]; exact hB
        have rx_344 : rgI (0) (1) x_344 := hx_344
        refine lv_if_ne (tgt := 79) hx hb dX12_place_69 (by decide) (fun c_374 => ?_) (fun c_374 => ?_)
        · have r_375 : rgI (1) (1) x_344 := rg_w (rg_neL rx_344 rl_0 c_374) (by decide) (by decide)
          refine lv_iload_n hx hb dX12_place_79 rfl (lv_at hl 0 rfl) ?_
          refine lv_if_ne (tgt := 90) hx hb dX12_place_80 (by decide) (fun c_376 => ?_) (fun c_376 => ?_)
          · exact rg_clash (rg_neL r_306 rl_0 c_376) (r_306) (by decide)
          · refine lv_iconst (v := (-1)) hx hb dX12_place_83 (by decide) ?_
            refine lv_aload_n hx hb dX12_place_84 rfl (lv_at hl 2 rfl) ?_
            obtain ⟨_, ⟨rfl, t_378, hk_379⟩, o_c_377⟩ := hH h0 _ k_h0
            refine hg_get hx hb hG igX12 hown hK o_c_377 rfl 10 (by decide) (hG _ mw_1294) rfl dX12_place_85 ?_
            rw [u_359]
            refine lv_isub hx hb dX12_place_88 ?_
            refine lv_topi (fun x_380 ex_380 => ?_)
            have rx_380 : rgI (-2147483648) (-2) x_380 := by rw [ex_380]; exact rg_w (rg_sub rl_m1 r_343 (by decide) (by decide)) (by decide) (by decide)
            exact W.iret hx hb hr (fun t ht hWm => ⟨⟨x_380, (Ty, G_345), rfl, ⟨rfl, ⟨fr_348, ⟨⟨(by rw [u_357]; exact (rg_w rl_0 (by decide) (by decide))), (by rw [u_349]; exact (rg_w hI.a104 (by decide) (by decide))), (by rw [u_350]; exact (rg_w hI.a113 (by decide) (by decide))), (by rw [u_351]; exact (rg_w hI.a122 (by decide) (by decide))), (by rw [u_352]; exact (rg_w hI.a133 (by decide) (by decide))), (by rw [u_353]; exact (rg_w hI.a137 (by decide) (by decide))), u_367, u_368, (by rw [w_361]; exact (hI.ti.hi (show Bd ≤ Bd + 1000 by omega))), (hI.un2 (show Bd ≤ Bd + 1000 by omega) w_362 u_351), (hI.ke2 (show Bd ≤ Bd + 1000 by omega) w_363 w_364)⟩, (by rw [u_357]; exact (rg_w rl_0 (by decide) (by decide)))⟩⟩⟩, by show HT g Ty G_345 t.heap; rw [ht]; exact hH⟩, hS.F ht⟩) hS.2.2 dX12_place_89
        · have r_381 : rgI (0) (0) x_344 := rg_w (rg_eq rl_0 c_374) (by decide) (by decide)
          refine lv_iconst (v := (-1)) hx hb dX12_place_72 (by decide) ?_
          refine lv_aload_n hx hb dX12_place_73 rfl (lv_at hl 2 rfl) ?_
          obtain ⟨_, ⟨rfl, t_383, hk_384⟩, o_c_382⟩ := hH h0 _ k_h0
          refine hg_get hx hb hG igX12 hown hK o_c_382 rfl 20 (by decide) (hG _ mw_1304) rfl dX12_place_74 ?_
          rw [ex_372]
          refine lv_isub hx hb dX12_place_77 ?_
          refine lv_topi (fun x_385 ex_385 => ?_)
          exact W.iret hx hb hr (fun t ht hWm => ⟨⟨x_385, (Ty, G_345), rfl, ⟨rfl, ⟨fr_348, ⟨⟨(by rw [u_357]; exact (rg_w rl_0 (by decide) (by decide))), (by rw [u_349]; exact (rg_w hI.a104 (by decide) (by decide))), (by rw [u_350]; exact (rg_w hI.a113 (by decide) (by decide))), (by rw [u_351]; exact (rg_w hI.a122 (by decide) (by decide))), (by rw [u_352]; exact (rg_w hI.a133 (by decide) (by decide))), (by rw [u_353]; exact (rg_w hI.a137 (by decide) (by decide))), u_367, u_368, (by rw [w_361]; exact (hI.ti.hi (show Bd ≤ Bd + 1000 by omega))), (hI.un2 (show Bd ≤ Bd + 1000 by omega) w_362 u_351), (hI.ke2 (show Bd ≤ Bd + 1000 by omega) w_363 w_364)⟩, (by rw [u_357]; exact (rg_w rl_0 (by decide) (by decide)))⟩⟩⟩, by show HT g Ty G_345 t.heap; rw [ht]; exact hH⟩, hS.F ht⟩) hS.2.2 dX12_place_78
      · have r_386 : rgI (0) (0) xw_137 := rg_w (rg_eq rl_0 c_342) (by decide) (by decide)
        refine lv_iconst (v := (-1)) hx hb dX12_place_58 (by decide) ?_
        exact W.iret hx hb hr (fun t ht hWm => ⟨⟨(-1), (Ty, G_314), rfl, ⟨rfl, ⟨fr_316, ⟨⟨(by rw [u_325]; exact (rg_w rl_0 (by decide) (by decide))), (by rw [u_317]; exact (rg_w hI.a104 (by decide) (by decide))), (by rw [u_318]; exact (rg_w hI.a113 (by decide) (by decide))), (by rw [u_319]; exact (rg_w hI.a122 (by decide) (by decide))), (by rw [u_320]; exact (rg_w hI.a133 (by decide) (by decide))), (by rw [u_321]; exact (rg_w hI.a137 (by decide) (by decide))), u_335, u_336, (by rw [w_329]; exact (hI.ti.hi (show Bd ≤ Bd + 1000 by omega))), (hI.un2 (show Bd ≤ Bd + 1000 by omega) w_330 u_319), (hI.ke2 (show Bd ≤ Bd + 1000 by omega) w_331 w_332)⟩, (by rw [u_325]; exact (rg_w rl_0 (by decide) (by decide)))⟩⟩⟩, by show HT g Ty G_314 t.heap; rw [ht]; exact hH⟩, hS.F ht⟩) hS.2.2 dX12_place_59
