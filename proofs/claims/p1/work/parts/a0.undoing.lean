theorem rg_v {n : Int} {x : Int32} (h : rgI n n x) : x.toInt = n := by have a := h.1; have b := h.2; omega

set_option maxHeartbeats 4000000 in
set_option maxRecDepth 100000 in
theorem c_X12_remember (l : Launch) (g : Gx) (Ty : TyM) (G : Gh) (sz : Nat) (h0 : Nat) (b0 : Nat) (k_h0 : Ty h0 = some (22, 0)) (k_b0 : Ty b0 = some (30, 122)) (Bq : Int) (hF : TI Bq (G.2.1 b0)) (hn2 : rgI 0 12 (G.1 122)) (hU : ∀ i : Nat, (i : Int) < (G.1 122).toInt → TI Bq (sl (G.2.1 (g.2.2 121)) i)) : Met l yX12_remember (wsG yX12_remember cX12_remember 3 none) ({ frames := 1, cells := 0, slots := 0, locals := 23 }) (PcT g Ty G sz [.ref h0, .ref b0]) (QwV g Ty sz (fun u => u.1 = Ty ∧ FR [122] [(g.2.2 121)] [] G u.2 ∧ (rgI 0 12 (u.2.1 122) ∧ ∀ i : Nat, (i : Int) < (u.2.1 122).toInt → TI Bq (sl (u.2.2.1 (g.2.2 121)) i)))) 0 0 (AF Ty sz) := by
  refine Met.ofW (cc := cX12_remember) (maxL := 3) (ret := none) (by decide) rfl ?_
  intro p e s m args below meth c s₁ B hml hv
  obtain ⟨rfl, hsz, hK, hH⟩ := hv
  subst hsz
  have hx := B.exec
  have hb := B.bytes
  have hr := B.returns
  have hts := atoms_spec (ws := (wsG yX12_remember cX12_remember 3 none)) B.pre
  have hG : ∀ w ∈ GW, w.before ([.ref h0, .ref b0] : List Value).toArray s = true := fun w h => hts w (List.mem_cons_of_mem _ h)
  have hown : s.vm.findClass RX12 = some m.cls := findClass_of_methodNamed B.named
  have hlocks := B.notSynchronized
  have hl := lv_entry [.ref h0, .ref b0] (n := 3) (Nat.le_of_ble_eq_true rfl)
  rw [lg_entry_eq]
  generalize (lg_sl [.ref h0, .ref b0] ++ List.replicate (3 - (lg_sl [.ref h0, .ref b0]).length) Slot.unset).toArray = ls at hl ⊢
  have hl : lv_has ls 3 [(0, .ref h0), (1, .ref b0)] := hl
  have hmk : mdK g Ty := mdk_of hH k_h0
  have hS : va_S (AF Ty s.heap.size) s.heap s.heap [] := va_S.rf
  have L_11 : ∀ (n : Nat) (H : Heap) (locs : List Loc) (G_11 : Gh) (fl1_11 : Nat → Int32) (y2_11 : Int32) (ls : Array Slot), rgI (12) (12) (G_11.1 122) → FR [122] [(g.2.2 121)] [] G G_11 → G_11.2.1 (g.2.2 121) = fl1_11 → rgI (0) (1342) y2_11 → SH (G.2.1 (g.2.2 121)) fl1_11 (y2_11 : Int32).toNatClampNeg → rgI 12 12 (G.1 122) → (1342 - (y2_11).toInt).toNat < n → lv_has ls 3 [(0, .ref h0), (1, .ref b0), (2, .int y2_11)] → HT g Ty G_11 H → va_S (AF Ty s.heap.size) s.heap H locs → Wm p l e (wsG yX12_remember cX12_remember 3 none) ({ frames := 1, cells := 0, slots := 0, locals := 23 }) s m [.ref h0, .ref b0] below meth c H locs (0) (0) (QwV g Ty s.heap.size (fun u => u.1 = Ty ∧ FR [122] [(g.2.2 121)] [] G u.2 ∧ (rgI 0 12 (u.2.1 122) ∧ ∀ i : Nat, (i : Int) < (u.2.1 122).toInt → TI Bq (sl (u.2.2.1 (g.2.2 121)) i)))) 0 0 (AF Ty s.heap.size) (F0 m 11 ls []) := by
    intro n
    induction n with
    | zero => intro H locs G_11 fl1_11 y2_11 ls rg122_11 fr_11 efl1_11 ry2_11 hi0_11 hi1_11 hm; exact absurd hm (Nat.not_lt_zero _)
    | succ n ih_11 =>
      intro H locs G_11 fl1_11 y2_11 ls rg122_11 fr_11 efl1_11 ry2_11 hi0_11 hi1_11 hm_11 hl hH hS
      refine lv_iload_n hx hb dX12_remember_11 rfl (lv_at hl 2 rfl) ?_
      refine lv_sipush (v := 1342) hx hb dX12_remember_12 (by decide) ?_
      refine lv_icmp_ge (tgt := 39) hx hb dX12_remember_15 (by decide) (fun c_1 => ?_) (fun c_1 => ?_)
      · have r_2 : rgI (1342) (1342) y2_11 := rg_w (rg_leR rl_1342 ry2_11 c_1) (by decide) (by decide)
        refine lv_aload_n hx hb dX12_remember_39 rfl (lv_at hl 0 rfl) ?_
        refine lv_dup hx hb dX12_remember_40 rfl ?_
        obtain ⟨_, ⟨rfl, t_4, hk_5⟩, o_c_3⟩ := hH h0 _ k_h0
        refine hg_get hx hb hG igX12 hown hK o_c_3 rfl 22 (by decide) (hG _ mw_1306) rfl dX12_remember_41 ?_
        refine lv_iconst (v := 1) hx hb dX12_remember_44 (by decide) ?_
        refine lv_isub hx hb dX12_remember_45 ?_
        refine lv_topi (fun x_6 ex_6 => ?_)
        have rx_6 : rgI (11) (11) x_6 := by rw [ex_6]; exact rg_w (rg_sub rg122_11 rl_1 (by decide) (by decide)) (by decide) (by decide)
        refine hg_put (ty := .int) hx hb hG igX12 tyX12 tyX12_ok nmX12 hown hK hS o_c_3 (AF.of k_h0) rfl 22 (by decide) (hG _ mw_1306) rfl (by decide +kernel) rfl rfl (Nat.le_of_ble_eq_true rfl) dX12_remember_46 (fun H locs o_c_3 hz oq hS => ?_)
        obtain ⟨G_7, eG_7⟩ : ∃ z : Gh, z = gset G_11 122 x_6 := ⟨_, rfl⟩
        have hH : HT g Ty G_7 H := by rw [eG_7]; exact HT.putN 122 x_6 hH k_h0 ⟨rfl, t_4, hk_5⟩ o_c_3 oq (Or.inr (Or.inr (Or.inr (Or.inr (Or.inr ⟨by decide, t_4⟩)))))
        have fr_8 : FR [122] [(g.2.2 121)] [] G G_7 := FR.n fr_11 eG_7 (by decide)
        have u_9 : G_7.1 122 = x_6 := by rw [eG_7]; exact gs_eq
        have w_10 : G_7.2.1 b0 = (G.2.1 b0) := by rw [eG_7]; exact (fr_11.2.1 b0 ⟨(ne_kd k_b0 hmk.2.2.2.2.2.1 (by decide)), trivial⟩)
        have w_11 : G_7.2.1 (g.2.2 121) = fl1_11 := by rw [eG_7]; exact efl1_11
        clear oq hz
        refine lv_aload_n hx hb dX12_remember_49 rfl (lv_at hl 1 rfl) ?_
        refine lv_aload_n hx hb dX12_remember_50 rfl (lv_at hl 0 rfl) ?_
        obtain ⟨_, ⟨rfl, t_13, hk_14⟩, o_c_12⟩ := hH h0 _ k_h0
        refine hg_get hx hb hG igX12 hown hK o_c_12 rfl 21 (by decide) (hG _ mw_1305) rfl dX12_remember_51 ?_
        refine lv_bipush (v := 122) hx hb dX12_remember_54 (by decide) ?_
        refine lv_aload_n hx hb dX12_remember_56 rfl (lv_at hl 0 rfl) ?_
        refine hg_get hx hb hG igX12 hown hK o_c_12 rfl 22 (by decide) (hG _ mw_1306) rfl dX12_remember_57 ?_
        rw [u_9]
        refine lv_imul hx hb dX12_remember_60 ?_
        refine lv_topi (fun x_15 ex_15 => ?_)
        have rx_15 : rgI (1342) (1342) x_15 := by rw [ex_15]; exact rg_w (rg_mul rl_122 rx_6 (by decide) (by decide) (by decide)) (by decide) (by decide)
        refine va_callv (va_runS (As := [.ref b0, .ref (g.2.2 121), .int x_15]) (rest := []) ⟨hx, hb, hml, hown, hts⟩ (c_X12_lay_u l g Ty G_7 H.size b0 (g.2.2 121) x_15 k_b0 (hk_14.2.2.2.2.2.1) (rg_w rx_15 (by decide) (by decide)) (ne_kd k_b0 hmk.2.2.2.2.2.1 (by decide))) (cwSx 3 hts hG (gwC mw_1583) mw_88 mw_1581 mw_1582 rfl rfl rfl hd_X12_lay ⟨Nat.le_of_ble_eq_true rfl, Nat.le_of_ble_eq_true rfl⟩) ⟨PcT_blind, PcT_pre hK hH⟩ rfl rfl hl.1 rfl (lv_room (Nat.le_of_ble_eq_true rfl)) dX12_remember_61 ⟨Nat.zero_le _, Nat.zero_le _⟩) hS (fun q _ h => AF.mono hS.1 h) (fun q h => AF.mono hS.1 h) (fun ux_16 t H locs ht hvm hx_16 hB hz hk hS => ?_)
        obtain ⟨eTx_16, eGx_16⟩ := hx_16
        obtain ⟨G_17, eG_17⟩ : ∃ z, z = ux_16.2 := ⟨_, rfl⟩
        rw [← eG_17] at eGx_16
        obtain ⟨hfr_18, hex_19⟩ := eGx_16
        have fr_20 : FR [122] [(g.2.2 121)] [] G G_17 := FR.tr fr_8 hfr_18 (by decide) (fun b h => ⟨h.1, trivial⟩) (by decide)
        have u_21 : G_17.1 122 = x_6 := (hfr_18.1 122 (by decide)).trans u_9
        have w_22 : G_17.2.1 b0 = (G.2.1 b0) := (hfr_18.2.1 b0 ⟨(ne_kd k_b0 hmk.2.2.2.2.2.1 (by decide)), trivial⟩).trans w_10
        obtain ⟨f_23, ef_23⟩ : ∃ z : Nat → Int32, G_17.2.1 (g.2.2 121) = z := ⟨_, rfl⟩
        have ly_24 := hex_19
        rw [ef_23, w_10, w_11] at ly_24
        have hH : HT g Ty G_17 H := by rw [← ht, ← eTx_16, eG_17]; exact hB
        refine lv_aload_n hx hb dX12_remember_64 rfl (lv_at hl 0 rfl) ?_
        refine lv_dup hx hb dX12_remember_65 rfl ?_
        obtain ⟨_, ⟨rfl, t_26, hk_27⟩, o_c_25⟩ := hH h0 _ k_h0
        refine hg_get hx hb hG igX12 hown hK o_c_25 rfl 22 (by decide) (hG _ mw_1306) rfl dX12_remember_66 ?_
        rw [u_21]
        refine lv_iconst (v := 1) hx hb dX12_remember_69 (by decide) ?_
        refine lv_iadd hx hb dX12_remember_70 ?_
        refine lv_topi (fun x_28 ex_28 => ?_)
        have rx_28 : rgI (12) (12) x_28 := by rw [ex_28]; exact rg_w (rg_add rx_6 rl_1 (by decide) (by decide)) (by decide) (by decide)
        have qx_28 : x_28.toInt = (x_6 : Int32).toInt + 1 := by rw [ex_28]; exact rg_addE rx_6 rl_1 (by decide) (by decide)
        refine hg_put (ty := .int) hx hb hG igX12 tyX12 tyX12_ok nmX12 hown hK hS o_c_25 (AF.of k_h0) rfl 22 (by decide) (hG _ mw_1306) rfl (by decide +kernel) rfl rfl (Nat.le_of_ble_eq_true rfl) dX12_remember_71 (fun H locs o_c_25 hz oq hS => ?_)
        obtain ⟨G_29, eG_29⟩ : ∃ z : Gh, z = gset G_17 122 x_28 := ⟨_, rfl⟩
        have hH : HT g Ty G_29 H := by rw [eG_29]; exact HT.putN 122 x_28 hH k_h0 ⟨rfl, t_26, hk_27⟩ o_c_25 oq (Or.inr (Or.inr (Or.inr (Or.inr (Or.inr ⟨by decide, t_26⟩)))))
        have fr_30 : FR [122] [(g.2.2 121)] [] G G_29 := FR.n fr_20 eG_29 (by decide)
        have u_31 : G_29.1 122 = x_28 := by rw [eG_29]; exact gs_eq
        have w_32 : G_29.2.1 b0 = (G.2.1 b0) := by rw [eG_29]; exact w_22
        have w_33 : G_29.2.1 (g.2.2 121) = f_23 := by rw [eG_29]; exact ef_23
        clear oq hz
        exact W.vret hx hb hr (fun t ht hWm => ⟨⟨(Ty, G_29), rfl, ⟨rfl, ⟨fr_30, ⟨(by rw [u_31]; exact (rg_w rx_28 (by decide) (by decide))), by rw [w_33, u_31]; exact (un_0 hF hU hi0_11 r_2 (rg_v hi1_11) (rg_v rx_6) (rg_v rx_28) ex_15 ly_24)⟩⟩⟩, by show HT g Ty G_29 t.heap; rw [ht]; exact hH⟩, hS.F ht⟩) hS.2.2 dX12_remember_74
      · have r_34 : rgI (0) (1341) y2_11 := rg_w (rg_ltL ry2_11 rl_1342 (nle_lt c_1)) (by decide) (by decide)
        refine lv_aload_n hx hb dX12_remember_18 rfl (lv_at hl 0 rfl) ?_
        obtain ⟨_, ⟨rfl, t_36, hk_37⟩, o_c_35⟩ := hH h0 _ k_h0
        refine hg_get hx hb hG igX12 hown hK o_c_35 rfl 21 (by decide) (hG _ mw_1305) rfl dX12_remember_19 ?_
        refine lv_iload_n hx hb dX12_remember_22 rfl (lv_at hl 2 rfl) ?_
        refine lv_aload_n hx hb dX12_remember_23 rfl (lv_at hl 0 rfl) ?_
        refine hg_get hx hb hG igX12 hown hK o_c_35 rfl 21 (by decide) (hG _ mw_1305) rfl dX12_remember_24 ?_
        refine lv_iload_n hx hb dX12_remember_27 rfl (lv_at hl 2 rfl) ?_
        refine lv_bipush (v := 122) hx hb dX12_remember_28 (by decide) ?_
        refine lv_iadd hx hb dX12_remember_30 ?_
        refine lv_topi (fun x_38 ex_38 => ?_)
        have rx_38 : rgI (122) (1463) x_38 := by rw [ex_38]; exact rg_w (rg_add r_34 rl_122 (by decide) (by decide)) (by decide) (by decide)
        have qx_38 : x_38.toInt = (y2_11 : Int32).toInt + 122 := by rw [ex_38]; exact rg_addE r_34 rl_122 (by decide) (by decide)
        obtain ⟨_, rfl, o_c_39⟩ := hH (g.2.2 121) _ hk_37.2.2.2.2.2.1
        have o_c_39 : va_at g.1 vwCl ((g.2.2 121), .inl (g.2.1 1, 1464, .inl (G_11.2.1 (g.2.2 121)))) H := o_c_39
        refine hg_iald hx hb hK o_c_39 (rg_in (n := 1464) rx_38 (by decide) (by decide)) dX12_remember_31 ?_
        rw [efl1_11]
        refine lv_topi (fun x_40 ex_40 => ?_)
        refine hg_iast hx hb hK hS o_c_39 (AF.of hk_37.2.2.2.2.2.1) (rg_in (n := 1464) r_34 (by decide) (by decide)) dX12_remember_32 (fun H locs o_c_39 hz oq hS => ?_)
        obtain ⟨G_41, eG_41⟩ : ∃ z : Gh, z = aset G_11 (g.2.2 121) (upd (G_11.2.1 (g.2.2 121)) (y2_11 : Int32).toNatClampNeg x_40) := ⟨_, rfl⟩
        have hH : HT g Ty G_41 H := by rw [eG_41]; exact HT.putA (upd (G_11.2.1 (g.2.2 121)) (y2_11 : Int32).toNatClampNeg x_40) hH hk_37.2.2.2.2.2.1 cf30 o_c_39 oq
        obtain ⟨f_42, ef_42⟩ : ∃ z : Nat → Int32, z = (upd fl1_11 (y2_11 : Int32).toNatClampNeg x_40) := ⟨_, rfl⟩
        have eaf_42 : G_41 = aset G_11 (g.2.2 121) f_42 := by rw [eG_41, ef_42, efl1_11]
        have fr_43 : FR [122] [(g.2.2 121)] [] G G_41 := FR.a fr_11 eaf_42 (fun b h => h.1)
        have u_44 : G_41.1 122 = (G_11.1 122) := by rw [eaf_42]; exact rfl
        have w_45 : G_41.2.1 b0 = (G.2.1 b0) := by rw [eaf_42]; exact (aset_ne (ne_kd k_b0 hmk.2.2.2.2.2.1 (by decide))).trans (fr_11.2.1 b0 ⟨(ne_kd k_b0 hmk.2.2.2.2.2.1 (by decide)), trivial⟩)
        have w_46 : G_41.2.1 (g.2.2 121) = f_42 := by rw [eaf_42]; exact aset_eq
        clear oq hz
        obtain ⟨x_47, ex_47⟩ : ∃ y : Int32, y = y2_11 + 1 := ⟨_, rfl⟩
        have rx_47 : rgI (1) (1342) x_47 := by rw [ex_47]; exact rg_w (rg_add r_34 rl_1 (by decide) (by decide)) (by decide) (by decide)
        have qx_47 : x_47.toInt = (y2_11 : Int32).toInt + 1 := by rw [ex_47]; exact rg_addE r_34 rl_1 (by decide) (by decide)
        refine lv_iinc (v := x_47) (lv' := [(2, .int x_47), (0, .ref h0), (1, .ref b0)]) hx hb dX12_remember_33 hl (k := 2) rfl (by rw [ex_47]; rfl) (by decide) rfl (fun ls hl => ?_)
        refine lv_goto (tgt := 11) hx hb dX12_remember_36 (by decide) ?_
        exact ih_11 H locs G_41 f_42 x_47 ls (by rw [u_44]; exact rg_w rg122_11 (by decide) (by decide)) fr_43 w_46 (rg_w rx_47 (by decide) (by decide)) (SH_s hi0_11 r_34 qx_47 ex_38 ex_40 ef_42) hi1_11 (by have h1 := qx_47; have h2 := r_34.1; have h3 := r_34.2; have h4 := hm_11; omega) (lv_sub hl [1, 2, 0] rfl) hH hS
  refine lv_aload_n hx hb dX12_remember_0 rfl (lv_at hl 0 rfl) ?_
  obtain ⟨_, ⟨rfl, t_49, hk_50⟩, o_c_48⟩ := hH h0 _ k_h0
  refine hg_get hx hb hG igX12 hown hK o_c_48 rfl 22 (by decide) (hG _ mw_1306) rfl dX12_remember_1 ?_
  refine lv_bipush (v := 12) hx hb dX12_remember_4 (by decide) ?_
  refine lv_icmp_ne (tgt := 49) hx hb dX12_remember_6 (by decide) (fun c_51 => ?_) (fun c_51 => ?_)
  · have r_52 : rgI (0) (11) (G.1 122) := rg_w (rg_neR hn2 rl_12 c_51) (by decide) (by decide)
    refine lv_aload_n hx hb dX12_remember_49 rfl (lv_at hl 1 rfl) ?_
    refine lv_aload_n hx hb dX12_remember_50 rfl (lv_at hl 0 rfl) ?_
    refine hg_get hx hb hG igX12 hown hK o_c_48 rfl 21 (by decide) (hG _ mw_1305) rfl dX12_remember_51 ?_
    refine lv_bipush (v := 122) hx hb dX12_remember_54 (by decide) ?_
    refine lv_aload_n hx hb dX12_remember_56 rfl (lv_at hl 0 rfl) ?_
    refine hg_get hx hb hG igX12 hown hK o_c_48 rfl 22 (by decide) (hG _ mw_1306) rfl dX12_remember_57 ?_
    refine lv_imul hx hb dX12_remember_60 ?_
    refine lv_topi (fun x_53 ex_53 => ?_)
    have rx_53 : rgI (0) (1342) x_53 := by rw [ex_53]; exact rg_w (rg_mul rl_122 r_52 (by decide) (by decide) (by decide)) (by decide) (by decide)
    refine va_callv (va_runS (As := [.ref b0, .ref (g.2.2 121), .int x_53]) (rest := []) ⟨hx, hb, hml, hown, hts⟩ (c_X12_lay_u l g Ty G s.heap.size b0 (g.2.2 121) x_53 k_b0 (hk_50.2.2.2.2.2.1) (rg_w rx_53 (by decide) (by decide)) (ne_kd k_b0 hmk.2.2.2.2.2.1 (by decide))) (cwSx 3 hts hG (gwC mw_1583) mw_88 mw_1581 mw_1582 rfl rfl rfl hd_X12_lay ⟨Nat.le_of_ble_eq_true rfl, Nat.le_of_ble_eq_true rfl⟩) ⟨PcT_blind, PcT_pre hK hH⟩ rfl rfl hl.1 rfl (lv_room (Nat.le_of_ble_eq_true rfl)) dX12_remember_61 ⟨Nat.zero_le _, Nat.zero_le _⟩) hS (fun q _ h => AF.mono hS.1 h) (fun q h => AF.mono hS.1 h) (fun ux_54 t H locs ht hvm hx_54 hB hz hk hS => ?_)
    obtain ⟨eTx_54, eGx_54⟩ := hx_54
    obtain ⟨G_55, eG_55⟩ : ∃ z, z = ux_54.2 := ⟨_, rfl⟩
    rw [← eG_55] at eGx_54
    obtain ⟨hfr_56, hex_57⟩ := eGx_54
    have fr_58 : FR [122] [(g.2.2 121)] [] G G_55 := FR.tr FR.rf hfr_56 (by decide) (fun b h => ⟨h.1, trivial⟩) (by decide)
    have u_59 : G_55.1 122 = (G.1 122) := (hfr_56.1 122 (by decide))
    have w_60 : G_55.2.1 b0 = (G.2.1 b0) := (hfr_56.2.1 b0 ⟨(ne_kd k_b0 hmk.2.2.2.2.2.1 (by decide)), trivial⟩)
    obtain ⟨f_61, ef_61⟩ : ∃ z : Nat → Int32, G_55.2.1 (g.2.2 121) = z := ⟨_, rfl⟩
    have ly_62 := hex_57
    rw [ef_61] at ly_62
    have hH : HT g Ty G_55 H := by rw [← ht, ← eTx_54, eG_55]; exact hB
    refine lv_aload_n hx hb dX12_remember_64 rfl (lv_at hl 0 rfl) ?_
    refine lv_dup hx hb dX12_remember_65 rfl ?_
    obtain ⟨_, ⟨rfl, t_64, hk_65⟩, o_c_63⟩ := hH h0 _ k_h0
    refine hg_get hx hb hG igX12 hown hK o_c_63 rfl 22 (by decide) (hG _ mw_1306) rfl dX12_remember_66 ?_
    rw [u_59]
    refine lv_iconst (v := 1) hx hb dX12_remember_69 (by decide) ?_
    refine lv_iadd hx hb dX12_remember_70 ?_
    refine lv_topi (fun x_66 ex_66 => ?_)
    have rx_66 : rgI (1) (12) x_66 := by rw [ex_66]; exact rg_w (rg_add r_52 rl_1 (by decide) (by decide)) (by decide) (by decide)
    have qx_66 : x_66.toInt = ((G.1 122) : Int32).toInt + 1 := by rw [ex_66]; exact rg_addE r_52 rl_1 (by decide) (by decide)
    refine hg_put (ty := .int) hx hb hG igX12 tyX12 tyX12_ok nmX12 hown hK hS o_c_63 (AF.of k_h0) rfl 22 (by decide) (hG _ mw_1306) rfl (by decide +kernel) rfl rfl (Nat.le_of_ble_eq_true rfl) dX12_remember_71 (fun H locs o_c_63 hz oq hS => ?_)
    obtain ⟨G_67, eG_67⟩ : ∃ z : Gh, z = gset G_55 122 x_66 := ⟨_, rfl⟩
    have hH : HT g Ty G_67 H := by rw [eG_67]; exact HT.putN 122 x_66 hH k_h0 ⟨rfl, t_64, hk_65⟩ o_c_63 oq (Or.inr (Or.inr (Or.inr (Or.inr (Or.inr ⟨by decide, t_64⟩)))))
    have fr_68 : FR [122] [(g.2.2 121)] [] G G_67 := FR.n fr_58 eG_67 (by decide)
    have u_69 : G_67.1 122 = x_66 := by rw [eG_67]; exact gs_eq
    have w_70 : G_67.2.1 b0 = (G.2.1 b0) := by rw [eG_67]; exact w_60
    have w_71 : G_67.2.1 (g.2.2 121) = f_61 := by rw [eG_67]; exact ef_61
    clear oq hz
    exact W.vret hx hb hr (fun t ht hWm => ⟨⟨(Ty, G_67), rfl, ⟨rfl, ⟨fr_68, ⟨(by rw [u_69]; exact (rg_w rx_66 (by decide) (by decide))), by rw [w_71, u_69]; exact (un_1 hF hU r_52 ex_66 ex_53 ly_62)⟩⟩⟩, by show HT g Ty G_67 t.heap; rw [ht]; exact hH⟩, hS.F ht⟩) hS.2.2 dX12_remember_74
  · have r_72 : rgI (12) (12) (G.1 122) := rg_w (rg_eq rl_12 c_51) (by decide) (by decide)
    refine lv_iconst (v := 0) hx hb dX12_remember_9 (by decide) ?_
    refine lv_istore_n (lv' := [(2, .int 0), (0, .ref h0), (1, .ref b0)]) hx hb dX12_remember_10 rfl hl (by decide) rfl (fun ls hl => ?_)
    exact L_11 _ s.heap [] G (G.2.1 (g.2.2 121)) 0 ls (rg_w r_72 (by decide) (by decide)) FR.rf rfl (rg_w rl_0 (by decide) (by decide)) SH_0 r_72 (Nat.lt_succ_self _) (lv_sub hl [1, 2, 0] rfl) hH hS
