set_option maxHeartbeats 4000000 in
set_option maxRecDepth 100000 in
theorem c_X12_common (l : Launch) (g : Gx) : ∀ (nr : Nat) (Ty : TyM) (G : Gh) (j0 : Int64) (j1 : Int64) (hpb : PB nr j0 j1) (hm : 0 < nr), Met l yX12_common (wsG yX12_common cX12_common 4 (some .long)) ({ frames := 0 + nr, cells := 0, slots := 0, locals := 0 + 23 * nr }) (PcH g Ty G [.long j0, .long j1]) (vp_Sl (fun r => ((¬ j0 = 0 ∨ ¬ j1 = 0) → ¬ r = 0))) 0 0 (fun _ => False) := by
  intro nr
  induction nr with
  | zero => intro Ty G j0 j1 hpb hm; exact absurd hm (Nat.not_lt_zero _)
  | succ nr ihr =>
  intro Ty G j0 j1 hpb hm
  refine Met.ofW (cc := cX12_common) (maxL := 4) (ret := (some .long)) (by decide) rfl ?_
  intro p e s m args below meth c s₁ B hml hv
  obtain ⟨rfl, hK, hH⟩ := hv
  have hx := B.exec
  have hb := B.bytes
  have hr := B.returns
  have hts := atoms_spec (ws := (wsG yX12_common cX12_common 4 (some .long))) B.pre
  have hG : ∀ w ∈ GW, w.before ([.long j0, .long j1] : List Value).toArray s = true := fun w h => hts w (List.mem_cons_of_mem _ h)
  have hown : s.vm.findClass RX12 = some m.cls := findClass_of_methodNamed B.named
  have hlocks := B.notSynchronized
  have hl := lv_entry [.long j0, .long j1] (n := 4) (Nat.le_of_ble_eq_true rfl)
  rw [lg_entry_eq]
  generalize (lg_sl [.long j0, .long j1] ++ List.replicate (4 - (lg_sl [.long j0, .long j1]).length) Slot.unset).toArray = ls at hl ⊢
  have hl : lv_has ls 4 [(0, .long j0), (2, .long j1)] := hl
  refine lv_lload_n hx hb dX12_common_0 rfl (lv_at hl 1 rfl) ?_
  refine lv_lconst (v := 0) hx hb dX12_common_1 (by decide) ?_
  refine W.lcmp hx hb dX12_common_2 ?_
  refine lv_topi (fun x_1 ex_1 => ?_)
  refine lv_if_ne (tgt := 10) hx hb dX12_common_3 (by decide) (fun c_2 => ?_) (fun c_2 => ?_)
  · refine lv_lload_n hx hb dX12_common_10 rfl (lv_at hl 1 rfl) ?_
    refine lv_lload_n hx hb dX12_common_11 rfl (lv_at hl 0 rfl) ?_
    refine lv_lload_n hx hb dX12_common_12 rfl (lv_at hl 1 rfl) ?_
    refine lv_lrem hx hb dX12_common_13 (lc_ne ex_1 c_2) ?_
    refine lv_topl (fun u_3 eu_3 => ?_)
    refine vp_callSl (W.runS (As := [.long j1, .long u_3]) (rest := []) ⟨hx, hb, hml, hown, hts⟩ (ihr Ty G j1 u_3 (PB_s hpb (lc_ne ex_1 c_2) (eu_3.trans rem64)) (PB_s hpb (lc_ne ex_1 c_2) (eu_3.trans rem64)).1) (cwSx 2 hts hG (gwC mw_1828) mw_88 mw_1826 mw_1827 rfl rfl rfl hd_X12_common ⟨Nat.le_refl _, by show 23 + (0 + 23 * nr) ≤ 0 + 23 * (nr + 1); omega⟩) ⟨PcH_blind, PcH_pre hK hH⟩ rfl rfl hl.1 rfl (lv_room (Nat.le_of_ble_eq_true rfl)) dX12_common_14 ⟨Nat.zero_le _, Nat.zero_le _⟩) (fun x_4 hx_4 => ?_)
    exact W.lret hx hb hr (fun t ht hW => ⟨x_4, rfl, (fun _ => hx_4 (Or.inl (lc_ne ex_1 c_2))), ht⟩) (fun q h => by cases h) dX12_common_17
  · have r_5 : rgI (0) (0) x_1 := rg_w (rg_eq rl_0 c_2) (by decide) (by decide)
    refine lv_lload_n hx hb dX12_common_6 rfl (lv_at hl 0 rfl) ?_
    refine lv_goto (tgt := 17) hx hb dX12_common_7 (by decide) ?_
    exact W.lret hx hb hr (fun t ht hW => ⟨j0, rfl, (fun q => q.elim (fun w => w) (fun w => absurd (lc_eq ex_1 c_2) w)), ht⟩) (fun q h => by cases h) dX12_common_17

set_option maxHeartbeats 4000000 in
set_option maxRecDepth 100000 in
theorem c_X12_odds (l : Launch) (g : Gx) (Ty : TyM) (G : Gh) (sz : Nat) (h0 : Nat) (a0 : Int32) (a1 : Int32) (a2 : Int32) (k_h0 : Ty h0 = some (22, 0)) (Bd : Int) (hI : OI g Bd G) (hBd : Bd ≤ 1900000) (hLD : LD g) : Met l yX12_odds (wsG yX12_odds cX12_odds 11 (some .int)) ({ frames := 141, cells := 0, slots := 0, locals := 3243 }) (PcT g Ty G sz [.ref h0, .int a0, .int a1, .int a2]) (QwI g Ty sz (fun r u => u.1 = Ty ∧ FR [104, 105] [] [] G u.2 ∧ OI g (Bd + 1000) u.2)) 0 0 (AF Ty sz) := by
  refine Met.ofW (cc := cX12_odds) (maxL := 11) (ret := (some .int)) (by decide) rfl ?_
  intro p e s m args below meth c s₁ B hml hv
  obtain ⟨rfl, hsz, hK, hH⟩ := hv
  subst hsz
  have hx := B.exec
  have hb := B.bytes
  have hr := B.returns
  have hts := atoms_spec (ws := (wsG yX12_odds cX12_odds 11 (some .int))) B.pre
  have hG : ∀ w ∈ GW, w.before ([.ref h0, .int a0, .int a1, .int a2] : List Value).toArray s = true := fun w h => hts w (List.mem_cons_of_mem _ h)
  have hown : s.vm.findClass RX12 = some m.cls := findClass_of_methodNamed B.named
  have hlocks := B.notSynchronized
  have hl := lv_entry [.ref h0, .int a0, .int a1, .int a2] (n := 11) (Nat.le_of_ble_eq_true rfl)
  rw [lg_entry_eq]
  generalize (lg_sl [.ref h0, .int a0, .int a1, .int a2] ++ List.replicate (11 - (lg_sl [.ref h0, .int a0, .int a1, .int a2]).length) Slot.unset).toArray = ls at hl ⊢
  have hl : lv_has ls 11 [(0, .ref h0), (1, .int a0), (2, .int a1), (3, .int a2)] := hl
  have hmk : mdK g Ty := mdk_of hH k_h0
  have hS : va_S (AF Ty s.heap.size) s.heap s.heap [] := va_S.rf
  obtain ⟨⟨σ0, hTS0⟩, h10, hBB0⟩ := id hI.ti
  obtain ⟨ρ, hT⟩ := hTS0.1
  have L_185 : ∀ (n : Nat) (H : Heap) (locs : List Loc) (G_185 : Gh) (y5_185 : Int64) (y7_185 : Int64) (y9_185 : Int32) (ls : Array Slot), rgI (0) (32) (G_185.1 104) → FR [104, 105] [] [] G G_185 → rgI (0) (17) y9_185 → ¬ y5_185 = 0 → (17 - (y9_185).toInt).toNat < n → lv_has ls 11 [(0, .ref h0), (5, .long y5_185), (7, .long y7_185), (9, .int y9_185)] → HT g Ty G_185 H → va_S (AF Ty s.heap.size) s.heap H locs → Wm p l e (wsG yX12_odds cX12_odds 11 (some .int)) ({ frames := 141, cells := 0, slots := 0, locals := 3243 }) s m [.ref h0, .int a0, .int a1, .int a2] below meth c H locs (0) (0) (QwI g Ty s.heap.size (fun r u => u.1 = Ty ∧ FR [104, 105] [] [] G u.2 ∧ OI g (Bd + 1000) u.2)) 0 0 (AF Ty s.heap.size) (F0 m 185 ls []) := by
    intro n
    induction n with
    | zero => intro H locs G_185 y5_185 y7_185 y9_185 ls rg104_185 frL_185 ry9_185 hi0_185 hm; exact absurd hm (Nat.not_lt_zero _)
    | succ n ih_185 =>
      intro H locs G_185 y5_185 y7_185 y9_185 ls rg104_185 frL_185 ry9_185 hi0_185 hm_185 hl hH hS
      refine lv_iload hx hb dX12_odds_185 (lv_at hl 3 rfl) ?_
      refine lv_bipush (v := 16) hx hb dX12_odds_187 (by decide) ?_
      refine lv_icmp_gt (tgt := 210) hx hb dX12_odds_189 (by decide) (fun c_1 => ?_) (fun c_1 => ?_)
      · have r_2 : rgI (17) (17) y9_185 := rg_w (rg_ltR rl_16 ry9_185 c_1) (by decide) (by decide)
        refine lv_lload hx hb dX12_odds_210 (lv_at hl 2 rfl) ?_
        refine lv_lload hx hb dX12_odds_212 (lv_at hl 1 rfl) ?_
        refine vp_callSl (W.runS (As := [.long y7_185, .long y5_185]) (rest := []) ⟨hx, hb, hml, hown, hts⟩ (c_X12_common l g 140 Ty G_185 y7_185 y5_185 PB_0 (by decide)) (cwSx 2 hts hG (gwC mw_1828) mw_88 mw_1826 mw_1827 rfl rfl rfl hd_X12_common ⟨Nat.le_of_ble_eq_true rfl, Nat.le_of_ble_eq_true rfl⟩) ⟨PcH_blind, PcH_pre hK hH⟩ rfl rfl hl.1 rfl (lv_room (Nat.le_of_ble_eq_true rfl)) dX12_odds_214 ⟨Nat.zero_le _, Nat.zero_le _⟩) (fun x_3 hx_3 => ?_)
        refine lv_lstore (lv' := [(9, .long x_3), (0, .ref h0), (5, .long y5_185), (7, .long y7_185)]) hx hb dX12_odds_217 hl (by decide) rfl (fun ls hl => ?_)
        refine lv_aload_n hx hb dX12_odds_219 rfl (lv_at hl 1 rfl) ?_
        refine lv_iconst (v := 0) hx hb dX12_odds_220 (by decide) ?_
        obtain ⟨_, ⟨rfl, t_5, hk_6⟩, o_c_4⟩ := hH h0 _ k_h0
        refine hg_put (ty := .int) hx hb hG igX12 tyX12 tyX12_ok nmX12 hown hK hS o_c_4 (AF.of k_h0) rfl 4 (by decide) (hG _ mw_1288) rfl (by decide +kernel) rfl rfl (Nat.le_of_ble_eq_true rfl) dX12_odds_221 (fun H locs o_c_4 hz oq hS => ?_)
        obtain ⟨G_7, eG_7⟩ : ∃ z : Gh, z = gset G_185 104 0 := ⟨_, rfl⟩
        have hH : HT g Ty G_7 H := by rw [eG_7]; exact HT.putN 104 0 hH k_h0 ⟨rfl, t_5, hk_6⟩ o_c_4 oq (Or.inr (Or.inr (Or.inr (Or.inr (Or.inr ⟨by decide, t_5⟩)))))
        have fr_8 : FR [104, 105] [] [] G G_7 := FR.n frL_185 eG_7 (by decide)
        have u_9 : G_7.1 102 = (G.1 102) := by rw [eG_7]; exact (gs_ne (by decide)).trans (frL_185.1 102 (by decide))
        have u_10 : G_7.1 113 = (G.1 113) := by rw [eG_7]; exact (gs_ne (by decide)).trans (frL_185.1 113 (by decide))
        have u_11 : G_7.1 122 = (G.1 122) := by rw [eG_7]; exact (gs_ne (by decide)).trans (frL_185.1 122 (by decide))
        have u_12 : G_7.1 133 = (G.1 133) := by rw [eG_7]; exact (gs_ne (by decide)).trans (frL_185.1 133 (by decide))
        have u_13 : G_7.1 137 = (G.1 137) := by rw [eG_7]; exact (gs_ne (by decide)).trans (frL_185.1 137 (by decide))
        have u_14 : G_7.1 104 = 0 := by rw [eG_7]; exact gs_eq
        have w_15 : G_7.2.1 (g.2.2 100) = (G.2.1 (g.2.2 100)) := by rw [eG_7]; exact (frL_185.2.1 (g.2.2 100) trivial)
        have w_16 : G_7.2.1 (g.2.2 121) = (G.2.1 (g.2.2 121)) := by rw [eG_7]; exact (frL_185.2.1 (g.2.2 121) trivial)
        have w_17 : G_7.2.1 (g.2.2 140) = (G.2.1 (g.2.2 140)) := by rw [eG_7]; exact (frL_185.2.1 (g.2.2 140) trivial)
        have w_18 : G_7.2.1 (g.2.2 141) = (G.2.1 (g.2.2 141)) := by rw [eG_7]; exact (frL_185.2.1 (g.2.2 141) trivial)
        have w_19 : G_7.2.1 (g.2.2 111) = (G.2.1 (g.2.2 111)) := by rw [eG_7]; exact (frL_185.2.1 (g.2.2 111) trivial)
        have u_20 : G_7.2.2 111 = some (g.2.2 111) := by rw [eG_7]; exact ((frL_185.2.2 111 (by decide)).trans hI.r111)
        have u_21 : G_7.2.2 112 = some (g.2.2 112) := by rw [eG_7]; exact ((frL_185.2.2 112 (by decide)).trans hI.r112)
        clear oq hz
        refine lv_aload_n hx hb dX12_odds_224 rfl (lv_at hl 1 rfl) ?_
        refine lv_lload hx hb dX12_odds_225 (lv_at hl 3 rfl) ?_
        refine lv_lload hx hb dX12_odds_227 (lv_at hl 0 rfl) ?_
        refine lv_ldiv hx hb dX12_odds_229 (hx_3 (Or.inr hi0_185)) ?_
        refine lv_topl (fun u_22 eu_22 => ?_)
        obtain ⟨_, ⟨rfl, t_24, hk_25⟩, o_c_23⟩ := hH h0 _ k_h0
        refine va_callv (va_runV (As := [.long u_22]) (rest := []) ⟨hx, hb, hml, hown, hts⟩ (c_X12_tell l g Ty G_7 H.size h0 u_22 k_h0 (by rw [u_14]; exact rg_w rl_0 (by decide) (by decide))) (cwV 1 hts (gwV mw_1510 mw_1512 mw_48 mw_88 mw_1513) rfl rfl rfl hv_X12_tell ⟨Nat.le_of_ble_eq_true rfl, Nat.le_of_ble_eq_true rfl⟩) ⟨PcT_blind, hg_recv hK o_c_23 rfl, PcT_pre hK hH⟩ rfl rfl hl.1 rfl (lv_room (Nat.le_of_ble_eq_true rfl)) dX12_odds_230 ⟨Nat.zero_le _, Nat.zero_le _⟩) hS (fun q _ h => AF.mono hS.1 h) (fun q h => AF.mono hS.1 h) (fun ux_26 t H locs ht hvm hx_26 hB hz hk hS => ?_)
        obtain ⟨eTx_26, eGx_26⟩ := hx_26
        obtain ⟨G_27, eG_27⟩ : ∃ z, z = ux_26.2 := ⟨_, rfl⟩
        rw [← eG_27] at eGx_26
        obtain ⟨x_28, ex_28⟩ : ∃ z : Int32, z = 0 + 1 := ⟨_, rfl⟩
        have e_29 : G_27 = gset G_7 104 x_28 := by rw [ex_28, ← u_14]; exact eGx_26
        have rx_28 : rgI (1) (1) x_28 := by rw [ex_28]; exact rg_w (rg_add rl_0 rl_1 (by decide) (by decide)) (by decide) (by decide)
        have fr_30 : FR [104, 105] [] [] G G_27 := FR.n fr_8 e_29 (by decide)
        have u_31 : G_27.1 102 = (G.1 102) := by rw [e_29]; exact (gs_ne (by decide)).trans u_9
        have u_32 : G_27.1 113 = (G.1 113) := by rw [e_29]; exact (gs_ne (by decide)).trans u_10
        have u_33 : G_27.1 122 = (G.1 122) := by rw [e_29]; exact (gs_ne (by decide)).trans u_11
        have u_34 : G_27.1 133 = (G.1 133) := by rw [e_29]; exact (gs_ne (by decide)).trans u_12
        have u_35 : G_27.1 137 = (G.1 137) := by rw [e_29]; exact (gs_ne (by decide)).trans u_13
        have u_36 : G_27.1 104 = x_28 := by rw [e_29]; exact gs_eq
        have w_37 : G_27.2.1 (g.2.2 100) = (G.2.1 (g.2.2 100)) := by rw [e_29]; exact w_15
        have w_38 : G_27.2.1 (g.2.2 121) = (G.2.1 (g.2.2 121)) := by rw [e_29]; exact w_16
        have w_39 : G_27.2.1 (g.2.2 140) = (G.2.1 (g.2.2 140)) := by rw [e_29]; exact w_17
        have w_40 : G_27.2.1 (g.2.2 141) = (G.2.1 (g.2.2 141)) := by rw [e_29]; exact w_18
        have w_41 : G_27.2.1 (g.2.2 111) = (G.2.1 (g.2.2 111)) := by rw [e_29]; exact w_19
        have u_42 : G_27.2.2 111 = some (g.2.2 111) := by rw [e_29]; exact u_20
        have u_43 : G_27.2.2 112 = some (g.2.2 112) := by rw [e_29]; exact u_21
        have hH : HT g Ty G_27 H := by rw [← ht, ← eTx_26, eG_27]; exact hB
        refine lv_aload_n hx hb dX12_odds_233 rfl (lv_at hl 1 rfl) ?_
        refine lv_lload hx hb dX12_odds_234 (lv_at hl 2 rfl) ?_
        refine lv_lload hx hb dX12_odds_236 (lv_at hl 0 rfl) ?_
        refine lv_ldiv hx hb dX12_odds_238 (hx_3 (Or.inr hi0_185)) ?_
        refine lv_topl (fun u_44 eu_44 => ?_)
        obtain ⟨_, ⟨rfl, t_46, hk_47⟩, o_c_45⟩ := hH h0 _ k_h0
        refine va_callv (va_runV (As := [.long u_44]) (rest := []) ⟨hx, hb, hml, hown, hts⟩ (c_X12_tell l g Ty G_27 H.size h0 u_44 k_h0 (by rw [u_36]; exact rg_w rx_28 (by decide) (by decide))) (cwV 1 hts (gwV mw_1510 mw_1512 mw_48 mw_88 mw_1513) rfl rfl rfl hv_X12_tell ⟨Nat.le_of_ble_eq_true rfl, Nat.le_of_ble_eq_true rfl⟩) ⟨PcT_blind, hg_recv hK o_c_45 rfl, PcT_pre hK hH⟩ rfl rfl hl.1 rfl (lv_room (Nat.le_of_ble_eq_true rfl)) dX12_odds_239 ⟨Nat.zero_le _, Nat.zero_le _⟩) hS (fun q _ h => AF.mono hS.1 h) (fun q h => AF.mono hS.1 h) (fun ux_48 t H locs ht hvm hx_48 hB hz hk hS => ?_)
        obtain ⟨eTx_48, eGx_48⟩ := hx_48
        obtain ⟨G_49, eG_49⟩ : ∃ z, z = ux_48.2 := ⟨_, rfl⟩
        rw [← eG_49] at eGx_48
        obtain ⟨x_50, ex_50⟩ : ∃ z : Int32, z = x_28 + 1 := ⟨_, rfl⟩
        have e_51 : G_49 = gset G_27 104 x_50 := by rw [ex_50, ← u_36]; exact eGx_48
        have rx_50 : rgI (2) (2) x_50 := by rw [ex_50]; exact rg_w (rg_add rx_28 rl_1 (by decide) (by decide)) (by decide) (by decide)
        have fr_52 : FR [104, 105] [] [] G G_49 := FR.n fr_30 e_51 (by decide)
        have u_53 : G_49.1 102 = (G.1 102) := by rw [e_51]; exact (gs_ne (by decide)).trans u_31
        have u_54 : G_49.1 113 = (G.1 113) := by rw [e_51]; exact (gs_ne (by decide)).trans u_32
        have u_55 : G_49.1 122 = (G.1 122) := by rw [e_51]; exact (gs_ne (by decide)).trans u_33
        have u_56 : G_49.1 133 = (G.1 133) := by rw [e_51]; exact (gs_ne (by decide)).trans u_34
        have u_57 : G_49.1 137 = (G.1 137) := by rw [e_51]; exact (gs_ne (by decide)).trans u_35
        have u_58 : G_49.1 104 = x_50 := by rw [e_51]; exact gs_eq
        have w_59 : G_49.2.1 (g.2.2 100) = (G.2.1 (g.2.2 100)) := by rw [e_51]; exact w_37
        have w_60 : G_49.2.1 (g.2.2 121) = (G.2.1 (g.2.2 121)) := by rw [e_51]; exact w_38
        have w_61 : G_49.2.1 (g.2.2 140) = (G.2.1 (g.2.2 140)) := by rw [e_51]; exact w_39
        have w_62 : G_49.2.1 (g.2.2 141) = (G.2.1 (g.2.2 141)) := by rw [e_51]; exact w_40
        have w_63 : G_49.2.1 (g.2.2 111) = (G.2.1 (g.2.2 111)) := by rw [e_51]; exact w_41
        have u_64 : G_49.2.2 111 = some (g.2.2 111) := by rw [e_51]; exact u_42
        have u_65 : G_49.2.2 112 = some (g.2.2 112) := by rw [e_51]; exact u_43
        have hH : HT g Ty G_49 H := by rw [← ht, ← eTx_48, eG_49]; exact hB
        refine lv_iconst (v := 0) hx hb dX12_odds_242 (by decide) ?_
        exact W.iret hx hb hr (fun t ht hWm => ⟨⟨0, (Ty, G_49), rfl, ⟨rfl, ⟨fr_52, ⟨(by rw [u_53]; exact (rg_w hI.a102 (by decide) (by decide))), (by rw [u_58]; exact (rg_w rx_50 (by decide) (by decide))), (by rw [u_54]; exact (rg_w hI.a113 (by decide) (by decide))), (by rw [u_55]; exact (rg_w hI.a122 (by decide) (by decide))), (by rw [u_56]; exact (rg_w hI.a133 (by decide) (by decide))), (by rw [u_57]; exact (rg_w hI.a137 (by decide) (by decide))), u_64, u_65, (by rw [w_59]; exact (hI.ti.hi (show Bd ≤ Bd + 1000 by omega))), (hI.un2 (show Bd ≤ Bd + 1000 by omega) w_60 u_55), (hI.ke2 (show Bd ≤ Bd + 1000 by omega) w_61 w_62)⟩⟩⟩, by show HT g Ty G_49 t.heap; rw [ht]; exact hH⟩, hS.F ht⟩) hS.2.2 dX12_odds_243
      · have r_66 : rgI (0) (16) y9_185 := rg_w (rg_leL ry9_185 rl_16 (nlt_le c_1)) (by decide) (by decide)
        refine lv_lload hx hb dX12_odds_192 (lv_at hl 2 rfl) ?_
        refine lv_aload_n hx hb dX12_odds_194 rfl (lv_at hl 0 rfl) ?_
        obtain ⟨_, ⟨rfl, t_68, hk_69⟩, o_c_67⟩ := hH h0 _ k_h0
        refine hg_get hx hb hG igX12 hown hK o_c_67 rfl 38 (by decide) (hG _ mw_1322) rfl dX12_odds_195 ?_
        refine lv_iload hx hb dX12_odds_198 (lv_at hl 3 rfl) ?_
        obtain ⟨_, ⟨f_71, rfl⟩, o_c_70⟩ := hH (g.2.2 138) _ hk_69.2.2.2.2.2.2.2.2.2.2.2.2.2.2.2.2.2.1
        refine hg_lald hx hb hK o_c_70 (rg_in (n := 17) r_66 (by decide) (by decide)) dX12_odds_200 ?_
        refine lv_topl (fun u_72 eu_72 => ?_)
        refine lv_ladd hx hb dX12_odds_201 ?_
        refine lv_topl (fun u_73 eu_73 => ?_)
        refine lv_lstore (lv' := [(7, .long u_73), (0, .ref h0), (5, .long y5_185), (9, .int y9_185)]) hx hb dX12_odds_202 hl (by decide) rfl (fun ls hl => ?_)
        obtain ⟨x_74, ex_74⟩ : ∃ y : Int32, y = y9_185 + 1 := ⟨_, rfl⟩
        have rx_74 : rgI (1) (17) x_74 := by rw [ex_74]; exact rg_w (rg_add r_66 rl_1 (by decide) (by decide)) (by decide) (by decide)
        have qx_74 : x_74.toInt = (y9_185 : Int32).toInt + 1 := by rw [ex_74]; exact rg_addE r_66 rl_1 (by decide) (by decide)
        refine lv_iinc (v := x_74) (lv' := [(9, .int x_74), (7, .long u_73), (0, .ref h0), (5, .long y5_185)]) hx hb dX12_odds_204 hl (k := 3) rfl (by rw [ex_74]; rfl) (by decide) rfl (fun ls hl => ?_)
        refine lv_goto (tgt := 185) hx hb dX12_odds_207 (by decide) ?_
        exact ih_185 H locs G_185 y5_185 u_73 x_74 ls (rg_w rg104_185 (by decide) (by decide)) frL_185 (rg_w rx_74 (by decide) (by decide)) hi0_185 (by have h1 := qx_74; have h2 := r_66.1; have h3 := r_66.2; have h4 := hm_185; omega) (lv_sub hl [2, 3, 1, 0] rfl) hH hS
  have L_101 : ∀ (n : Nat) (H : Heap) (locs : List Loc) (G_101 : Gh) (y4_101 : Int32) (y5_101 : Int64) (y7_101 : Int32) (ls : Array Slot), rgI (0) (32) (G_101.1 104) → FR [104, 105] [] [] G G_101 → rgI (0) (16) a1 → rgI (0) (10) a2 → rgI (-1) (16) y4_101 → rgI (0) (16) y7_101 → (y5_101 : Int64).toInt = 10 ^ (y7_101 : Int32).toNatClampNeg → (16 - (y7_101).toInt).toNat < n → lv_has ls 11 [(0, .ref h0), (2, .int a1), (3, .int a2), (4, .int y4_101), (5, .long y5_101), (7, .int y7_101)] → HT g Ty G_101 H → va_S (AF Ty s.heap.size) s.heap H locs → Wm p l e (wsG yX12_odds cX12_odds 11 (some .int)) ({ frames := 141, cells := 0, slots := 0, locals := 3243 }) s m [.ref h0, .int a0, .int a1, .int a2] below meth c H locs (0) (0) (QwI g Ty s.heap.size (fun r u => u.1 = Ty ∧ FR [104, 105] [] [] G u.2 ∧ OI g (Bd + 1000) u.2)) 0 0 (AF Ty s.heap.size) (F0 m 101 ls []) := by
    intro n
    induction n with
    | zero => intro H locs G_101 y4_101 y5_101 y7_101 ls rg104_101 frL_101 ry2_101 ry3_101 ry4_101 ry7_101 hi0_101 hm; exact absurd hm (Nat.not_lt_zero _)
    | succ n ih_101 =>
      intro H locs G_101 y4_101 y5_101 y7_101 ls rg104_101 frL_101 ry2_101 ry3_101 ry4_101 ry7_101 hi0_101 hm_101 hl hH hS
      have L_120 : ∀ (n : Nat) (H : Heap) (locs : List Loc) (G_120 : Gh) (y5_120 : Int64) (y8_120 : Int32) (ls : Array Slot), rgI (0) (32) (G_120.1 104) → FR [104, 105] [] [] G G_120 → rgI (0) (16) a1 → rgI (0) (10) a2 → rgI (1) (16) y4_101 → rgI (0) (15) y7_101 → rgI (-1) (16) y8_120 → (y5_120 : Int64).toInt = 10 ^ ((y7_101 : Int32).toNatClampNeg + 1) → ((y8_120).toInt - (-1)).toNat < n → lv_has ls 11 [(0, .ref h0), (2, .int a1), (3, .int a2), (4, .int y4_101), (5, .long y5_120), (7, .int y7_101), (8, .int y8_120)] → HT g Ty G_120 H → va_S (AF Ty s.heap.size) s.heap H locs → Wm p l e (wsG yX12_odds cX12_odds 11 (some .int)) ({ frames := 141, cells := 0, slots := 0, locals := 3243 }) s m [.ref h0, .int a0, .int a1, .int a2] below meth c H locs (0) (0) (QwI g Ty s.heap.size (fun r u => u.1 = Ty ∧ FR [104, 105] [] [] G u.2 ∧ OI g (Bd + 1000) u.2)) 0 0 (AF Ty s.heap.size) (F0 m 120 ls []) := by
        intro n
        induction n with
        | zero => intro H locs G_120 y5_120 y8_120 ls rg104_120 frL_120 ry2_120 ry3_120 ry4_120 ry7_120 ry8_120 hi0_120 hm; exact absurd hm (Nat.not_lt_zero _)
        | succ n ih_120 =>
          intro H locs G_120 y5_120 y8_120 ls rg104_120 frL_120 ry2_120 ry3_120 ry4_120 ry7_120 ry8_120 hi0_120 hm_120 hl hH hS
          refine lv_iload hx hb dX12_odds_120 (lv_at hl 6 rfl) ?_
          refine lv_if_lt (tgt := 173) hx hb dX12_odds_122 (by decide) (fun c_75 => ?_) (fun c_75 => ?_)
          · have r_76 : rgI (-1) (-1) y8_120 := rg_w (rg_ltL ry8_120 rl_0 c_75) (by decide) (by decide)
            obtain ⟨x_77, ex_77⟩ : ∃ y : Int32, y = y7_101 + 1 := ⟨_, rfl⟩
            have rx_77 : rgI (1) (16) x_77 := by rw [ex_77]; exact rg_w (rg_add ry7_120 rl_1 (by decide) (by decide)) (by decide) (by decide)
            have qx_77 : x_77.toInt = (y7_101 : Int32).toInt + 1 := by rw [ex_77]; exact rg_addE ry7_120 rl_1 (by decide) (by decide)
            refine lv_iinc (v := x_77) (lv' := [(7, .int x_77), (0, .ref h0), (2, .int a1), (3, .int a2), (4, .int y4_101), (5, .long y5_120), (8, .int y8_120)]) hx hb dX12_odds_173 hl (k := 5) rfl (by rw [ex_77]; rfl) (by decide) rfl (fun ls hl => ?_)
            refine lv_goto (tgt := 101) hx hb dX12_odds_176 (by decide) ?_
            exact ih_101 H locs G_120 y4_101 y5_120 x_77 ls (rg_w rg104_120 (by decide) (by decide)) frL_120 ry2_120 ry3_120 (rg_w ry4_120 (by decide) (by decide)) (rg_w rx_77 (by decide) (by decide)) (pw_b hi0_120 ry7_120 qx_77) (by have h1 := qx_77; have h2 := ry7_120.1; have h3 := ry7_120.2; have h4 := hm_101; omega) (lv_sub hl [1, 2, 3, 4, 5, 0] rfl) hH hS
          · have r_78 : rgI (0) (16) y8_120 := rg_w (rg_leR rl_0 ry8_120 (nlt_le c_75)) (by decide) (by decide)
            refine lv_aload_n hx hb dX12_odds_125 rfl (lv_at hl 0 rfl) ?_
            obtain ⟨_, ⟨rfl, t_80, hk_81⟩, o_c_79⟩ := hH h0 _ k_h0
            refine hg_get hx hb hG igX12 hown hK o_c_79 rfl 38 (by decide) (hG _ mw_1322) rfl dX12_odds_126 ?_
            refine lv_iload hx hb dX12_odds_129 (lv_at hl 6 rfl) ?_
            refine lv_aload_n hx hb dX12_odds_131 rfl (lv_at hl 0 rfl) ?_
            refine hg_get hx hb hG igX12 hown hK o_c_79 rfl 38 (by decide) (hG _ mw_1322) rfl dX12_odds_132 ?_
            refine lv_iload hx hb dX12_odds_135 (lv_at hl 6 rfl) ?_
            obtain ⟨_, ⟨f_83, rfl⟩, o_c_82⟩ := hH (g.2.2 138) _ hk_81.2.2.2.2.2.2.2.2.2.2.2.2.2.2.2.2.2.1
            refine hg_lald hx hb hK o_c_82 (rg_in (n := 17) r_78 (by decide) (by decide)) dX12_odds_137 ?_
            refine lv_topl (fun u_84 eu_84 => ?_)
            refine lv_bipush (v := 10) hx hb dX12_odds_138 (by decide) ?_
            refine lv_iload_n hx hb dX12_odds_140 rfl (lv_at hl 2 rfl) ?_
            refine lv_isub hx hb dX12_odds_141 ?_
            refine lv_topi (fun x_85 ex_85 => ?_)
            have rx_85 : rgI (0) (10) x_85 := by rw [ex_85]; exact rg_w (rg_sub rl_10 ry3_120 (by decide) (by decide)) (by decide) (by decide)
            refine lv_i2l hx hb dX12_odds_142 rfl ?_
            refine lv_topl (fun u_86 eu_86 => ?_)
            refine lv_lmul hx hb dX12_odds_143 ?_
            refine lv_topl (fun u_87 eu_87 => ?_)
            refine lv_iload hx hb dX12_odds_144 (lv_at hl 6 rfl) ?_
            refine lv_if_le (tgt := 164) hx hb dX12_odds_146 (by decide) (fun c_88 => ?_) (fun c_88 => ?_)
            · have r_89 : rgI (0) (0) y8_120 := rg_w (rg_leL r_78 rl_0 c_88) (by decide) (by decide)
              refine lv_lconst (v := 0) hx hb dX12_odds_164 (by decide) ?_
              refine lv_ladd hx hb dX12_odds_165 ?_
              refine lv_topl (fun u_90 eu_90 => ?_)
              refine hg_last hx hb hK hS o_c_82 (AF.of hk_81.2.2.2.2.2.2.2.2.2.2.2.2.2.2.2.2.2.1) (rg_in (n := 17) r_89 (by decide) (by decide)) dX12_odds_166 (fun H locs o_c_82 hz oq hS => ?_)
              generalize hff_91 : vp_updL f_83 _ u_90 = f_91 at o_c_82
              have hH : HT g Ty G_120 H := hH.put hk_81.2.2.2.2.2.2.2.2.2.2.2.2.2.2.2.2.2.1 ⟨_, rfl⟩ o_c_82 oq
              have o_c_79 := o_c_79.kept (oq _ (ne_kd k_h0 hk_81.2.2.2.2.2.2.2.2.2.2.2.2.2.2.2.2.2.1 (by decide)))
              clear oq hz
              obtain ⟨x_92, ex_92⟩ : ∃ y : Int32, y = y8_120 + (-1) := ⟨_, rfl⟩
              have rx_92 : rgI (-1) (-1) x_92 := by rw [ex_92]; exact rg_w (rg_add r_89 rl_m1 (by decide) (by decide)) (by decide) (by decide)
              have qx_92 : x_92.toInt = (y8_120 : Int32).toInt + (-1) := by rw [ex_92]; exact rg_addE r_89 rl_m1 (by decide) (by decide)
              refine lv_iinc (v := x_92) (lv' := [(8, .int x_92), (0, .ref h0), (2, .int a1), (3, .int a2), (4, .int y4_101), (5, .long y5_120), (7, .int y7_101)]) hx hb dX12_odds_167 hl (k := 6) rfl (by rw [ex_92]; rfl) (by decide) rfl (fun ls hl => ?_)
              refine lv_goto (tgt := 120) hx hb dX12_odds_170 (by decide) ?_
              exact ih_120 H locs G_120 y5_120 x_92 ls (rg_w rg104_120 (by decide) (by decide)) frL_120 ry2_120 ry3_120 ry4_120 ry7_120 (rg_w rx_92 (by decide) (by decide)) hi0_120 (by have h1 := qx_92; have h2 := r_89.1; have h3 := r_89.2; have h4 := hm_120; omega) (lv_sub hl [1, 2, 3, 4, 5, 6, 0] rfl) hH hS
            · have r_93 : rgI (1) (16) y8_120 := rg_w (rg_ltR rl_0 r_78 (nle_lt c_88)) (by decide) (by decide)
              refine lv_aload_n hx hb dX12_odds_149 rfl (lv_at hl 0 rfl) ?_
              refine hg_get hx hb hG igX12 hown hK o_c_79 rfl 38 (by decide) (hG _ mw_1322) rfl dX12_odds_150 ?_
              refine lv_iload hx hb dX12_odds_153 (lv_at hl 6 rfl) ?_
              refine lv_iconst (v := 1) hx hb dX12_odds_155 (by decide) ?_
              refine lv_isub hx hb dX12_odds_156 ?_
              refine lv_topi (fun x_94 ex_94 => ?_)
              have rx_94 : rgI (0) (15) x_94 := by rw [ex_94]; exact rg_w (rg_sub r_93 rl_1 (by decide) (by decide)) (by decide) (by decide)
              refine hg_lald hx hb hK o_c_82 (rg_in (n := 17) rx_94 (by decide) (by decide)) dX12_odds_157 ?_
              refine lv_topl (fun u_95 eu_95 => ?_)
              refine lv_iload_n hx hb dX12_odds_158 rfl (lv_at hl 2 rfl) ?_
              refine lv_i2l hx hb dX12_odds_159 rfl ?_
              refine lv_topl (fun u_96 eu_96 => ?_)
              refine lv_lmul hx hb dX12_odds_160 ?_
              refine lv_topl (fun u_97 eu_97 => ?_)
              refine lv_goto (tgt := 165) hx hb dX12_odds_161 (by decide) ?_
              refine lv_ladd hx hb dX12_odds_165 ?_
              refine lv_topl (fun u_98 eu_98 => ?_)
              refine hg_last hx hb hK hS o_c_82 (AF.of hk_81.2.2.2.2.2.2.2.2.2.2.2.2.2.2.2.2.2.1) (rg_in (n := 17) r_93 (by decide) (by decide)) dX12_odds_166 (fun H locs o_c_82 hz oq hS => ?_)
              generalize hff_99 : vp_updL f_83 _ u_98 = f_99 at o_c_82
              have hH : HT g Ty G_120 H := hH.put hk_81.2.2.2.2.2.2.2.2.2.2.2.2.2.2.2.2.2.1 ⟨_, rfl⟩ o_c_82 oq
              have o_c_79 := o_c_79.kept (oq _ (ne_kd k_h0 hk_81.2.2.2.2.2.2.2.2.2.2.2.2.2.2.2.2.2.1 (by decide)))
              clear oq hz
              obtain ⟨x_100, ex_100⟩ : ∃ y : Int32, y = y8_120 + (-1) := ⟨_, rfl⟩
              have rx_100 : rgI (0) (15) x_100 := by rw [ex_100]; exact rg_w (rg_add r_93 rl_m1 (by decide) (by decide)) (by decide) (by decide)
              have qx_100 : x_100.toInt = (y8_120 : Int32).toInt + (-1) := by rw [ex_100]; exact rg_addE r_93 rl_m1 (by decide) (by decide)
              refine lv_iinc (v := x_100) (lv' := [(8, .int x_100), (0, .ref h0), (2, .int a1), (3, .int a2), (4, .int y4_101), (5, .long y5_120), (7, .int y7_101)]) hx hb dX12_odds_167 hl (k := 6) rfl (by rw [ex_100]; rfl) (by decide) rfl (fun ls hl => ?_)
              refine lv_goto (tgt := 120) hx hb dX12_odds_170 (by decide) ?_
              exact ih_120 H locs G_120 y5_120 x_100 ls (rg_w rg104_120 (by decide) (by decide)) frL_120 ry2_120 ry3_120 ry4_120 ry7_120 (rg_w rx_100 (by decide) (by decide)) hi0_120 (by have h1 := qx_100; have h2 := r_93.1; have h3 := r_93.2; have h4 := hm_120; omega) (lv_sub hl [1, 2, 3, 4, 5, 6, 0] rfl) hH hS
      refine lv_iload hx hb dX12_odds_101 (lv_at hl 5 rfl) ?_
      refine lv_iload hx hb dX12_odds_103 (lv_at hl 3 rfl) ?_
      refine lv_icmp_ge (tgt := 179) hx hb dX12_odds_105 (by decide) (fun c_101 => ?_) (fun c_101 => ?_)
      · refine lv_lconst (v := 0) hx hb dX12_odds_179 (by decide) ?_
        refine lv_lstore (lv' := [(7, .long 0), (0, .ref h0), (2, .int a1), (3, .int a2), (4, .int y4_101), (5, .long y5_101)]) hx hb dX12_odds_180 hl (by decide) rfl (fun ls hl => ?_)
        refine lv_iload_n hx hb dX12_odds_182 rfl (lv_at hl 2 rfl) ?_
        refine lv_istore (lv' := [(9, .int a1), (7, .long 0), (0, .ref h0), (2, .int a1), (3, .int a2), (4, .int y4_101), (5, .long y5_101)]) hx hb dX12_odds_183 hl (by decide) rfl (fun ls hl => ?_)
        exact L_185 _ H locs G_101 y5_101 0 a1 ls (rg_w rg104_101 (by decide) (by decide)) frL_101 (rg_w ry2_101 (by decide) (by decide)) (pw_n hi0_101) (Nat.lt_succ_self _) (lv_sub hl [2, 6, 1, 0] rfl) hH hS
      · have r_102 : rgI (0) (15) y7_101 := rg_w (rg_ltL ry7_101 ry4_101 (nle_lt c_101)) (by decide) (by decide)
        have r_103 : rgI (1) (16) y4_101 := rg_w (rg_ltR ry7_101 ry4_101 (nle_lt c_101)) (by decide) (by decide)
        refine lv_lload hx hb dX12_odds_108 (lv_at hl 4 rfl) ?_
        refine lv_ldc2 (v := 10) hx hb hown (hG _ mw_1825) dX12_odds_110 ?_
        refine lv_lmul hx hb dX12_odds_113 ?_
        refine lv_topl (fun u_104 eu_104 => ?_)
        refine lv_lstore (lv' := [(5, .long u_104), (0, .ref h0), (2, .int a1), (3, .int a2), (4, .int y4_101), (7, .int y7_101)]) hx hb dX12_odds_114 hl (by decide) rfl (fun ls hl => ?_)
        refine lv_bipush (v := 16) hx hb dX12_odds_116 (by decide) ?_
        refine lv_istore (lv' := [(8, .int 16), (5, .long u_104), (0, .ref h0), (2, .int a1), (3, .int a2), (4, .int y4_101), (7, .int y7_101)]) hx hb dX12_odds_118 hl (by decide) rfl (fun ls hl => ?_)
        exact L_120 _ H locs G_101 u_104 16 ls (rg_w rg104_101 (by decide) (by decide)) frL_101 ry2_101 ry3_101 r_103 r_102 (rg_w rl_16 (by decide) (by decide)) (pw_a hi0_101 r_102 eu_104) (Nat.lt_succ_self _) (lv_sub hl [2, 3, 4, 5, 1, 6, 0] rfl) hH hS
  have L_65 : ∀ (n : Nat) (H : Heap) (locs : List Loc) (G_65 : Gh) (y4_65 : Int32) (y5_65 : Int32) (ls : Array Slot), rgI (0) (32) (G_65.1 104) → FR [104, 105] [] [] G G_65 → rgI (0) (16) a1 → rgI (0) (10) a2 → rgI (-1) (16) y4_65 → rgI (0) (17) y5_65 → (17 - (y5_65).toInt).toNat < n → lv_has ls 11 [(0, .ref h0), (2, .int a1), (3, .int a2), (4, .int y4_65), (5, .int y5_65)] → HT g Ty G_65 H → va_S (AF Ty s.heap.size) s.heap H locs → Wm p l e (wsG yX12_odds cX12_odds 11 (some .int)) ({ frames := 141, cells := 0, slots := 0, locals := 3243 }) s m [.ref h0, .int a0, .int a1, .int a2] below meth c H locs (0) (0) (QwI g Ty s.heap.size (fun r u => u.1 = Ty ∧ FR [104, 105] [] [] G u.2 ∧ OI g (Bd + 1000) u.2)) 0 0 (AF Ty s.heap.size) (F0 m 65 ls []) := by
    intro n
    induction n with
    | zero => intro H locs G_65 y4_65 y5_65 ls rg104_65 frL_65 ry2_65 ry3_65 ry4_65 ry5_65 hm; exact absurd hm (Nat.not_lt_zero _)
    | succ n ih_65 =>
      intro H locs G_65 y4_65 y5_65 ls rg104_65 frL_65 ry2_65 ry3_65 ry4_65 ry5_65 hm_65 hl hH hS
      refine lv_iload hx hb dX12_odds_65 (lv_at hl 4 rfl) ?_
      refine lv_bipush (v := 16) hx hb dX12_odds_67 (by decide) ?_
      refine lv_icmp_gt (tgt := 95) hx hb dX12_odds_69 (by decide) (fun c_105 => ?_) (fun c_105 => ?_)
      · have r_106 : rgI (17) (17) y5_65 := rg_w (rg_ltR rl_16 ry5_65 c_105) (by decide) (by decide)
        refine lv_lconst (v := 1) hx hb dX12_odds_95 (by decide) ?_
        refine lv_lstore (lv' := [(5, .long 1), (0, .ref h0), (2, .int a1), (3, .int a2), (4, .int y4_65)]) hx hb dX12_odds_96 hl (by decide) rfl (fun ls hl => ?_)
        refine lv_iconst (v := 0) hx hb dX12_odds_98 (by decide) ?_
        refine lv_istore (lv' := [(7, .int 0), (5, .long 1), (0, .ref h0), (2, .int a1), (3, .int a2), (4, .int y4_65)]) hx hb dX12_odds_99 hl (by decide) rfl (fun ls hl => ?_)
        exact L_101 _ H locs G_65 y4_65 1 0 ls (rg_w rg104_65 (by decide) (by decide)) frL_65 ry2_65 ry3_65 ry4_65 (rg_w rl_0 (by decide) (by decide)) rfl (Nat.lt_succ_self _) (lv_sub hl [2, 3, 4, 5, 1, 0] rfl) hH hS
      · have r_107 : rgI (0) (16) y5_65 := rg_w (rg_leL ry5_65 rl_16 (nlt_le c_105)) (by decide) (by decide)
        refine lv_aload_n hx hb dX12_odds_72 rfl (lv_at hl 0 rfl) ?_
        obtain ⟨_, ⟨rfl, t_109, hk_110⟩, o_c_108⟩ := hH h0 _ k_h0
        refine hg_get hx hb hG igX12 hown hK o_c_108 rfl 38 (by decide) (hG _ mw_1322) rfl dX12_odds_73 ?_
        refine lv_iload hx hb dX12_odds_76 (lv_at hl 4 rfl) ?_
        refine lv_iload hx hb dX12_odds_78 (lv_at hl 4 rfl) ?_
        refine lv_if_ne (tgt := 87) hx hb dX12_odds_80 (by decide) (fun c_111 => ?_) (fun c_111 => ?_)
        · have r_112 : rgI (1) (16) y5_65 := rg_w (rg_neL r_107 rl_0 c_111) (by decide) (by decide)
          refine lv_lconst (v := 0) hx hb dX12_odds_87 (by decide) ?_
          obtain ⟨_, ⟨f_114, rfl⟩, o_c_113⟩ := hH (g.2.2 138) _ hk_110.2.2.2.2.2.2.2.2.2.2.2.2.2.2.2.2.2.1
          refine hg_last hx hb hK hS o_c_113 (AF.of hk_110.2.2.2.2.2.2.2.2.2.2.2.2.2.2.2.2.2.1) (rg_in (n := 17) r_112 (by decide) (by decide)) dX12_odds_88 (fun H locs o_c_113 hz oq hS => ?_)
          generalize hff_115 : vp_updL f_114 _ 0 = f_115 at o_c_113
          have hH : HT g Ty G_65 H := hH.put hk_110.2.2.2.2.2.2.2.2.2.2.2.2.2.2.2.2.2.1 ⟨_, rfl⟩ o_c_113 oq
          have o_c_108 := o_c_108.kept (oq _ (ne_kd k_h0 hk_110.2.2.2.2.2.2.2.2.2.2.2.2.2.2.2.2.2.1 (by decide)))
          clear oq hz
          obtain ⟨x_116, ex_116⟩ : ∃ y : Int32, y = y5_65 + 1 := ⟨_, rfl⟩
          have rx_116 : rgI (2) (17) x_116 := by rw [ex_116]; exact rg_w (rg_add r_112 rl_1 (by decide) (by decide)) (by decide) (by decide)
          have qx_116 : x_116.toInt = (y5_65 : Int32).toInt + 1 := by rw [ex_116]; exact rg_addE r_112 rl_1 (by decide) (by decide)
          refine lv_iinc (v := x_116) (lv' := [(5, .int x_116), (0, .ref h0), (2, .int a1), (3, .int a2), (4, .int y4_65)]) hx hb dX12_odds_89 hl (k := 4) rfl (by rw [ex_116]; rfl) (by decide) rfl (fun ls hl => ?_)
          refine lv_goto (tgt := 65) hx hb dX12_odds_92 (by decide) ?_
          exact ih_65 H locs G_65 y4_65 x_116 ls (rg_w rg104_65 (by decide) (by decide)) frL_65 ry2_65 ry3_65 ry4_65 (rg_w rx_116 (by decide) (by decide)) (by have h1 := qx_116; have h2 := r_112.1; have h3 := r_112.2; have h4 := hm_65; omega) (lv_sub hl [1, 2, 3, 4, 0] rfl) hH hS
        · have r_117 : rgI (0) (0) y5_65 := rg_w (rg_eq rl_0 c_111) (by decide) (by decide)
          refine lv_lconst (v := 1) hx hb dX12_odds_83 (by decide) ?_
          refine lv_goto (tgt := 88) hx hb dX12_odds_84 (by decide) ?_
          obtain ⟨_, ⟨f_119, rfl⟩, o_c_118⟩ := hH (g.2.2 138) _ hk_110.2.2.2.2.2.2.2.2.2.2.2.2.2.2.2.2.2.1
          refine hg_last hx hb hK hS o_c_118 (AF.of hk_110.2.2.2.2.2.2.2.2.2.2.2.2.2.2.2.2.2.1) (rg_in (n := 17) r_117 (by decide) (by decide)) dX12_odds_88 (fun H locs o_c_118 hz oq hS => ?_)
          generalize hff_120 : vp_updL f_119 _ 1 = f_120 at o_c_118
          have hH : HT g Ty G_65 H := hH.put hk_110.2.2.2.2.2.2.2.2.2.2.2.2.2.2.2.2.2.1 ⟨_, rfl⟩ o_c_118 oq
          have o_c_108 := o_c_108.kept (oq _ (ne_kd k_h0 hk_110.2.2.2.2.2.2.2.2.2.2.2.2.2.2.2.2.2.1 (by decide)))
          clear oq hz
          obtain ⟨x_121, ex_121⟩ : ∃ y : Int32, y = y5_65 + 1 := ⟨_, rfl⟩
          have rx_121 : rgI (1) (1) x_121 := by rw [ex_121]; exact rg_w (rg_add r_117 rl_1 (by decide) (by decide)) (by decide) (by decide)
          have qx_121 : x_121.toInt = (y5_65 : Int32).toInt + 1 := by rw [ex_121]; exact rg_addE r_117 rl_1 (by decide) (by decide)
          refine lv_iinc (v := x_121) (lv' := [(5, .int x_121), (0, .ref h0), (2, .int a1), (3, .int a2), (4, .int y4_65)]) hx hb dX12_odds_89 hl (k := 4) rfl (by rw [ex_121]; rfl) (by decide) rfl (fun ls hl => ?_)
          refine lv_goto (tgt := 65) hx hb dX12_odds_92 (by decide) ?_
          exact ih_65 H locs G_65 y4_65 x_121 ls (rg_w rg104_65 (by decide) (by decide)) frL_65 ry2_65 ry3_65 ry4_65 (rg_w rx_121 (by decide) (by decide)) (by have h1 := qx_121; have h2 := r_117.1; have h3 := r_117.2; have h4 := hm_65; omega) (lv_sub hl [1, 2, 3, 4, 0] rfl) hH hS
  refine lv_aload_n hx hb dX12_odds_0 rfl (lv_at hl 0 rfl) ?_
  refine lv_iconst (v := 0) hx hb dX12_odds_1 (by decide) ?_
  obtain ⟨_, ⟨rfl, t_123, hk_124⟩, o_c_122⟩ := hH h0 _ k_h0
  refine hg_put (ty := .int) hx hb hG igX12 tyX12 tyX12_ok nmX12 hown hK hS o_c_122 (AF.of k_h0) rfl 5 (by decide) (hG _ mw_1289) rfl (by decide +kernel) rfl rfl (Nat.le_of_ble_eq_true rfl) dX12_odds_2 (fun H locs o_c_122 hz oq hS => ?_)
  obtain ⟨G_125, eG_125⟩ : ∃ z : Gh, z = gset G 105 0 := ⟨_, rfl⟩
  have hH : HT g Ty G_125 H := by rw [eG_125]; exact HT.putN 105 0 hH k_h0 ⟨rfl, t_123, hk_124⟩ o_c_122 oq (Or.inr (Or.inr (Or.inr (Or.inr (Or.inr ⟨by decide, t_123⟩)))))
  have fr_126 : FR [104, 105] [] [] G G_125 := FR.n FR.rf eG_125 (by decide)
  have u_127 : G_125.1 102 = (G.1 102) := by rw [eG_125]; exact (gs_ne (by decide))
  have u_128 : G_125.1 104 = (G.1 104) := by rw [eG_125]; exact (gs_ne (by decide))
  have u_129 : G_125.1 113 = (G.1 113) := by rw [eG_125]; exact (gs_ne (by decide))
  have u_130 : G_125.1 122 = (G.1 122) := by rw [eG_125]; exact (gs_ne (by decide))
  have u_131 : G_125.1 133 = (G.1 133) := by rw [eG_125]; exact (gs_ne (by decide))
  have u_132 : G_125.1 137 = (G.1 137) := by rw [eG_125]; exact (gs_ne (by decide))
  have u_133 : G_125.1 105 = 0 := by rw [eG_125]; exact gs_eq
  have w_134 : G_125.2.1 (g.2.2 100) = (G.2.1 (g.2.2 100)) := by rw [eG_125]; exact rfl
  have w_135 : G_125.2.1 (g.2.2 121) = (G.2.1 (g.2.2 121)) := by rw [eG_125]; exact rfl
  have w_136 : G_125.2.1 (g.2.2 140) = (G.2.1 (g.2.2 140)) := by rw [eG_125]; exact rfl
  have w_137 : G_125.2.1 (g.2.2 141) = (G.2.1 (g.2.2 141)) := by rw [eG_125]; exact rfl
  have w_138 : G_125.2.1 (g.2.2 111) = (G.2.1 (g.2.2 111)) := by rw [eG_125]; exact rfl
  have u_139 : G_125.2.2 111 = some (g.2.2 111) := by rw [eG_125]; exact hI.r111
  have u_140 : G_125.2.2 112 = some (g.2.2 112) := by rw [eG_125]; exact hI.r112
  clear oq hz
  refine lv_aload_n hx hb dX12_odds_5 rfl (lv_at hl 0 rfl) ?_
  obtain ⟨_, ⟨rfl, t_142, hk_143⟩, o_c_141⟩ := hH h0 _ k_h0
  refine hg_get hx hb hG igX12 hown hK o_c_141 rfl 0 (by decide) (hG _ mw_1284) rfl dX12_odds_6 ?_
  refine lv_iload_n hx hb dX12_odds_9 rfl (lv_at hl 1 rfl) ?_
  refine vp_callSi (W.runS (As := [.ref (g.2.2 100), .int a0]) (rest := []) ⟨hx, hb, hml, hown, hts⟩ (c_X12_isThere l g Ty G_125 (g.2.2 100) a0 (hk_143.1)) (cwSx 2 hts hG (gwC mw_1520) mw_88 mw_1518 mw_1519 rfl rfl rfl hd_X12_isThere ⟨Nat.le_of_ble_eq_true rfl, Nat.le_of_ble_eq_true rfl⟩) ⟨PcH_blind, PcH_pre hK hH⟩ rfl rfl hl.1 rfl (lv_room (Nat.le_of_ble_eq_true rfl)) dX12_odds_10 ⟨Nat.zero_le _, Nat.zero_le _⟩) (fun x_144 hx_144 => ?_)
  have rx_144 : rgI (0) (1) x_144 := hx_144.1
  have ex_145 : x_144 = F_X12_isThere (G.2.1 (g.2.2 100)) a0 := by rw [← w_134]; exact hx_144.2.2
  refine lv_if_eq (tgt := 36) hx hb dX12_odds_13 (by decide) (fun c_146 => ?_) (fun c_146 => ?_)
  · have r_147 : rgI (0) (0) x_144 := rg_w (rg_eq rl_0 c_146) (by decide) (by decide)
    refine lv_iconst (v := (-1)) hx hb dX12_odds_36 (by decide) ?_
    exact W.iret hx hb hr (fun t ht hWm => ⟨⟨(-1), (Ty, G_125), rfl, ⟨rfl, ⟨fr_126, ⟨(by rw [u_127]; exact (rg_w hI.a102 (by decide) (by decide))), (by rw [u_128]; exact (rg_w hI.a104 (by decide) (by decide))), (by rw [u_129]; exact (rg_w hI.a113 (by decide) (by decide))), (by rw [u_130]; exact (rg_w hI.a122 (by decide) (by decide))), (by rw [u_131]; exact (rg_w hI.a133 (by decide) (by decide))), (by rw [u_132]; exact (rg_w hI.a137 (by decide) (by decide))), u_139, u_140, (by rw [w_134]; exact (hI.ti.hi (show Bd ≤ Bd + 1000 by omega))), (hI.un2 (show Bd ≤ Bd + 1000 by omega) w_135 u_130), (hI.ke2 (show Bd ≤ Bd + 1000 by omega) w_136 w_137)⟩⟩⟩, by show HT g Ty G_125 t.heap; rw [ht]; exact hH⟩, hS.F ht⟩) hS.2.2 dX12_odds_37
  · have th_148 : thr (G.2.1 (g.2.2 100)) a0 := F_isThere_thr (by rw [← ex_145]; exact c_146)
    have r_149 : rgI (1) (1) x_144 := rg_w (rg_neL rx_144 rl_0 c_146) (by decide) (by decide)
    have r_150 : rgI (0) (23) a0 := rg_w (hx_144.2.1.resolve_left c_146) (by decide) (by decide)
    refine lv_iload_n hx hb dX12_odds_16 rfl (lv_at hl 2 rfl) ?_
    refine lv_iconst (v := 0) hx hb dX12_odds_17 (by decide) ?_
    refine lv_bipush (v := 16) hx hb dX12_odds_18 (by decide) ?_
    refine vp_callSi (W.runS (As := [.int a1, .int 0, .int 16]) (rest := []) ⟨hx, hb, hml, hown, hts⟩ (c_X12_in l g Ty G_125 a1 0 16 ) (cwSx 3 hts hG (gwC mw_1426) mw_88 mw_1424 mw_1425 rfl rfl rfl hd_X12_in ⟨Nat.le_of_ble_eq_true rfl, Nat.le_of_ble_eq_true rfl⟩) ⟨PcH_blind, PcH_pre hK hH⟩ rfl rfl hl.1 rfl (lv_room (Nat.le_of_ble_eq_true rfl)) dX12_odds_20 ⟨Nat.zero_le _, Nat.zero_le _⟩) (fun x_151 hx_151 => ?_)
    have rx_151 : rgI (0) (1) x_151 := hx_151.1
    refine lv_if_eq (tgt := 36) hx hb dX12_odds_23 (by decide) (fun c_152 => ?_) (fun c_152 => ?_)
    · have r_153 : rgI (0) (0) x_151 := rg_w (rg_eq rl_0 c_152) (by decide) (by decide)
      refine lv_iconst (v := (-1)) hx hb dX12_odds_36 (by decide) ?_
      exact W.iret hx hb hr (fun t ht hWm => ⟨⟨(-1), (Ty, G_125), rfl, ⟨rfl, ⟨fr_126, ⟨(by rw [u_127]; exact (rg_w hI.a102 (by decide) (by decide))), (by rw [u_128]; exact (rg_w hI.a104 (by decide) (by decide))), (by rw [u_129]; exact (rg_w hI.a113 (by decide) (by decide))), (by rw [u_130]; exact (rg_w hI.a122 (by decide) (by decide))), (by rw [u_131]; exact (rg_w hI.a133 (by decide) (by decide))), (by rw [u_132]; exact (rg_w hI.a137 (by decide) (by decide))), u_139, u_140, (by rw [w_134]; exact (hI.ti.hi (show Bd ≤ Bd + 1000 by omega))), (hI.un2 (show Bd ≤ Bd + 1000 by omega) w_135 u_130), (hI.ke2 (show Bd ≤ Bd + 1000 by omega) w_136 w_137)⟩⟩⟩, by show HT g Ty G_125 t.heap; rw [ht]; exact hH⟩, hS.F ht⟩) hS.2.2 dX12_odds_37
    · have r_154 : rgI (1) (1) x_151 := rg_w (rg_neL rx_151 rl_0 c_152) (by decide) (by decide)
      have r_155 : rgI (0) (16) a1 := rg_w (in_rng hx_151.2.1 c_152 rl_0 rl_16) (by decide) (by decide)
      refine lv_iload_n hx hb dX12_odds_26 rfl (lv_at hl 3 rfl) ?_
      refine lv_iconst (v := 0) hx hb dX12_odds_27 (by decide) ?_
      refine lv_bipush (v := 10) hx hb dX12_odds_28 (by decide) ?_
      refine vp_callSi (W.runS (As := [.int a2, .int 0, .int 10]) (rest := []) ⟨hx, hb, hml, hown, hts⟩ (c_X12_in l g Ty G_125 a2 0 10 ) (cwSx 3 hts hG (gwC mw_1426) mw_88 mw_1424 mw_1425 rfl rfl rfl hd_X12_in ⟨Nat.le_of_ble_eq_true rfl, Nat.le_of_ble_eq_true rfl⟩) ⟨PcH_blind, PcH_pre hK hH⟩ rfl rfl hl.1 rfl (lv_room (Nat.le_of_ble_eq_true rfl)) dX12_odds_30 ⟨Nat.zero_le _, Nat.zero_le _⟩) (fun x_156 hx_156 => ?_)
      have rx_156 : rgI (0) (1) x_156 := hx_156.1
      refine lv_if_ne (tgt := 38) hx hb dX12_odds_33 (by decide) (fun c_157 => ?_) (fun c_157 => ?_)
      · have r_158 : rgI (1) (1) x_156 := rg_w (rg_neL rx_156 rl_0 c_157) (by decide) (by decide)
        have r_159 : rgI (0) (10) a2 := rg_w (in_rng hx_156.2.1 c_157 rl_0 rl_10) (by decide) (by decide)
        refine lv_aload_n hx hb dX12_odds_38 rfl (lv_at hl 0 rfl) ?_
        refine hg_get hx hb hG igX12 hown hK o_c_141 rfl 0 (by decide) (hG _ mw_1284) rfl dX12_odds_39 ?_
        refine lv_iload_n hx hb dX12_odds_42 rfl (lv_at hl 1 rfl) ?_
        refine vp_callSi (W.runS (As := [.ref (g.2.2 100), .int a0]) (rest := []) ⟨hx, hb, hml, hown, hts⟩ (c_X12_spreadOf l g Ty G_125 (g.2.2 100) a0 (hk_143.1) (by rw [w_134]; exact th_148)) (cwSx 2 hts hG (gwC mw_1560) mw_88 mw_1558 mw_1559 rfl rfl rfl hd_X12_spreadOf ⟨Nat.le_of_ble_eq_true rfl, Nat.le_of_ble_eq_true rfl⟩) ⟨PcH_blind, PcH_pre hK hH⟩ rfl rfl hl.1 rfl (lv_room (Nat.le_of_ble_eq_true rfl)) dX12_odds_43 ⟨Nat.zero_le _, Nat.zero_le _⟩) (fun x_160 hx_160 => ?_)
        have ex_161 : x_160 = F_X12_spreadOf (G.2.1 (g.2.2 100)) a0 := by rw [← w_134]; exact hx_160.2
        have tx_162 := hx_160.1
        try rw [w_134] at tx_162
        try rw [w_138] at tx_162
        try rw [u_129] at tx_162
        refine vp_callSi (W.runS (As := [.int x_160]) (rest := []) ⟨hx, hb, hml, hown, hts⟩ (c_J6_bitCount_x l g Ty G_125 x_160 ) (cwSx 1 hts hG (gwC mw_620) mw_99 mw_1553 mw_619 rfl rfl rfl hd_J6_bitCount_0f7a4 ⟨Nat.le_of_ble_eq_true rfl, Nat.le_of_ble_eq_true rfl⟩) ⟨PcH_blind, PcH_pre hK hH⟩ rfl rfl hl.1 rfl (lv_room (Nat.le_of_ble_eq_true rfl)) dX12_odds_46 ⟨Nat.zero_le _, Nat.zero_le _⟩) (fun x_163 hx_163 => ?_)
        have rx_163 : rgI (0) (63) x_163 := hx_163.1
        refine lv_iconst (v := 1) hx hb dX12_odds_49 (by decide) ?_
        refine lv_isub hx hb dX12_odds_50 ?_
        refine lv_topi (fun x_164 ex_164 => ?_)
        have rx_164 : rgI (-1) (62) x_164 := by rw [ex_164]; exact rg_w (rg_sub rx_163 rl_1 (by decide) (by decide)) (by decide) (by decide)
        refine lv_istore (lv' := [(4, .int x_164), (0, .ref h0), (1, .int a0), (2, .int a1), (3, .int a2)]) hx hb dX12_odds_51 hl (by decide) rfl (fun ls hl => ?_)
        refine lv_iload hx hb dX12_odds_53 (lv_at hl 0 rfl) ?_
        refine lv_bipush (v := 16) hx hb dX12_odds_55 (by decide) ?_
        refine lv_icmp_le (tgt := 62) hx hb dX12_odds_57 (by decide) (fun c_165 => ?_) (fun c_165 => ?_)
        · have r_166 : rgI (-1) (16) x_164 := rg_w (rg_leL rx_164 rl_16 c_165) (by decide) (by decide)
          refine lv_iconst (v := 0) hx hb dX12_odds_62 (by decide) ?_
          refine lv_istore (lv' := [(5, .int 0), (4, .int x_164), (0, .ref h0), (1, .int a0), (2, .int a1), (3, .int a2)]) hx hb dX12_odds_63 hl (by decide) rfl (fun ls hl => ?_)
          exact L_65 _ H locs G_125 x_164 0 ls (by rw [u_128]; exact rg_w hI.a104 (by decide) (by decide)) fr_126 r_155 r_159 r_166 (rg_w rl_0 (by decide) (by decide)) (Nat.lt_succ_self _) (lv_sub hl [2, 4, 5, 1, 0] rfl) hH hS
        · have r_167 : rgI (17) (62) x_164 := rg_w (rg_ltR rl_16 rx_164 (nle_lt c_165)) (by decide) (by decide)
          refine lv_iconst (v := (-1)) hx hb dX12_odds_60 (by decide) ?_
          exact W.iret hx hb hr (fun t ht hWm => ⟨⟨(-1), (Ty, G_125), rfl, ⟨rfl, ⟨fr_126, ⟨(by rw [u_127]; exact (rg_w hI.a102 (by decide) (by decide))), (by rw [u_128]; exact (rg_w hI.a104 (by decide) (by decide))), (by rw [u_129]; exact (rg_w hI.a113 (by decide) (by decide))), (by rw [u_130]; exact (rg_w hI.a122 (by decide) (by decide))), (by rw [u_131]; exact (rg_w hI.a133 (by decide) (by decide))), (by rw [u_132]; exact (rg_w hI.a137 (by decide) (by decide))), u_139, u_140, (by rw [w_134]; exact (hI.ti.hi (show Bd ≤ Bd + 1000 by omega))), (hI.un2 (show Bd ≤ Bd + 1000 by omega) w_135 u_130), (hI.ke2 (show Bd ≤ Bd + 1000 by omega) w_136 w_137)⟩⟩⟩, by show HT g Ty G_125 t.heap; rw [ht]; exact hH⟩, hS.F ht⟩) hS.2.2 dX12_odds_61
      · have r_168 : rgI (0) (0) x_156 := rg_w (rg_eq rl_0 c_157) (by decide) (by decide)
        refine lv_iconst (v := (-1)) hx hb dX12_odds_36 (by decide) ?_
        exact W.iret hx hb hr (fun t ht hWm => ⟨⟨(-1), (Ty, G_125), rfl, ⟨rfl, ⟨fr_126, ⟨(by rw [u_127]; exact (rg_w hI.a102 (by decide) (by decide))), (by rw [u_128]; exact (rg_w hI.a104 (by decide) (by decide))), (by rw [u_129]; exact (rg_w hI.a113 (by decide) (by decide))), (by rw [u_130]; exact (rg_w hI.a122 (by decide) (by decide))), (by rw [u_131]; exact (rg_w hI.a133 (by decide) (by decide))), (by rw [u_132]; exact (rg_w hI.a137 (by decide) (by decide))), u_139, u_140, (by rw [w_134]; exact (hI.ti.hi (show Bd ≤ Bd + 1000 by omega))), (hI.un2 (show Bd ≤ Bd + 1000 by omega) w_135 u_130), (hI.ke2 (show Bd ≤ Bd + 1000 by omega) w_136 w_137)⟩⟩⟩, by show HT g Ty G_125 t.heap; rw [ht]; exact hH⟩, hS.F ht⟩) hS.2.2 dX12_odds_37

set_option maxHeartbeats 4000000 in
set_option maxRecDepth 100000 in
theorem c_X12_draw (l : Launch) (g : Gx) (Ty : TyM) (G : Gh) (sz : Nat) (h0 : Nat) (a0 : Int32) (k_h0 : Ty h0 = some (22, 0)) (pr0 : rgI (1) (24) a0) : Met l yX12_draw (wsG yX12_draw cX12_draw 2 (some .int)) ({ frames := 0, cells := 0, slots := 0, locals := 0 }) (PcT g Ty G sz [.ref h0, .int a0]) (QwI g Ty sz (fun r u => ((rgI 0 (a0.toInt - 1) r)) ∧ u.1 = Ty ∧ FR [139] [] [] G u.2)) 0 0 (AF Ty sz) := by
  refine Met.ofW (cc := cX12_draw) (maxL := 2) (ret := (some .int)) (by decide) rfl ?_
  intro p e s m args below meth c s₁ B hml hv
  obtain ⟨rfl, hsz, hK, hH⟩ := hv
  subst hsz
  have hx := B.exec
  have hb := B.bytes
  have hr := B.returns
  have hts := atoms_spec (ws := (wsG yX12_draw cX12_draw 2 (some .int))) B.pre
  have hG : ∀ w ∈ GW, w.before ([.ref h0, .int a0] : List Value).toArray s = true := fun w h => hts w (List.mem_cons_of_mem _ h)
  have hown : s.vm.findClass RX12 = some m.cls := findClass_of_methodNamed B.named
  have hlocks := B.notSynchronized
  have hl := lv_entry [.ref h0, .int a0] (n := 2) (Nat.le_of_ble_eq_true rfl)
  rw [lg_entry_eq]
  generalize (lg_sl [.ref h0, .int a0] ++ List.replicate (2 - (lg_sl [.ref h0, .int a0]).length) Slot.unset).toArray = ls at hl ⊢
  have hl : lv_has ls 2 [(0, .ref h0), (1, .int a0)] := hl
  have hmk : mdK g Ty := mdk_of hH k_h0
  have hS : va_S (AF Ty s.heap.size) s.heap s.heap [] := va_S.rf
  refine lv_aload_n hx hb dX12_draw_0 rfl (lv_at hl 0 rfl) ?_
  refine lv_aload_n hx hb dX12_draw_1 rfl (lv_at hl 0 rfl) ?_
  obtain ⟨_, ⟨rfl, t_2, hk_3⟩, o_c_1⟩ := hH h0 _ k_h0
  refine hg_get hx hb hG igX12 hown hK o_c_1 rfl 39 (by decide) (hG _ mw_1323) rfl dX12_draw_2 ?_
  refine lv_ldcw (v := 1103515245) hx hb hown (hG _ mw_1865) dX12_draw_5 ?_
  refine lv_imul hx hb dX12_draw_8 ?_
  refine lv_topi (fun x_4 ex_4 => ?_)
  refine lv_sipush (v := 12345) hx hb dX12_draw_9 (by decide) ?_
  refine lv_iadd hx hb dX12_draw_12 ?_
  refine lv_topi (fun x_5 ex_5 => ?_)
  refine hg_put (ty := .int) hx hb hG igX12 tyX12 tyX12_ok nmX12 hown hK hS o_c_1 (AF.of k_h0) rfl 39 (by decide) (hG _ mw_1323) rfl (by decide +kernel) rfl rfl (Nat.le_of_ble_eq_true rfl) dX12_draw_13 (fun H locs o_c_1 hz oq hS => ?_)
  obtain ⟨G_6, eG_6⟩ : ∃ z : Gh, z = gset G 139 x_5 := ⟨_, rfl⟩
  have hH : HT g Ty G_6 H := by rw [eG_6]; exact HT.putN 139 x_5 hH k_h0 ⟨rfl, t_2, hk_3⟩ o_c_1 oq (Or.inr (Or.inr (Or.inr (Or.inr (Or.inr ⟨by decide, t_2⟩)))))
  have fr_7 : FR [139] [] [] G G_6 := FR.n FR.rf eG_6 (by decide)
  have u_8 : G_6.1 139 = x_5 := by rw [eG_6]; exact gs_eq
  clear oq hz
  refine lv_aload_n hx hb dX12_draw_16 rfl (lv_at hl 0 rfl) ?_
  obtain ⟨_, ⟨rfl, t_10, hk_11⟩, o_c_9⟩ := hH h0 _ k_h0
  refine hg_get hx hb hG igX12 hown hK o_c_9 rfl 39 (by decide) (hG _ mw_1323) rfl dX12_draw_17 ?_
  rw [u_8]
  refine lv_bipush (v := 16) hx hb dX12_draw_20 (by decide) ?_
  refine lv_iushr hx hb dX12_draw_22 rfl ?_
  refine lv_topi (fun x_12 ex_12 => ?_)
  refine lv_iload_n hx hb dX12_draw_23 rfl (lv_at hl 1 rfl) ?_
  refine lv_irem hx hb dX12_draw_24 (rg_ne0 pr0 (by decide)) ?_
  refine lv_topi (fun x_13 ex_13 => ?_)
  exact W.iret hx hb hr (fun t ht hWm => ⟨⟨x_13, (Ty, G_6), rfl, ⟨(dr_r ex_12 ex_13 pr0), ⟨rfl, fr_7⟩⟩, by show HT g Ty G_6 t.heap; rw [ht]; exact hH⟩, hS.F ht⟩) hS.2.2 dX12_draw_25

set_option maxHeartbeats 4000000 in
set_option maxRecDepth 100000 in
theorem c_X12_years (l : Launch) (g : Gx) (Ty : TyM) (G : Gh) (sz : Nat) (h0 : Nat) (a0 : Int32) (a1 : Int32) (k_h0 : Ty h0 = some (22, 0)) (Bd : Int) (hI : OI g Bd G) (hBd : Bd ≤ 1900000) (hLD : LD g) : Met l yX12_years (wsG yX12_years cX12_years 8 (some .int)) ({ frames := 342, cells := 0, slots := 0, locals := 8018 }) (PcT g Ty G sz [.ref h0, .int a0, .int a1]) (QwI g Ty sz (fun r u => u.1 = Ty ∧ FR [107, 108, 109, 110, 114, 127, 128, 104, 105, 139] [(g.2.2 124), (g.2.2 115), (g.2.2 125), (g.2.2 126)] [106] G u.2 ∧ OI g (Bd + 1000) u.2)) 0 0 (AF Ty sz) := by
  refine Met.ofW (cc := cX12_years) (maxL := 8) (ret := (some .int)) (by decide) rfl ?_
  intro p e s m args below meth c s₁ B hml hv
  obtain ⟨rfl, hsz, hK, hH⟩ := hv
  subst hsz
  have hx := B.exec
  have hb := B.bytes
  have hr := B.returns
  have hts := atoms_spec (ws := (wsG yX12_years cX12_years 8 (some .int))) B.pre
  have hG : ∀ w ∈ GW, w.before ([.ref h0, .int a0, .int a1] : List Value).toArray s = true := fun w h => hts w (List.mem_cons_of_mem _ h)
  have hown : s.vm.findClass RX12 = some m.cls := findClass_of_methodNamed B.named
  have hlocks := B.notSynchronized
  have hl := lv_entry [.ref h0, .int a0, .int a1] (n := 8) (Nat.le_of_ble_eq_true rfl)
  rw [lg_entry_eq]
  generalize (lg_sl [.ref h0, .int a0, .int a1] ++ List.replicate (8 - (lg_sl [.ref h0, .int a0, .int a1]).length) Slot.unset).toArray = ls at hl ⊢
  have hl : lv_has ls 8 [(0, .ref h0), (1, .int a0), (2, .int a1)] := hl
  have hmk : mdK g Ty := mdk_of hH k_h0
  have hS : va_S (AF Ty s.heap.size) s.heap s.heap [] := va_S.rf
  obtain ⟨⟨σ0, hTS0⟩, h10, hBB0⟩ := id hI.ti
  obtain ⟨ρ, hT⟩ := hTS0.1
  have L_36 : ∀ (n : Nat) (H : Heap) (locs : List Loc) (G_36 : Gh) (fl5_36 : Nat → Int32) (y3_36 : Int32) (ls : Array Slot), rgI (0) (32) (G_36.1 104) → FR [107, 108, 109, 110, 114, 127, 128, 104, 105, 139] [(g.2.2 124), (g.2.2 115), (g.2.2 125), (g.2.2 126)] [106] G G_36 → G_36.2.1 (g.2.2 124) = fl5_36 → rgI (1) (40) a1 → rgI (0) (40) y3_36 → TI (Bd + 25 * (y3_36 : Int32).toInt) fl5_36 → (40 - (y3_36).toInt).toNat < n → lv_has ls 8 [(0, .ref h0), (2, .int a1), (3, .int y3_36)] → HT g Ty G_36 H → va_S (AF Ty s.heap.size) s.heap H locs → Wm p l e (wsG yX12_years cX12_years 8 (some .int)) ({ frames := 342, cells := 0, slots := 0, locals := 8018 }) s m [.ref h0, .int a0, .int a1] below meth c H locs (0) (0) (QwI g Ty s.heap.size (fun r u => u.1 = Ty ∧ FR [107, 108, 109, 110, 114, 127, 128, 104, 105, 139] [(g.2.2 124), (g.2.2 115), (g.2.2 125), (g.2.2 126)] [106] G u.2 ∧ OI g (Bd + 1000) u.2)) 0 0 (AF Ty s.heap.size) (F0 m 36 ls []) := by
    intro n
    induction n with
    | zero => intro H locs G_36 fl5_36 y3_36 ls rg104_36 frL_36 efl5_36 ry2_36 ry3_36 hi0_36 hm; exact absurd hm (Nat.not_lt_zero _)
    | succ n ih_36 =>
      intro H locs G_36 fl5_36 y3_36 ls rg104_36 frL_36 efl5_36 ry2_36 ry3_36 hi0_36 hm_36 hl hH hS
      refine lv_iload_n hx hb dX12_years_36 rfl (lv_at hl 2 rfl) ?_
      refine lv_iload_n hx hb dX12_years_37 rfl (lv_at hl 1 rfl) ?_
      refine lv_icmp_ge (tgt := 217) hx hb dX12_years_38 (by decide) (fun c_1 => ?_) (fun c_1 => ?_)
      · have r_2 : rgI (1) (40) y3_36 := rg_w (rg_leR ry2_36 ry3_36 c_1) (by decide) (by decide)
        refine lv_aload_n hx hb dX12_years_217 rfl (lv_at hl 0 rfl) ?_
        refine lv_iconst (v := 0) hx hb dX12_years_218 (by decide) ?_
        obtain ⟨_, ⟨rfl, t_4, hk_5⟩, o_c_3⟩ := hH h0 _ k_h0
        refine hg_put (ty := .int) hx hb hG igX12 tyX12 tyX12_ok nmX12 hown hK hS o_c_3 (AF.of k_h0) rfl 4 (by decide) (hG _ mw_1288) rfl (by decide +kernel) rfl rfl (Nat.le_of_ble_eq_true rfl) dX12_years_219 (fun H locs o_c_3 hz oq hS => ?_)
        obtain ⟨G_6, eG_6⟩ : ∃ z : Gh, z = gset G_36 104 0 := ⟨_, rfl⟩
        have hH : HT g Ty G_6 H := by rw [eG_6]; exact HT.putN 104 0 hH k_h0 ⟨rfl, t_4, hk_5⟩ o_c_3 oq (Or.inr (Or.inr (Or.inr (Or.inr (Or.inr ⟨by decide, t_4⟩)))))
        have fr_7 : FR [107, 108, 109, 110, 114, 127, 128, 104, 105, 139] [(g.2.2 124), (g.2.2 115), (g.2.2 125), (g.2.2 126)] [106] G G_6 := FR.n frL_36 eG_6 (by decide)
        have u_8 : G_6.1 102 = (G.1 102) := by rw [eG_6]; exact (gs_ne (by decide)).trans (frL_36.1 102 (by decide))
        have u_9 : G_6.1 113 = (G.1 113) := by rw [eG_6]; exact (gs_ne (by decide)).trans (frL_36.1 113 (by decide))
        have u_10 : G_6.1 122 = (G.1 122) := by rw [eG_6]; exact (gs_ne (by decide)).trans (frL_36.1 122 (by decide))
        have u_11 : G_6.1 133 = (G.1 133) := by rw [eG_6]; exact (gs_ne (by decide)).trans (frL_36.1 133 (by decide))
        have u_12 : G_6.1 137 = (G.1 137) := by rw [eG_6]; exact (gs_ne (by decide)).trans (frL_36.1 137 (by decide))
        have u_13 : G_6.1 104 = 0 := by rw [eG_6]; exact gs_eq
        have w_14 : G_6.2.1 (g.2.2 100) = (G.2.1 (g.2.2 100)) := by rw [eG_6]; exact (frL_36.2.1 (g.2.2 100) ⟨(hLD 100 (by decide) 124 (by decide) (by decide)), (ne_kd hmk.1 hmk.2.2.2.1 (by decide)), (ne_kd hmk.1 hmk.2.2.2.2.2.2.2.2.1 (by decide)), (ne_kd hmk.1 hmk.2.2.2.2.2.2.2.2.2.1 (by decide)), trivial⟩)
        have w_15 : G_6.2.1 (g.2.2 121) = (G.2.1 (g.2.2 121)) := by rw [eG_6]; exact (frL_36.2.1 (g.2.2 121) ⟨(ne_kd hmk.2.2.2.2.2.1 hmk.2.2.2.2.2.2.2.1 (by decide)), (ne_kd hmk.2.2.2.2.2.1 hmk.2.2.2.1 (by decide)), (ne_kd hmk.2.2.2.2.2.1 hmk.2.2.2.2.2.2.2.2.1 (by decide)), (ne_kd hmk.2.2.2.2.2.1 hmk.2.2.2.2.2.2.2.2.2.1 (by decide)), trivial⟩)
        have w_16 : G_6.2.1 (g.2.2 140) = (G.2.1 (g.2.2 140)) := by rw [eG_6]; exact (frL_36.2.1 (g.2.2 140) ⟨(ne_kd hmk.2.2.2.2.2.2.2.2.2.2.2.2.2.2.2.2.2.2.1 hmk.2.2.2.2.2.2.2.1 (by decide)), (ne_kd hmk.2.2.2.2.2.2.2.2.2.2.2.2.2.2.2.2.2.2.1 hmk.2.2.2.1 (by decide)), (ne_kd hmk.2.2.2.2.2.2.2.2.2.2.2.2.2.2.2.2.2.2.1 hmk.2.2.2.2.2.2.2.2.1 (by decide)), (ne_kd hmk.2.2.2.2.2.2.2.2.2.2.2.2.2.2.2.2.2.2.1 hmk.2.2.2.2.2.2.2.2.2.1 (by decide)), trivial⟩)
        have w_17 : G_6.2.1 (g.2.2 141) = (G.2.1 (g.2.2 141)) := by rw [eG_6]; exact (frL_36.2.1 (g.2.2 141) ⟨(ne_kd hmk.2.2.2.2.2.2.2.2.2.2.2.2.2.2.2.2.2.2.2.1 hmk.2.2.2.2.2.2.2.1 (by decide)), (ne_kd hmk.2.2.2.2.2.2.2.2.2.2.2.2.2.2.2.2.2.2.2.1 hmk.2.2.2.1 (by decide)), (ne_kd hmk.2.2.2.2.2.2.2.2.2.2.2.2.2.2.2.2.2.2.2.1 hmk.2.2.2.2.2.2.2.2.1 (by decide)), (ne_kd hmk.2.2.2.2.2.2.2.2.2.2.2.2.2.2.2.2.2.2.2.1 hmk.2.2.2.2.2.2.2.2.2.1 (by decide)), trivial⟩)
        have w_18 : G_6.2.1 (g.2.2 111) = (G.2.1 (g.2.2 111)) := by rw [eG_6]; exact (frL_36.2.1 (g.2.2 111) ⟨(ne_kd hmk.2.2.2.2.2.2.2.2.2.2.2.2.2.2.2.2.2.2.2.2.1 hmk.2.2.2.2.2.2.2.1 (by decide)), (ne_kd hmk.2.2.2.2.2.2.2.2.2.2.2.2.2.2.2.2.2.2.2.2.1 hmk.2.2.2.1 (by decide)), (ne_kd hmk.2.2.2.2.2.2.2.2.2.2.2.2.2.2.2.2.2.2.2.2.1 hmk.2.2.2.2.2.2.2.2.1 (by decide)), (ne_kd hmk.2.2.2.2.2.2.2.2.2.2.2.2.2.2.2.2.2.2.2.2.1 hmk.2.2.2.2.2.2.2.2.2.1 (by decide)), trivial⟩)
        have w_19 : G_6.2.1 (g.2.2 124) = fl5_36 := by rw [eG_6]; exact efl5_36
        have u_20 : G_6.2.2 111 = some (g.2.2 111) := by rw [eG_6]; exact ((frL_36.2.2 111 (by decide)).trans hI.r111)
        have u_21 : G_6.2.2 112 = some (g.2.2 112) := by rw [eG_6]; exact ((frL_36.2.2 112 (by decide)).trans hI.r112)
        clear oq hz
        refine lv_aload_n hx hb dX12_years_222 rfl (lv_at hl 0 rfl) ?_
        refine lv_aload_n hx hb dX12_years_223 rfl (lv_at hl 0 rfl) ?_
        obtain ⟨_, ⟨rfl, t_23, hk_24⟩, o_c_22⟩ := hH h0 _ k_h0
        refine hg_get hx hb hG igX12 hown hK o_c_22 rfl 24 (by decide) (hG _ mw_1308) rfl dX12_years_224 ?_
        refine vp_callSi (W.runS (As := [.ref (g.2.2 124)]) (rest := [.ref h0]) ⟨hx, hb, hml, hown, hts⟩ (c_X12_groupsOf l g Ty G_6 (g.2.2 124) (hk_24.2.2.2.2.2.2.2.1)) (cwSx 1 hts hG (gwC mw_1729) mw_88 mw_1727 mw_1728 rfl rfl rfl hd_X12_groupsOf ⟨Nat.le_of_ble_eq_true rfl, Nat.le_of_ble_eq_true rfl⟩) ⟨PcH_blind, PcH_pre hK hH⟩ rfl rfl hl.1 rfl (lv_room (Nat.le_of_ble_eq_true rfl)) dX12_years_227 ⟨Nat.zero_le _, Nat.zero_le _⟩) (fun x_25 hx_25 => ?_)
        refine lv_i2l hx hb dX12_years_230 rfl ?_
        refine lv_topl (fun u_26 eu_26 => ?_)
        refine va_callv (va_runV (As := [.long u_26]) (rest := []) ⟨hx, hb, hml, hown, hts⟩ (c_X12_tell l g Ty G_6 H.size h0 u_26 k_h0 (by rw [u_13]; exact rg_w rl_0 (by decide) (by decide))) (cwV 1 hts (gwV mw_1510 mw_1512 mw_48 mw_88 mw_1513) rfl rfl rfl hv_X12_tell ⟨Nat.le_of_ble_eq_true rfl, Nat.le_of_ble_eq_true rfl⟩) ⟨PcT_blind, hg_recv hK o_c_22 rfl, PcT_pre hK hH⟩ rfl rfl hl.1 rfl (lv_room (Nat.le_of_ble_eq_true rfl)) dX12_years_231 ⟨Nat.zero_le _, Nat.zero_le _⟩) hS (fun q _ h => AF.mono hS.1 h) (fun q h => AF.mono hS.1 h) (fun ux_27 t H locs ht hvm hx_27 hB hz hk hS => ?_)
        obtain ⟨eTx_27, eGx_27⟩ := hx_27
        obtain ⟨G_28, eG_28⟩ : ∃ z, z = ux_27.2 := ⟨_, rfl⟩
        rw [← eG_28] at eGx_27
        obtain ⟨x_29, ex_29⟩ : ∃ z : Int32, z = 0 + 1 := ⟨_, rfl⟩
        have e_30 : G_28 = gset G_6 104 x_29 := by rw [ex_29, ← u_13]; exact eGx_27
        have rx_29 : rgI (1) (1) x_29 := by rw [ex_29]; exact rg_w (rg_add rl_0 rl_1 (by decide) (by decide)) (by decide) (by decide)
        have fr_31 : FR [107, 108, 109, 110, 114, 127, 128, 104, 105, 139] [(g.2.2 124), (g.2.2 115), (g.2.2 125), (g.2.2 126)] [106] G G_28 := FR.n fr_7 e_30 (by decide)
        have u_32 : G_28.1 102 = (G.1 102) := by rw [e_30]; exact (gs_ne (by decide)).trans u_8
        have u_33 : G_28.1 113 = (G.1 113) := by rw [e_30]; exact (gs_ne (by decide)).trans u_9
        have u_34 : G_28.1 122 = (G.1 122) := by rw [e_30]; exact (gs_ne (by decide)).trans u_10
        have u_35 : G_28.1 133 = (G.1 133) := by rw [e_30]; exact (gs_ne (by decide)).trans u_11
        have u_36 : G_28.1 137 = (G.1 137) := by rw [e_30]; exact (gs_ne (by decide)).trans u_12
        have u_37 : G_28.1 104 = x_29 := by rw [e_30]; exact gs_eq
        have w_38 : G_28.2.1 (g.2.2 100) = (G.2.1 (g.2.2 100)) := by rw [e_30]; exact w_14
        have w_39 : G_28.2.1 (g.2.2 121) = (G.2.1 (g.2.2 121)) := by rw [e_30]; exact w_15
        have w_40 : G_28.2.1 (g.2.2 140) = (G.2.1 (g.2.2 140)) := by rw [e_30]; exact w_16
        have w_41 : G_28.2.1 (g.2.2 141) = (G.2.1 (g.2.2 141)) := by rw [e_30]; exact w_17
        have w_42 : G_28.2.1 (g.2.2 111) = (G.2.1 (g.2.2 111)) := by rw [e_30]; exact w_18
        have w_43 : G_28.2.1 (g.2.2 124) = fl5_36 := by rw [e_30]; exact w_19
        have u_44 : G_28.2.2 111 = some (g.2.2 111) := by rw [e_30]; exact u_20
        have u_45 : G_28.2.2 112 = some (g.2.2 112) := by rw [e_30]; exact u_21
        have hH : HT g Ty G_28 H := by rw [← ht, ← eTx_27, eG_28]; exact hB
        refine lv_aload_n hx hb dX12_years_234 rfl (lv_at hl 0 rfl) ?_
        refine lv_aload_n hx hb dX12_years_235 rfl (lv_at hl 0 rfl) ?_
        obtain ⟨_, ⟨rfl, t_47, hk_48⟩, o_c_46⟩ := hH h0 _ k_h0
        refine hg_get hx hb hG igX12 hown hK o_c_46 rfl 24 (by decide) (hG _ mw_1308) rfl dX12_years_236 ?_
        refine lv_bipush (v := 120) hx hb dX12_years_239 (by decide) ?_
        obtain ⟨_, rfl, o_c_49⟩ := hH (g.2.2 124) _ hk_48.2.2.2.2.2.2.2.1
        have o_c_49 : va_at g.1 vwCl ((g.2.2 124), .inl (g.2.1 1, 122, .inl (G_28.2.1 (g.2.2 124)))) H := o_c_49
        refine hg_iald hx hb hK o_c_49 (rg_in (n := 122) rl_120 (by decide) (by decide)) dX12_years_241 ?_
        rw [w_43]
        refine lv_topi (fun x_50 ex_50 => ?_)
        refine lv_aload_n hx hb dX12_years_242 rfl (lv_at hl 0 rfl) ?_
        refine hg_get hx hb hG igX12 hown hK o_c_46 rfl 0 (by decide) (hG _ mw_1284) rfl dX12_years_243 ?_
        refine lv_bipush (v := 120) hx hb dX12_years_246 (by decide) ?_
        obtain ⟨_, rfl, o_c_51⟩ := hH (g.2.2 100) _ hk_48.1
        have o_c_51 : va_at g.1 vwCl ((g.2.2 100), .inl (g.2.1 1, 122, .inl (G_28.2.1 (g.2.2 100)))) H := o_c_51
        refine hg_iald hx hb hK o_c_51 (rg_in (n := 122) rl_120 (by decide) (by decide)) dX12_years_248 ?_
        rw [w_38]
        refine lv_topi (fun x_52 ex_52 => ?_)
        refine lv_isub hx hb dX12_years_249 ?_
        refine lv_topi (fun x_53 ex_53 => ?_)
        refine lv_i2l hx hb dX12_years_250 rfl ?_
        refine lv_topl (fun u_54 eu_54 => ?_)
        refine va_callv (va_runV (As := [.long u_54]) (rest := []) ⟨hx, hb, hml, hown, hts⟩ (c_X12_tell l g Ty G_28 H.size h0 u_54 k_h0 (by rw [u_37]; exact rg_w rx_29 (by decide) (by decide))) (cwV 1 hts (gwV mw_1510 mw_1512 mw_48 mw_88 mw_1513) rfl rfl rfl hv_X12_tell ⟨Nat.le_of_ble_eq_true rfl, Nat.le_of_ble_eq_true rfl⟩) ⟨PcT_blind, hg_recv hK o_c_46 rfl, PcT_pre hK hH⟩ rfl rfl hl.1 rfl (lv_room (Nat.le_of_ble_eq_true rfl)) dX12_years_251 ⟨Nat.zero_le _, Nat.zero_le _⟩) hS (fun q _ h => AF.mono hS.1 h) (fun q h => AF.mono hS.1 h) (fun ux_55 t H locs ht hvm hx_55 hB hz hk hS => ?_)
        obtain ⟨eTx_55, eGx_55⟩ := hx_55
        obtain ⟨G_56, eG_56⟩ : ∃ z, z = ux_55.2 := ⟨_, rfl⟩
        rw [← eG_56] at eGx_55
        obtain ⟨x_57, ex_57⟩ : ∃ z : Int32, z = x_29 + 1 := ⟨_, rfl⟩
        have e_58 : G_56 = gset G_28 104 x_57 := by rw [ex_57, ← u_37]; exact eGx_55
        have rx_57 : rgI (2) (2) x_57 := by rw [ex_57]; exact rg_w (rg_add rx_29 rl_1 (by decide) (by decide)) (by decide) (by decide)
        have fr_59 : FR [107, 108, 109, 110, 114, 127, 128, 104, 105, 139] [(g.2.2 124), (g.2.2 115), (g.2.2 125), (g.2.2 126)] [106] G G_56 := FR.n fr_31 e_58 (by decide)
        have u_60 : G_56.1 102 = (G.1 102) := by rw [e_58]; exact (gs_ne (by decide)).trans u_32
        have u_61 : G_56.1 113 = (G.1 113) := by rw [e_58]; exact (gs_ne (by decide)).trans u_33
        have u_62 : G_56.1 122 = (G.1 122) := by rw [e_58]; exact (gs_ne (by decide)).trans u_34
        have u_63 : G_56.1 133 = (G.1 133) := by rw [e_58]; exact (gs_ne (by decide)).trans u_35
        have u_64 : G_56.1 137 = (G.1 137) := by rw [e_58]; exact (gs_ne (by decide)).trans u_36
        have u_65 : G_56.1 104 = x_57 := by rw [e_58]; exact gs_eq
        have w_66 : G_56.2.1 (g.2.2 100) = (G.2.1 (g.2.2 100)) := by rw [e_58]; exact w_38
        have w_67 : G_56.2.1 (g.2.2 121) = (G.2.1 (g.2.2 121)) := by rw [e_58]; exact w_39
        have w_68 : G_56.2.1 (g.2.2 140) = (G.2.1 (g.2.2 140)) := by rw [e_58]; exact w_40
        have w_69 : G_56.2.1 (g.2.2 141) = (G.2.1 (g.2.2 141)) := by rw [e_58]; exact w_41
        have w_70 : G_56.2.1 (g.2.2 111) = (G.2.1 (g.2.2 111)) := by rw [e_58]; exact w_42
        have w_71 : G_56.2.1 (g.2.2 124) = fl5_36 := by rw [e_58]; exact w_43
        have u_72 : G_56.2.2 111 = some (g.2.2 111) := by rw [e_58]; exact u_44
        have u_73 : G_56.2.2 112 = some (g.2.2 112) := by rw [e_58]; exact u_45
        have hH : HT g Ty G_56 H := by rw [← ht, ← eTx_55, eG_56]; exact hB
        refine lv_aload_n hx hb dX12_years_254 rfl (lv_at hl 0 rfl) ?_
        obtain ⟨_, ⟨rfl, t_75, hk_76⟩, o_c_74⟩ := hH h0 _ k_h0
        refine hg_get hx hb hG igX12 hown hK o_c_74 rfl 24 (by decide) (hG _ mw_1308) rfl dX12_years_255 ?_
        refine vp_callSi (W.runS (As := [.ref (g.2.2 124)]) (rest := []) ⟨hx, hb, hml, hown, hts⟩ (c_X12_thereOf l g Ty G_56 (g.2.2 124) (hk_76.2.2.2.2.2.2.2.1)) (cwSx 1 hts hG (gwC mw_1552) mw_88 mw_1550 mw_1551 rfl rfl rfl hd_X12_thereOf ⟨Nat.le_of_ble_eq_true rfl, Nat.le_of_ble_eq_true rfl⟩) ⟨PcH_blind, PcH_pre hK hH⟩ rfl rfl hl.1 rfl (lv_room (Nat.le_of_ble_eq_true rfl)) dX12_years_258 ⟨Nat.zero_le _, Nat.zero_le _⟩) (fun x_77 hx_77 => ?_)
        have ex_78 : x_77 = F_X12_thereOf fl5_36 := by rw [← w_71]; exact hx_77
        refine vp_callSi (W.runS (As := [.int x_77]) (rest := []) ⟨hx, hb, hml, hown, hts⟩ (c_J6_bitCount_x l g Ty G_56 x_77 ) (cwSx 1 hts hG (gwC mw_620) mw_99 mw_1553 mw_619 rfl rfl rfl hd_J6_bitCount_0f7a4 ⟨Nat.le_of_ble_eq_true rfl, Nat.le_of_ble_eq_true rfl⟩) ⟨PcH_blind, PcH_pre hK hH⟩ rfl rfl hl.1 rfl (lv_room (Nat.le_of_ble_eq_true rfl)) dX12_years_261 ⟨Nat.zero_le _, Nat.zero_le _⟩) (fun x_79 hx_79 => ?_)
        have rx_79 : rgI (0) (63) x_79 := hx_79.1
        exact W.iret hx hb hr (fun t ht hWm => ⟨⟨x_79, (Ty, G_56), rfl, ⟨rfl, ⟨fr_59, ⟨(by rw [u_60]; exact (rg_w hI.a102 (by decide) (by decide))), (by rw [u_65]; exact (rg_w rx_57 (by decide) (by decide))), (by rw [u_61]; exact (rg_w hI.a113 (by decide) (by decide))), (by rw [u_62]; exact (rg_w hI.a122 (by decide) (by decide))), (by rw [u_63]; exact (rg_w hI.a133 (by decide) (by decide))), (by rw [u_64]; exact (rg_w hI.a137 (by decide) (by decide))), u_72, u_73, (by rw [w_66]; exact (hI.ti.hi (show Bd ≤ Bd + 1000 by omega))), (hI.un2 (show Bd ≤ Bd + 1000 by omega) w_67 u_62), (hI.ke2 (show Bd ≤ Bd + 1000 by omega) w_68 w_69)⟩⟩⟩, by show HT g Ty G_56 t.heap; rw [ht]; exact hH⟩, hS.F ht⟩) hS.2.2 dX12_years_264
      · have r_80 : rgI (0) (39) y3_36 := rg_w (rg_ltL ry3_36 ry2_36 (nle_lt c_1)) (by decide) (by decide)
        refine lv_aload_n hx hb dX12_years_41 rfl (lv_at hl 0 rfl) ?_
        refine lv_bipush (v := 6) hx hb dX12_years_42 (by decide) ?_
        obtain ⟨_, ⟨rfl, t_82, hk_83⟩, o_c_81⟩ := hH h0 _ k_h0
        refine va_calli (va_runV (As := [.int 6]) (rest := []) ⟨hx, hb, hml, hown, hts⟩ (c_X12_draw l g Ty G_36 H.size h0 6 k_h0 (rg_w rl_6 (by decide) (by decide))) (cwV 1 hts (gwV mw_1861 mw_1863 mw_73 mw_88 mw_1864) rfl rfl rfl hv_X12_draw ⟨Nat.le_of_ble_eq_true rfl, Nat.le_of_ble_eq_true rfl⟩) ⟨PcT_blind, hg_recv hK o_c_81 rfl, PcT_pre hK hH⟩ rfl rfl hl.1 rfl (lv_room (Nat.le_of_ble_eq_true rfl)) dX12_years_44 ⟨Nat.zero_le _, Nat.zero_le _⟩) hS (fun q _ h => AF.mono hS.1 h) (fun q h => AF.mono hS.1 h) (fun x_84 ux_84 t H locs ht hvm hx_84 hB hz hk hS => ?_)
        obtain ⟨hx_84, fx_84⟩ := hx_84
        obtain ⟨eTx_84, eGx_84⟩ := fx_84
        obtain ⟨G_85, eG_85⟩ : ∃ z, z = ux_84.2 := ⟨_, rfl⟩
        rw [← eG_85] at eGx_84
        have fr_86 : FR [107, 108, 109, 110, 114, 127, 128, 104, 105, 139] [(g.2.2 124), (g.2.2 115), (g.2.2 125), (g.2.2 126)] [106] G G_85 := FR.tr frL_36 eGx_84 (by decide) (fun _ _ => trivial) (by decide)
        have u_87 : G_85.1 104 = (G_36.1 104) := (eGx_84.1 104 (by decide))
        have u_88 : G_85.1 102 = (G.1 102) := (eGx_84.1 102 (by decide)).trans (frL_36.1 102 (by decide))
        have u_89 : G_85.1 113 = (G.1 113) := (eGx_84.1 113 (by decide)).trans (frL_36.1 113 (by decide))
        have u_90 : G_85.1 122 = (G.1 122) := (eGx_84.1 122 (by decide)).trans (frL_36.1 122 (by decide))
        have u_91 : G_85.1 133 = (G.1 133) := (eGx_84.1 133 (by decide)).trans (frL_36.1 133 (by decide))
        have u_92 : G_85.1 137 = (G.1 137) := (eGx_84.1 137 (by decide)).trans (frL_36.1 137 (by decide))
        have w_93 : G_85.2.1 (g.2.2 100) = (G.2.1 (g.2.2 100)) := (eGx_84.2.1 (g.2.2 100) trivial).trans (frL_36.2.1 (g.2.2 100) ⟨(hLD 100 (by decide) 124 (by decide) (by decide)), (ne_kd hmk.1 hmk.2.2.2.1 (by decide)), (ne_kd hmk.1 hmk.2.2.2.2.2.2.2.2.1 (by decide)), (ne_kd hmk.1 hmk.2.2.2.2.2.2.2.2.2.1 (by decide)), trivial⟩)
        have w_94 : G_85.2.1 (g.2.2 121) = (G.2.1 (g.2.2 121)) := (eGx_84.2.1 (g.2.2 121) trivial).trans (frL_36.2.1 (g.2.2 121) ⟨(ne_kd hmk.2.2.2.2.2.1 hmk.2.2.2.2.2.2.2.1 (by decide)), (ne_kd hmk.2.2.2.2.2.1 hmk.2.2.2.1 (by decide)), (ne_kd hmk.2.2.2.2.2.1 hmk.2.2.2.2.2.2.2.2.1 (by decide)), (ne_kd hmk.2.2.2.2.2.1 hmk.2.2.2.2.2.2.2.2.2.1 (by decide)), trivial⟩)
        have w_95 : G_85.2.1 (g.2.2 140) = (G.2.1 (g.2.2 140)) := (eGx_84.2.1 (g.2.2 140) trivial).trans (frL_36.2.1 (g.2.2 140) ⟨(ne_kd hmk.2.2.2.2.2.2.2.2.2.2.2.2.2.2.2.2.2.2.1 hmk.2.2.2.2.2.2.2.1 (by decide)), (ne_kd hmk.2.2.2.2.2.2.2.2.2.2.2.2.2.2.2.2.2.2.1 hmk.2.2.2.1 (by decide)), (ne_kd hmk.2.2.2.2.2.2.2.2.2.2.2.2.2.2.2.2.2.2.1 hmk.2.2.2.2.2.2.2.2.1 (by decide)), (ne_kd hmk.2.2.2.2.2.2.2.2.2.2.2.2.2.2.2.2.2.2.1 hmk.2.2.2.2.2.2.2.2.2.1 (by decide)), trivial⟩)
        have w_96 : G_85.2.1 (g.2.2 141) = (G.2.1 (g.2.2 141)) := (eGx_84.2.1 (g.2.2 141) trivial).trans (frL_36.2.1 (g.2.2 141) ⟨(ne_kd hmk.2.2.2.2.2.2.2.2.2.2.2.2.2.2.2.2.2.2.2.1 hmk.2.2.2.2.2.2.2.1 (by decide)), (ne_kd hmk.2.2.2.2.2.2.2.2.2.2.2.2.2.2.2.2.2.2.2.1 hmk.2.2.2.1 (by decide)), (ne_kd hmk.2.2.2.2.2.2.2.2.2.2.2.2.2.2.2.2.2.2.2.1 hmk.2.2.2.2.2.2.2.2.1 (by decide)), (ne_kd hmk.2.2.2.2.2.2.2.2.2.2.2.2.2.2.2.2.2.2.2.1 hmk.2.2.2.2.2.2.2.2.2.1 (by decide)), trivial⟩)
        have w_97 : G_85.2.1 (g.2.2 111) = (G.2.1 (g.2.2 111)) := (eGx_84.2.1 (g.2.2 111) trivial).trans (frL_36.2.1 (g.2.2 111) ⟨(ne_kd hmk.2.2.2.2.2.2.2.2.2.2.2.2.2.2.2.2.2.2.2.2.1 hmk.2.2.2.2.2.2.2.1 (by decide)), (ne_kd hmk.2.2.2.2.2.2.2.2.2.2.2.2.2.2.2.2.2.2.2.2.1 hmk.2.2.2.1 (by decide)), (ne_kd hmk.2.2.2.2.2.2.2.2.2.2.2.2.2.2.2.2.2.2.2.2.1 hmk.2.2.2.2.2.2.2.2.1 (by decide)), (ne_kd hmk.2.2.2.2.2.2.2.2.2.2.2.2.2.2.2.2.2.2.2.2.1 hmk.2.2.2.2.2.2.2.2.2.1 (by decide)), trivial⟩)
        have w_98 : G_85.2.1 (g.2.2 124) = fl5_36 := (eGx_84.2.1 (g.2.2 124) trivial).trans efl5_36
        have u_99 : G_85.2.2 111 = some (g.2.2 111) := (eGx_84.2.2 111 (by decide)).trans ((frL_36.2.2 111 (by decide)).trans hI.r111)
        have u_100 : G_85.2.2 112 = some (g.2.2 112) := (eGx_84.2.2 112 (by decide)).trans ((frL_36.2.2 112 (by decide)).trans hI.r112)
        have hH : HT g Ty G_85 H := by rw [← ht, ← eTx_84, eG_85]; exact hB
        have rdx_84 : rgI 0 5 x_84 := hx_84
        refine lv_istore (lv' := [(4, .int x_84), (0, .ref h0), (2, .int a1), (3, .int y3_36)]) hx hb dX12_years_47 hl (by decide) rfl (fun ls hl => ?_)
        refine lv_aload_n hx hb dX12_years_49 rfl (lv_at hl 1 rfl) ?_
        refine lv_bipush (v := 24) hx hb dX12_years_50 (by decide) ?_
        obtain ⟨_, ⟨rfl, t_102, hk_103⟩, o_c_101⟩ := hH h0 _ k_h0
        refine va_calli (va_runV (As := [.int 24]) (rest := []) ⟨hx, hb, hml, hown, hts⟩ (c_X12_draw l g Ty G_85 H.size h0 24 k_h0 (rg_w rl_24 (by decide) (by decide))) (cwV 1 hts (gwV mw_1861 mw_1863 mw_73 mw_88 mw_1864) rfl rfl rfl hv_X12_draw ⟨Nat.le_of_ble_eq_true rfl, Nat.le_of_ble_eq_true rfl⟩) ⟨PcT_blind, hg_recv hK o_c_101 rfl, PcT_pre hK hH⟩ rfl rfl hl.1 rfl (lv_room (Nat.le_of_ble_eq_true rfl)) dX12_years_52 ⟨Nat.zero_le _, Nat.zero_le _⟩) hS (fun q _ h => AF.mono hS.1 h) (fun q h => AF.mono hS.1 h) (fun x_104 ux_104 t H locs ht hvm hx_104 hB hz hk hS => ?_)
        obtain ⟨hx_104, fx_104⟩ := hx_104
        obtain ⟨eTx_104, eGx_104⟩ := fx_104
        obtain ⟨G_105, eG_105⟩ : ∃ z, z = ux_104.2 := ⟨_, rfl⟩
        rw [← eG_105] at eGx_104
        have fr_106 : FR [107, 108, 109, 110, 114, 127, 128, 104, 105, 139] [(g.2.2 124), (g.2.2 115), (g.2.2 125), (g.2.2 126)] [106] G G_105 := FR.tr fr_86 eGx_104 (by decide) (fun _ _ => trivial) (by decide)
        have u_107 : G_105.1 104 = (G_36.1 104) := (eGx_104.1 104 (by decide)).trans u_87
        have u_108 : G_105.1 102 = (G.1 102) := (eGx_104.1 102 (by decide)).trans u_88
        have u_109 : G_105.1 113 = (G.1 113) := (eGx_104.1 113 (by decide)).trans u_89
        have u_110 : G_105.1 122 = (G.1 122) := (eGx_104.1 122 (by decide)).trans u_90
        have u_111 : G_105.1 133 = (G.1 133) := (eGx_104.1 133 (by decide)).trans u_91
        have u_112 : G_105.1 137 = (G.1 137) := (eGx_104.1 137 (by decide)).trans u_92
        have w_113 : G_105.2.1 (g.2.2 100) = (G.2.1 (g.2.2 100)) := (eGx_104.2.1 (g.2.2 100) trivial).trans w_93
        have w_114 : G_105.2.1 (g.2.2 121) = (G.2.1 (g.2.2 121)) := (eGx_104.2.1 (g.2.2 121) trivial).trans w_94
        have w_115 : G_105.2.1 (g.2.2 140) = (G.2.1 (g.2.2 140)) := (eGx_104.2.1 (g.2.2 140) trivial).trans w_95
        have w_116 : G_105.2.1 (g.2.2 141) = (G.2.1 (g.2.2 141)) := (eGx_104.2.1 (g.2.2 141) trivial).trans w_96
        have w_117 : G_105.2.1 (g.2.2 111) = (G.2.1 (g.2.2 111)) := (eGx_104.2.1 (g.2.2 111) trivial).trans w_97
        have w_118 : G_105.2.1 (g.2.2 124) = fl5_36 := (eGx_104.2.1 (g.2.2 124) trivial).trans w_98
        have u_119 : G_105.2.2 111 = some (g.2.2 111) := (eGx_104.2.2 111 (by decide)).trans u_99
        have u_120 : G_105.2.2 112 = some (g.2.2 112) := (eGx_104.2.2 112 (by decide)).trans u_100
        have hH : HT g Ty G_105 H := by rw [← ht, ← eTx_104, eG_105]; exact hB
        have rdx_104 : rgI 0 23 x_104 := hx_104
        refine lv_istore (lv' := [(5, .int x_104), (4, .int x_84), (0, .ref h0), (2, .int a1), (3, .int y3_36)]) hx hb dX12_years_55 hl (by decide) rfl (fun ls hl => ?_)
        refine lv_aload_n hx hb dX12_years_57 rfl (lv_at hl 2 rfl) ?_
        refine lv_iconst (v := 4) hx hb dX12_years_58 (by decide) ?_
        obtain ⟨_, ⟨rfl, t_122, hk_123⟩, o_c_121⟩ := hH h0 _ k_h0
        refine va_calli (va_runV (As := [.int 4]) (rest := []) ⟨hx, hb, hml, hown, hts⟩ (c_X12_draw l g Ty G_105 H.size h0 4 k_h0 (rg_w rl_4 (by decide) (by decide))) (cwV 1 hts (gwV mw_1861 mw_1863 mw_73 mw_88 mw_1864) rfl rfl rfl hv_X12_draw ⟨Nat.le_of_ble_eq_true rfl, Nat.le_of_ble_eq_true rfl⟩) ⟨PcT_blind, hg_recv hK o_c_121 rfl, PcT_pre hK hH⟩ rfl rfl hl.1 rfl (lv_room (Nat.le_of_ble_eq_true rfl)) dX12_years_59 ⟨Nat.zero_le _, Nat.zero_le _⟩) hS (fun q _ h => AF.mono hS.1 h) (fun q h => AF.mono hS.1 h) (fun x_124 ux_124 t H locs ht hvm hx_124 hB hz hk hS => ?_)
        obtain ⟨hx_124, fx_124⟩ := hx_124
        obtain ⟨eTx_124, eGx_124⟩ := fx_124
        obtain ⟨G_125, eG_125⟩ : ∃ z, z = ux_124.2 := ⟨_, rfl⟩
        rw [← eG_125] at eGx_124
        have fr_126 : FR [107, 108, 109, 110, 114, 127, 128, 104, 105, 139] [(g.2.2 124), (g.2.2 115), (g.2.2 125), (g.2.2 126)] [106] G G_125 := FR.tr fr_106 eGx_124 (by decide) (fun _ _ => trivial) (by decide)
        have u_127 : G_125.1 104 = (G_36.1 104) := (eGx_124.1 104 (by decide)).trans u_107
        have u_128 : G_125.1 102 = (G.1 102) := (eGx_124.1 102 (by decide)).trans u_108
        have u_129 : G_125.1 113 = (G.1 113) := (eGx_124.1 113 (by decide)).trans u_109
        have u_130 : G_125.1 122 = (G.1 122) := (eGx_124.1 122 (by decide)).trans u_110
        have u_131 : G_125.1 133 = (G.1 133) := (eGx_124.1 133 (by decide)).trans u_111
        have u_132 : G_125.1 137 = (G.1 137) := (eGx_124.1 137 (by decide)).trans u_112
        have w_133 : G_125.2.1 (g.2.2 100) = (G.2.1 (g.2.2 100)) := (eGx_124.2.1 (g.2.2 100) trivial).trans w_113
        have w_134 : G_125.2.1 (g.2.2 121) = (G.2.1 (g.2.2 121)) := (eGx_124.2.1 (g.2.2 121) trivial).trans w_114
        have w_135 : G_125.2.1 (g.2.2 140) = (G.2.1 (g.2.2 140)) := (eGx_124.2.1 (g.2.2 140) trivial).trans w_115
        have w_136 : G_125.2.1 (g.2.2 141) = (G.2.1 (g.2.2 141)) := (eGx_124.2.1 (g.2.2 141) trivial).trans w_116
        have w_137 : G_125.2.1 (g.2.2 111) = (G.2.1 (g.2.2 111)) := (eGx_124.2.1 (g.2.2 111) trivial).trans w_117
        have w_138 : G_125.2.1 (g.2.2 124) = fl5_36 := (eGx_124.2.1 (g.2.2 124) trivial).trans w_118
        have u_139 : G_125.2.2 111 = some (g.2.2 111) := (eGx_124.2.2 111 (by decide)).trans u_119
        have u_140 : G_125.2.2 112 = some (g.2.2 112) := (eGx_124.2.2 112 (by decide)).trans u_120
        have hH : HT g Ty G_125 H := by rw [← ht, ← eTx_124, eG_125]; exact hB
        have rdx_124 : rgI 0 3 x_124 := hx_124
        refine lv_istore (lv' := [(6, .int x_124), (5, .int x_104), (4, .int x_84), (0, .ref h0), (2, .int a1), (3, .int y3_36)]) hx hb dX12_years_62 hl (by decide) rfl (fun ls hl => ?_)
        obtain ⟨⟨σ_141, hts_142⟩, h1_143, hb_144⟩ := id hi0_36
        obtain ⟨ρ_145, hT_146⟩ := hts_142.1
        refine lv_iload hx hb dX12_years_64 (lv_at hl 2 rfl) ?_
        refine lv_iconst (v := 3) hx hb dX12_years_66 (by decide) ?_
        refine lv_icmp_ge (tgt := 100) hx hb dX12_years_67 (by decide) (fun c_147 => ?_) (fun c_147 => ?_)
        · have r_148 : rgI (3) (5) x_84 := rg_w (rg_leR rl_3 rdx_84 c_147) (by decide) (by decide)
          refine lv_iload hx hb dX12_years_100 (lv_at hl 2 rfl) ?_
          refine lv_iconst (v := 3) hx hb dX12_years_102 (by decide) ?_
          refine lv_icmp_ne (tgt := 129) hx hb dX12_years_103 (by decide) (fun c_149 => ?_) (fun c_149 => ?_)
          · have r_150 : rgI (4) (5) x_84 := rg_w (rg_neL r_148 rl_3 c_149) (by decide) (by decide)
            refine lv_iload hx hb dX12_years_129 (lv_at hl 2 rfl) ?_
            refine lv_iconst (v := 5) hx hb dX12_years_131 (by decide) ?_
            refine lv_icmp_ne (tgt := 162) hx hb dX12_years_132 (by decide) (fun c_151 => ?_) (fun c_151 => ?_)
            · have r_152 : rgI (4) (4) x_84 := rg_w (rg_neR r_150 rl_5 c_151) (by decide) (by decide)
              refine lv_iload hx hb dX12_years_162 (lv_at hl 2 rfl) ?_
              refine lv_iconst (v := 4) hx hb dX12_years_164 (by decide) ?_
              refine lv_icmp_eq (tgt := 171) hx hb dX12_years_165 (by decide) (fun c_153 => ?_) (fun c_153 => ?_)
              · refine lv_aload_n hx hb dX12_years_171 rfl (lv_at hl 3 rfl) ?_
                refine lv_bipush (v := 24) hx hb dX12_years_172 (by decide) ?_
                obtain ⟨_, ⟨rfl, t_155, hk_156⟩, o_c_154⟩ := hH h0 _ k_h0
                refine va_calli (va_runV (As := [.int 24]) (rest := []) ⟨hx, hb, hml, hown, hts⟩ (c_X12_draw l g Ty G_125 H.size h0 24 k_h0 (rg_w rl_24 (by decide) (by decide))) (cwV 1 hts (gwV mw_1861 mw_1863 mw_73 mw_88 mw_1864) rfl rfl rfl hv_X12_draw ⟨Nat.le_of_ble_eq_true rfl, Nat.le_of_ble_eq_true rfl⟩) ⟨PcT_blind, hg_recv hK o_c_154 rfl, PcT_pre hK hH⟩ rfl rfl hl.1 rfl (lv_room (Nat.le_of_ble_eq_true rfl)) dX12_years_174 ⟨Nat.zero_le _, Nat.zero_le _⟩) hS (fun q _ h => AF.mono hS.1 h) (fun q h => AF.mono hS.1 h) (fun x_157 ux_157 t H locs ht hvm hx_157 hB hz hk hS => ?_)
                obtain ⟨hx_157, fx_157⟩ := hx_157
                obtain ⟨eTx_157, eGx_157⟩ := fx_157
                obtain ⟨G_158, eG_158⟩ : ∃ z, z = ux_157.2 := ⟨_, rfl⟩
                rw [← eG_158] at eGx_157
                have fr_159 : FR [107, 108, 109, 110, 114, 127, 128, 104, 105, 139] [(g.2.2 124), (g.2.2 115), (g.2.2 125), (g.2.2 126)] [106] G G_158 := FR.tr fr_126 eGx_157 (by decide) (fun _ _ => trivial) (by decide)
                have u_160 : G_158.1 104 = (G_36.1 104) := (eGx_157.1 104 (by decide)).trans u_127
                have u_161 : G_158.1 102 = (G.1 102) := (eGx_157.1 102 (by decide)).trans u_128
                have u_162 : G_158.1 113 = (G.1 113) := (eGx_157.1 113 (by decide)).trans u_129
                have u_163 : G_158.1 122 = (G.1 122) := (eGx_157.1 122 (by decide)).trans u_130
                have u_164 : G_158.1 133 = (G.1 133) := (eGx_157.1 133 (by decide)).trans u_131
                have u_165 : G_158.1 137 = (G.1 137) := (eGx_157.1 137 (by decide)).trans u_132
                have w_166 : G_158.2.1 (g.2.2 100) = (G.2.1 (g.2.2 100)) := (eGx_157.2.1 (g.2.2 100) trivial).trans w_133
                have w_167 : G_158.2.1 (g.2.2 121) = (G.2.1 (g.2.2 121)) := (eGx_157.2.1 (g.2.2 121) trivial).trans w_134
                have w_168 : G_158.2.1 (g.2.2 140) = (G.2.1 (g.2.2 140)) := (eGx_157.2.1 (g.2.2 140) trivial).trans w_135
                have w_169 : G_158.2.1 (g.2.2 141) = (G.2.1 (g.2.2 141)) := (eGx_157.2.1 (g.2.2 141) trivial).trans w_136
                have w_170 : G_158.2.1 (g.2.2 111) = (G.2.1 (g.2.2 111)) := (eGx_157.2.1 (g.2.2 111) trivial).trans w_137
                have w_171 : G_158.2.1 (g.2.2 124) = fl5_36 := (eGx_157.2.1 (g.2.2 124) trivial).trans w_138
                have u_172 : G_158.2.2 111 = some (g.2.2 111) := (eGx_157.2.2 111 (by decide)).trans u_139
                have u_173 : G_158.2.2 112 = some (g.2.2 112) := (eGx_157.2.2 112 (by decide)).trans u_140
                have hH : HT g Ty G_158 H := by rw [← ht, ← eTx_157, eG_158]; exact hB
                have rdx_157 : rgI 0 23 x_157 := hx_157
                refine lv_istore (lv' := [(7, .int x_157), (6, .int x_124), (5, .int x_104), (4, .int x_84), (0, .ref h0), (2, .int a1), (3, .int y3_36)]) hx hb dX12_years_177 hl (by decide) rfl (fun ls hl => ?_)
                refine lv_aload_n hx hb dX12_years_179 rfl (lv_at hl 4 rfl) ?_
                refine lv_aload_n hx hb dX12_years_180 rfl (lv_at hl 4 rfl) ?_
                obtain ⟨_, ⟨rfl, t_175, hk_176⟩, o_c_174⟩ := hH h0 _ k_h0
                refine hg_get hx hb hG igX12 hown hK o_c_174 rfl 24 (by decide) (hG _ mw_1308) rfl dX12_years_181 ?_
                refine lv_iload hx hb dX12_years_184 (lv_at hl 0 rfl) ?_
                refine lv_iload hx hb dX12_years_186 (lv_at hl 2 rfl) ?_
                refine lv_iload hx hb dX12_years_188 (lv_at hl 1 rfl) ?_
                refine va_calli (va_runV (As := [.ref (g.2.2 124), .int x_157, .int x_104, .int x_124]) (rest := []) ⟨hx, hb, hml, hown, hts⟩ (c_X12_refusesBind l g Ty G_158 H.size h0 (g.2.2 124) x_157 x_104 x_124 k_h0 (hk_176.2.2.2.2.2.2.2.1) ρ_145 (by rw [w_171]; exact hT_146) (g.2.2 111) hmk.2.2.2.2.2.2.2.2.2.2.2.2.2.2.2.2.2.2.2.2.1 u_172 (by rw [u_162]; exact hI.a113)) (cwV 4 hts (gwV mw_1613 mw_1615 mw_58 mw_88 mw_1616) rfl rfl rfl hv_X12_refusesBind ⟨Nat.le_of_ble_eq_true rfl, Nat.le_of_ble_eq_true rfl⟩) ⟨PcT_blind, hg_recv hK o_c_174 rfl, PcT_pre hK hH⟩ rfl rfl hl.1 rfl (lv_room (Nat.le_of_ble_eq_true rfl)) dX12_years_190 ⟨Nat.zero_le _, Nat.zero_le _⟩) hS (fun q _ h => AF.mono hS.1 h) (fun q h => AF.mono hS.1 h) (fun x_177 ux_177 t H locs ht hvm hx_177 hB hz hk hS => ?_)
                obtain ⟨hx_177, fx_177⟩ := hx_177
                obtain ⟨eTx_177, eGx_177⟩ := fx_177
                obtain ⟨G_178, eG_178⟩ : ∃ z, z = ux_177.2 := ⟨_, rfl⟩
                rw [← eG_178] at eGx_177
                have fr_179 : FR [107, 108, 109, 110, 114, 127, 128, 104, 105, 139] [(g.2.2 124), (g.2.2 115), (g.2.2 125), (g.2.2 126)] [106] G G_178 := FR.tr fr_159 eGx_177 (by decide) (fun b h => ⟨h.2.1, trivial⟩) (by decide)
                have u_180 : G_178.1 104 = (G_36.1 104) := (eGx_177.1 104 (by decide)).trans u_160
                have u_181 : G_178.1 102 = (G.1 102) := (eGx_177.1 102 (by decide)).trans u_161
                have u_182 : G_178.1 113 = (G.1 113) := (eGx_177.1 113 (by decide)).trans u_162
                have u_183 : G_178.1 122 = (G.1 122) := (eGx_177.1 122 (by decide)).trans u_163
                have u_184 : G_178.1 133 = (G.1 133) := (eGx_177.1 133 (by decide)).trans u_164
                have u_185 : G_178.1 137 = (G.1 137) := (eGx_177.1 137 (by decide)).trans u_165
                have w_186 : G_178.2.1 (g.2.2 100) = (G.2.1 (g.2.2 100)) := (eGx_177.2.1 (g.2.2 100) ⟨(ne_kd hmk.1 hmk.2.2.2.1 (by decide)), trivial⟩).trans w_166
                have w_187 : G_178.2.1 (g.2.2 121) = (G.2.1 (g.2.2 121)) := (eGx_177.2.1 (g.2.2 121) ⟨(ne_kd hmk.2.2.2.2.2.1 hmk.2.2.2.1 (by decide)), trivial⟩).trans w_167
                have w_188 : G_178.2.1 (g.2.2 140) = (G.2.1 (g.2.2 140)) := (eGx_177.2.1 (g.2.2 140) ⟨(ne_kd hmk.2.2.2.2.2.2.2.2.2.2.2.2.2.2.2.2.2.2.1 hmk.2.2.2.1 (by decide)), trivial⟩).trans w_168
                have w_189 : G_178.2.1 (g.2.2 141) = (G.2.1 (g.2.2 141)) := (eGx_177.2.1 (g.2.2 141) ⟨(ne_kd hmk.2.2.2.2.2.2.2.2.2.2.2.2.2.2.2.2.2.2.2.1 hmk.2.2.2.1 (by decide)), trivial⟩).trans w_169
                have w_190 : G_178.2.1 (g.2.2 111) = (G.2.1 (g.2.2 111)) := (eGx_177.2.1 (g.2.2 111) ⟨(ne_kd hmk.2.2.2.2.2.2.2.2.2.2.2.2.2.2.2.2.2.2.2.2.1 hmk.2.2.2.1 (by decide)), trivial⟩).trans w_170
                have w_191 : G_178.2.1 (g.2.2 124) = fl5_36 := (eGx_177.2.1 (g.2.2 124) ⟨(ne_kd hmk.2.2.2.2.2.2.2.1 hmk.2.2.2.1 (by decide)), trivial⟩).trans w_171
                have u_192 : G_178.2.2 111 = some (g.2.2 111) := (eGx_177.2.2 111 (by decide)).trans u_172
                have u_193 : G_178.2.2 112 = some (g.2.2 112) := (eGx_177.2.2 112 (by decide)).trans u_173
                have hH : HT g Ty G_178 H := by rw [← ht, ← eTx_177, eG_178]; exact hB
                have rx_177 : rgI (-9) (0) x_177 := hx_177.1
                have tx_194 := hx_177.2
                try rw [w_171] at tx_194
                try rw [w_170] at tx_194
                try rw [u_162] at tx_194
                try rw [w_166] at tx_194
                refine lv_if_ne (tgt := 211) hx hb dX12_years_193 (by decide) (fun c_195 => ?_) (fun c_195 => ?_)
                · have r_196 : rgI (-9) (-1) x_177 := rg_w (rg_neR rx_177 rl_0 c_195) (by decide) (by decide)
                  obtain ⟨x_197, ex_197⟩ : ∃ y : Int32, y = y3_36 + 1 := ⟨_, rfl⟩
                  have rx_197 : rgI (1) (40) x_197 := by rw [ex_197]; exact rg_w (rg_add r_80 rl_1 (by decide) (by decide)) (by decide) (by decide)
                  have qx_197 : x_197.toInt = (y3_36 : Int32).toInt + 1 := by rw [ex_197]; exact rg_addE r_80 rl_1 (by decide) (by decide)
                  refine lv_iinc (v := x_197) (lv' := [(3, .int x_197), (7, .int x_157), (6, .int x_124), (5, .int x_104), (4, .int x_84), (0, .ref h0), (2, .int a1)]) hx hb dX12_years_211 hl (k := 6) rfl (by rw [ex_197]; rfl) (by decide) rfl (fun ls hl => ?_)
                  refine lv_goto (tgt := 36) hx hb dX12_years_214 (by decide) ?_
                  exact ih_36 H locs G_178 fl5_36 x_197 ls (by rw [u_180]; exact rg_w rg104_36 (by decide) (by decide)) fr_179 w_191 ry2_36 (rg_w rx_197 (by decide) (by decide)) (TI.hi hi0_36 (by have q := qx_197; omega)) (by have h1 := qx_197; have h2 := r_80.1; have h3 := r_80.2; have h4 := hm_36; omega) (lv_sub hl [5, 6, 0] rfl) hH hS
                · have r_198 : rgI (0) (0) x_177 := rg_w (rg_eq rl_0 c_195) (by decide) (by decide)
                  have c0_199 := tx_194 c_195
                  refine lv_aload_n hx hb dX12_years_196 rfl (lv_at hl 4 rfl) ?_
                  refine lv_aload_n hx hb dX12_years_197 rfl (lv_at hl 4 rfl) ?_
                  obtain ⟨_, ⟨rfl, t_201, hk_202⟩, o_c_200⟩ := hH h0 _ k_h0
                  refine hg_get hx hb hG igX12 hown hK o_c_200 rfl 24 (by decide) (hG _ mw_1308) rfl dX12_years_198 ?_
                  refine lv_iload hx hb dX12_years_201 (lv_at hl 0 rfl) ?_
                  refine lv_iload hx hb dX12_years_203 (lv_at hl 2 rfl) ?_
                  refine lv_iload hx hb dX12_years_205 (lv_at hl 1 rfl) ?_
                  refine va_calli (va_runV (As := [.ref (g.2.2 124), .int x_157, .int x_104, .int x_124]) (rest := []) ⟨hx, hb, hml, hown, hts⟩ (c_X12_goClone l g Ty G_178 H.size h0 (g.2.2 124) x_157 x_104 x_124 k_h0 (hk_202.2.2.2.2.2.2.2.1) (rg_w rdx_157 (by decide) (by decide)) (rg_w rdx_104 (by decide) (by decide)) (rg_w rdx_124 (by decide) (by decide)) (g.2.2 111) hmk.2.2.2.2.2.2.2.2.2.2.2.2.2.2.2.2.2.2.2.2.1 u_192 (by rw [u_182]; exact hI.a113) hLD σ_141 (by rw [w_191]; exact hts_142) (by rw [w_191]; exact h1_143) (Bd + 25 * (y3_36 : Int32).toInt) (by rw [w_191]; exact hb_144) (by rw [w_191]; exact (Int.le_trans hb_144 (by have q := (r_80).2; omega))) (by rw [w_191]; exact (Or.inr c0_199.1)) (by rw [w_191, w_190, u_182]; exact c0_199.2)) (cwV 4 hts (gwV mw_1584 mw_1586 mw_54 mw_88 mw_1587) rfl rfl rfl hv_X12_goClone ⟨Nat.le_of_ble_eq_true rfl, Nat.le_of_ble_eq_true rfl⟩) ⟨PcT_blind, hg_recv hK o_c_200 rfl, PcT_pre hK hH⟩ rfl rfl hl.1 rfl (lv_room (Nat.le_of_ble_eq_true rfl)) dX12_years_207 ⟨Nat.zero_le _, Nat.zero_le _⟩) hS (fun q _ h => AF.mono hS.1 h) (fun q h => AF.mono hS.1 h) (fun x_203 ux_203 t H locs ht hvm hx_203 hB hz hk hS => ?_)
                  obtain ⟨eTx_203, eGx_203⟩ := hx_203
                  obtain ⟨G_204, eG_204⟩ : ∃ z, z = ux_203.2 := ⟨_, rfl⟩
                  rw [← eG_204] at eGx_203
                  obtain ⟨hfr_205, hex_206⟩ := eGx_203
                  have fr_207 : FR [107, 108, 109, 110, 114, 127, 128, 104, 105, 139] [(g.2.2 124), (g.2.2 115), (g.2.2 125), (g.2.2 126)] [106] G G_204 := FR.tr fr_179 hfr_205 (by decide) (fun b h => ⟨h.1, h.2.1, h.2.2.1, h.2.2.2.1, trivial⟩) (by decide)
                  have u_208 : G_204.1 104 = (G_36.1 104) := (hfr_205.1 104 (by decide)).trans u_180
                  have u_209 : G_204.1 102 = (G.1 102) := (hfr_205.1 102 (by decide)).trans u_181
                  have u_210 : G_204.1 113 = (G.1 113) := (hfr_205.1 113 (by decide)).trans u_182
                  have u_211 : G_204.1 122 = (G.1 122) := (hfr_205.1 122 (by decide)).trans u_183
                  have u_212 : G_204.1 133 = (G.1 133) := (hfr_205.1 133 (by decide)).trans u_184
                  have u_213 : G_204.1 137 = (G.1 137) := (hfr_205.1 137 (by decide)).trans u_185
                  have w_214 : G_204.2.1 (g.2.2 100) = (G.2.1 (g.2.2 100)) := (hfr_205.2.1 (g.2.2 100) ⟨(hLD 100 (by decide) 124 (by decide) (by decide)), (ne_kd hmk.1 hmk.2.2.2.1 (by decide)), (ne_kd hmk.1 hmk.2.2.2.2.2.2.2.2.1 (by decide)), (ne_kd hmk.1 hmk.2.2.2.2.2.2.2.2.2.1 (by decide)), trivial⟩).trans w_186
                  have w_215 : G_204.2.1 (g.2.2 121) = (G.2.1 (g.2.2 121)) := (hfr_205.2.1 (g.2.2 121) ⟨(ne_kd hmk.2.2.2.2.2.1 hmk.2.2.2.2.2.2.2.1 (by decide)), (ne_kd hmk.2.2.2.2.2.1 hmk.2.2.2.1 (by decide)), (ne_kd hmk.2.2.2.2.2.1 hmk.2.2.2.2.2.2.2.2.1 (by decide)), (ne_kd hmk.2.2.2.2.2.1 hmk.2.2.2.2.2.2.2.2.2.1 (by decide)), trivial⟩).trans w_187
                  have w_216 : G_204.2.1 (g.2.2 140) = (G.2.1 (g.2.2 140)) := (hfr_205.2.1 (g.2.2 140) ⟨(ne_kd hmk.2.2.2.2.2.2.2.2.2.2.2.2.2.2.2.2.2.2.1 hmk.2.2.2.2.2.2.2.1 (by decide)), (ne_kd hmk.2.2.2.2.2.2.2.2.2.2.2.2.2.2.2.2.2.2.1 hmk.2.2.2.1 (by decide)), (ne_kd hmk.2.2.2.2.2.2.2.2.2.2.2.2.2.2.2.2.2.2.1 hmk.2.2.2.2.2.2.2.2.1 (by decide)), (ne_kd hmk.2.2.2.2.2.2.2.2.2.2.2.2.2.2.2.2.2.2.1 hmk.2.2.2.2.2.2.2.2.2.1 (by decide)), trivial⟩).trans w_188
                  have w_217 : G_204.2.1 (g.2.2 141) = (G.2.1 (g.2.2 141)) := (hfr_205.2.1 (g.2.2 141) ⟨(ne_kd hmk.2.2.2.2.2.2.2.2.2.2.2.2.2.2.2.2.2.2.2.1 hmk.2.2.2.2.2.2.2.1 (by decide)), (ne_kd hmk.2.2.2.2.2.2.2.2.2.2.2.2.2.2.2.2.2.2.2.1 hmk.2.2.2.1 (by decide)), (ne_kd hmk.2.2.2.2.2.2.2.2.2.2.2.2.2.2.2.2.2.2.2.1 hmk.2.2.2.2.2.2.2.2.1 (by decide)), (ne_kd hmk.2.2.2.2.2.2.2.2.2.2.2.2.2.2.2.2.2.2.2.1 hmk.2.2.2.2.2.2.2.2.2.1 (by decide)), trivial⟩).trans w_189
                  have w_218 : G_204.2.1 (g.2.2 111) = (G.2.1 (g.2.2 111)) := (hfr_205.2.1 (g.2.2 111) ⟨(ne_kd hmk.2.2.2.2.2.2.2.2.2.2.2.2.2.2.2.2.2.2.2.2.1 hmk.2.2.2.2.2.2.2.1 (by decide)), (ne_kd hmk.2.2.2.2.2.2.2.2.2.2.2.2.2.2.2.2.2.2.2.2.1 hmk.2.2.2.1 (by decide)), (ne_kd hmk.2.2.2.2.2.2.2.2.2.2.2.2.2.2.2.2.2.2.2.2.1 hmk.2.2.2.2.2.2.2.2.1 (by decide)), (ne_kd hmk.2.2.2.2.2.2.2.2.2.2.2.2.2.2.2.2.2.2.2.2.1 hmk.2.2.2.2.2.2.2.2.2.1 (by decide)), trivial⟩).trans w_190
                  have u_219 : G_204.2.2 111 = some (g.2.2 111) := (hfr_205.2.2 111 (by decide)).trans u_192
                  have u_220 : G_204.2.2 112 = some (g.2.2 112) := (hfr_205.2.2 112 (by decide)).trans u_193
                  obtain ⟨f_221, ef_221⟩ : ∃ z : Nat → Int32, G_204.2.1 (g.2.2 124) = z := ⟨_, rfl⟩
                  have gc_222 := hex_206
                  rw [ef_221, w_191, w_190, u_182] at gc_222
                  have hH : HT g Ty G_204 H := by rw [← ht, ← eTx_203, eG_204]; exact hB
                  refine lv_pop hx hb dX12_years_210 rfl ?_
                  obtain ⟨x_223, ex_223⟩ : ∃ y : Int32, y = y3_36 + 1 := ⟨_, rfl⟩
                  have rx_223 : rgI (1) (40) x_223 := by rw [ex_223]; exact rg_w (rg_add r_80 rl_1 (by decide) (by decide)) (by decide) (by decide)
                  have qx_223 : x_223.toInt = (y3_36 : Int32).toInt + 1 := by rw [ex_223]; exact rg_addE r_80 rl_1 (by decide) (by decide)
                  refine lv_iinc (v := x_223) (lv' := [(3, .int x_223), (7, .int x_157), (6, .int x_124), (5, .int x_104), (4, .int x_84), (0, .ref h0), (2, .int a1)]) hx hb dX12_years_211 hl (k := 6) rfl (by rw [ex_223]; rfl) (by decide) rfl (fun ls hl => ?_)
                  refine lv_goto (tgt := 36) hx hb dX12_years_214 (by decide) ?_
                  exact ih_36 H locs G_204 f_221 x_223 ls (by rw [u_208]; exact rg_w rg104_36 (by decide) (by decide)) fr_207 ef_221 ry2_36 (rg_w rx_223 (by decide) (by decide)) (TI.hi gc_222.1 (by have q := qx_223; omega)) (by have h1 := qx_223; have h2 := r_80.1; have h3 := r_80.2; have h4 := hm_36; omega) (lv_sub hl [5, 6, 0] rfl) hH hS
              · exact rg_clash (rg_neL r_152 rl_4 c_153) (r_152) (by decide)
            · have r_224 : rgI (5) (5) x_84 := rg_w (rg_eq rl_5 c_151) (by decide) (by decide)
              refine lv_aload_n hx hb dX12_years_135 rfl (lv_at hl 3 rfl) ?_
              obtain ⟨_, ⟨rfl, t_226, hk_227⟩, o_c_225⟩ := hH h0 _ k_h0
              refine hg_get hx hb hG igX12 hown hK o_c_225 rfl 24 (by decide) (hG _ mw_1308) rfl dX12_years_136 ?_
              refine lv_iload hx hb dX12_years_139 (lv_at hl 1 rfl) ?_
              refine lv_iload hx hb dX12_years_141 (lv_at hl 0 rfl) ?_
              refine vp_callSi (W.runS (As := [.ref (g.2.2 124), .int x_104, .int x_124]) (rest := []) ⟨hx, hb, hml, hown, hts⟩ (c_X12_refusesUnmount l g Ty G_125 (g.2.2 124) x_104 x_124 (hk_227.2.2.2.2.2.2.2.1)) (cwSx 3 hts hG (gwC mw_1655) mw_88 mw_1653 mw_1654 rfl rfl rfl hd_X12_refusesUnmount ⟨Nat.le_of_ble_eq_true rfl, Nat.le_of_ble_eq_true rfl⟩) ⟨PcH_blind, PcH_pre hK hH⟩ rfl rfl hl.1 rfl (lv_room (Nat.le_of_ble_eq_true rfl)) dX12_years_143 ⟨Nat.zero_le _, Nat.zero_le _⟩) (fun x_228 hx_228 => ?_)
              have rx_228 : rgI (-3) (0) x_228 := hx_228.1
              have ex_229 : x_228 = F_X12_refusesUnmount fl5_36 x_104 x_124 := by rw [← w_138]; exact hx_228.2
              refine lv_if_ne (tgt := 162) hx hb dX12_years_146 (by decide) (fun c_230 => ?_) (fun c_230 => ?_)
              · have r_231 : rgI (-3) (-1) x_228 := rg_w (rg_neR rx_228 rl_0 c_230) (by decide) (by decide)
                refine lv_iload hx hb dX12_years_162 (lv_at hl 2 rfl) ?_
                refine lv_iconst (v := 4) hx hb dX12_years_164 (by decide) ?_
                refine lv_icmp_eq (tgt := 171) hx hb dX12_years_165 (by decide) (fun c_232 => ?_) (fun c_232 => ?_)
                · exact rg_noE r_224 rl_4 c_232 (by decide)
                · refine lv_goto (tgt := 211) hx hb dX12_years_168 (by decide) ?_
                  obtain ⟨x_233, ex_233⟩ : ∃ y : Int32, y = y3_36 + 1 := ⟨_, rfl⟩
                  have rx_233 : rgI (1) (40) x_233 := by rw [ex_233]; exact rg_w (rg_add r_80 rl_1 (by decide) (by decide)) (by decide) (by decide)
                  have qx_233 : x_233.toInt = (y3_36 : Int32).toInt + 1 := by rw [ex_233]; exact rg_addE r_80 rl_1 (by decide) (by decide)
                  refine lv_iinc (v := x_233) (lv' := [(3, .int x_233), (6, .int x_124), (5, .int x_104), (4, .int x_84), (0, .ref h0), (2, .int a1)]) hx hb dX12_years_211 hl (k := 5) rfl (by rw [ex_233]; rfl) (by decide) rfl (fun ls hl => ?_)
                  refine lv_goto (tgt := 36) hx hb dX12_years_214 (by decide) ?_
                  exact ih_36 H locs G_125 fl5_36 x_233 ls (by rw [u_127]; exact rg_w rg104_36 (by decide) (by decide)) fr_126 w_138 ry2_36 (rg_w rx_233 (by decide) (by decide)) (TI.hi hi0_36 (by have q := qx_233; omega)) (by have h1 := qx_233; have h2 := r_80.1; have h3 := r_80.2; have h4 := hm_36; omega) (lv_sub hl [4, 5, 0] rfl) hH hS
              · have r_234 : rgI (0) (0) x_228 := rg_w (rg_eq rl_0 c_230) (by decide) (by decide)
                have th_235 : thr fl5_36 x_104 := ru_z ex_229 c_230
                refine lv_aload_n hx hb dX12_years_149 rfl (lv_at hl 3 rfl) ?_
                refine lv_aload_n hx hb dX12_years_150 rfl (lv_at hl 3 rfl) ?_
                refine hg_get hx hb hG igX12 hown hK o_c_225 rfl 24 (by decide) (hG _ mw_1308) rfl dX12_years_151 ?_
                refine lv_iload hx hb dX12_years_154 (lv_at hl 1 rfl) ?_
                refine lv_iload hx hb dX12_years_156 (lv_at hl 0 rfl) ?_
                refine va_calli (va_runV (As := [.ref (g.2.2 124), .int x_104, .int x_124]) (rest := []) ⟨hx, hb, hml, hown, hts⟩ (c_X12_goUnmount l g Ty G_125 H.size h0 (g.2.2 124) x_104 x_124 k_h0 (hk_227.2.2.2.2.2.2.2.1) (rg_w rdx_104 (by decide) (by decide)) (Bd + 25 * (y3_36 : Int32).toInt) (by rw [w_138]; exact hi0_36) (by rw [w_138]; exact th_235) (g.2.2 111) hmk.2.2.2.2.2.2.2.2.2.2.2.2.2.2.2.2.2.2.2.2.1 u_139 (by rw [u_129]; exact hI.a113)) (cwV 3 hts (gwV mw_1656 mw_1658 mw_62 mw_88 mw_1659) rfl rfl rfl hv_X12_goUnmount ⟨Nat.le_of_ble_eq_true rfl, Nat.le_of_ble_eq_true rfl⟩) ⟨PcT_blind, hg_recv hK o_c_225 rfl, PcT_pre hK hH⟩ rfl rfl hl.1 rfl (lv_room (Nat.le_of_ble_eq_true rfl)) dX12_years_158 ⟨Nat.zero_le _, Nat.zero_le _⟩) hS (fun q _ h => AF.mono hS.1 h) (fun q h => AF.mono hS.1 h) (fun x_236 ux_236 t H locs ht hvm hx_236 hB hz hk hS => ?_)
                obtain ⟨eTx_236, eGx_236⟩ := hx_236
                obtain ⟨G_237, eG_237⟩ : ∃ z, z = ux_236.2 := ⟨_, rfl⟩
                rw [← eG_237] at eGx_236
                obtain ⟨hfr_238, hex_239⟩ := eGx_236
                have fr_240 : FR [107, 108, 109, 110, 114, 127, 128, 104, 105, 139] [(g.2.2 124), (g.2.2 115), (g.2.2 125), (g.2.2 126)] [106] G G_237 := FR.tr fr_126 hfr_238 (by decide) (fun b h => ⟨h.1, h.2.1, trivial⟩) (by decide)
                have u_241 : G_237.1 104 = (G_36.1 104) := (hfr_238.1 104 (by decide)).trans u_127
                have u_242 : G_237.1 102 = (G.1 102) := (hfr_238.1 102 (by decide)).trans u_128
                have u_243 : G_237.1 113 = (G.1 113) := (hfr_238.1 113 (by decide)).trans u_129
                have u_244 : G_237.1 122 = (G.1 122) := (hfr_238.1 122 (by decide)).trans u_130
                have u_245 : G_237.1 133 = (G.1 133) := (hfr_238.1 133 (by decide)).trans u_131
                have u_246 : G_237.1 137 = (G.1 137) := (hfr_238.1 137 (by decide)).trans u_132
                have w_247 : G_237.2.1 (g.2.2 100) = (G.2.1 (g.2.2 100)) := (hfr_238.2.1 (g.2.2 100) ⟨(hLD 100 (by decide) 124 (by decide) (by decide)), (ne_kd hmk.1 hmk.2.2.2.1 (by decide)), trivial⟩).trans w_133
                have w_248 : G_237.2.1 (g.2.2 121) = (G.2.1 (g.2.2 121)) := (hfr_238.2.1 (g.2.2 121) ⟨(ne_kd hmk.2.2.2.2.2.1 hmk.2.2.2.2.2.2.2.1 (by decide)), (ne_kd hmk.2.2.2.2.2.1 hmk.2.2.2.1 (by decide)), trivial⟩).trans w_134
                have w_249 : G_237.2.1 (g.2.2 140) = (G.2.1 (g.2.2 140)) := (hfr_238.2.1 (g.2.2 140) ⟨(ne_kd hmk.2.2.2.2.2.2.2.2.2.2.2.2.2.2.2.2.2.2.1 hmk.2.2.2.2.2.2.2.1 (by decide)), (ne_kd hmk.2.2.2.2.2.2.2.2.2.2.2.2.2.2.2.2.2.2.1 hmk.2.2.2.1 (by decide)), trivial⟩).trans w_135
                have w_250 : G_237.2.1 (g.2.2 141) = (G.2.1 (g.2.2 141)) := (hfr_238.2.1 (g.2.2 141) ⟨(ne_kd hmk.2.2.2.2.2.2.2.2.2.2.2.2.2.2.2.2.2.2.2.1 hmk.2.2.2.2.2.2.2.1 (by decide)), (ne_kd hmk.2.2.2.2.2.2.2.2.2.2.2.2.2.2.2.2.2.2.2.1 hmk.2.2.2.1 (by decide)), trivial⟩).trans w_136
                have w_251 : G_237.2.1 (g.2.2 111) = (G.2.1 (g.2.2 111)) := (hfr_238.2.1 (g.2.2 111) ⟨(ne_kd hmk.2.2.2.2.2.2.2.2.2.2.2.2.2.2.2.2.2.2.2.2.1 hmk.2.2.2.2.2.2.2.1 (by decide)), (ne_kd hmk.2.2.2.2.2.2.2.2.2.2.2.2.2.2.2.2.2.2.2.2.1 hmk.2.2.2.1 (by decide)), trivial⟩).trans w_137
                have u_252 : G_237.2.2 111 = some (g.2.2 111) := (hfr_238.2.2 111 (by decide)).trans u_139
                have u_253 : G_237.2.2 112 = some (g.2.2 112) := (hfr_238.2.2 112 (by decide)).trans u_140
                obtain ⟨f_254, ef_254⟩ : ∃ z : Nat → Int32, G_237.2.1 (g.2.2 124) = z := ⟨_, rfl⟩
                have ti_255 := hex_239
                rw [ef_254] at ti_255
                have hH : HT g Ty G_237 H := by rw [← ht, ← eTx_236, eG_237]; exact hB
                refine lv_pop hx hb dX12_years_161 rfl ?_
                refine lv_iload hx hb dX12_years_162 (lv_at hl 2 rfl) ?_
                refine lv_iconst (v := 4) hx hb dX12_years_164 (by decide) ?_
                refine lv_icmp_eq (tgt := 171) hx hb dX12_years_165 (by decide) (fun c_256 => ?_) (fun c_256 => ?_)
                · exact rg_noE r_224 rl_4 c_256 (by decide)
                · refine lv_goto (tgt := 211) hx hb dX12_years_168 (by decide) ?_
                  obtain ⟨x_257, ex_257⟩ : ∃ y : Int32, y = y3_36 + 1 := ⟨_, rfl⟩
                  have rx_257 : rgI (1) (40) x_257 := by rw [ex_257]; exact rg_w (rg_add r_80 rl_1 (by decide) (by decide)) (by decide) (by decide)
                  have qx_257 : x_257.toInt = (y3_36 : Int32).toInt + 1 := by rw [ex_257]; exact rg_addE r_80 rl_1 (by decide) (by decide)
                  refine lv_iinc (v := x_257) (lv' := [(3, .int x_257), (6, .int x_124), (5, .int x_104), (4, .int x_84), (0, .ref h0), (2, .int a1)]) hx hb dX12_years_211 hl (k := 5) rfl (by rw [ex_257]; rfl) (by decide) rfl (fun ls hl => ?_)
                  refine lv_goto (tgt := 36) hx hb dX12_years_214 (by decide) ?_
                  exact ih_36 H locs G_237 f_254 x_257 ls (by rw [u_241]; exact rg_w rg104_36 (by decide) (by decide)) fr_240 ef_254 ry2_36 (rg_w rx_257 (by decide) (by decide)) (TI.hi ti_255 (by have q := qx_257; omega)) (by have h1 := qx_257; have h2 := r_80.1; have h3 := r_80.2; have h4 := hm_36; omega) (lv_sub hl [4, 5, 0] rfl) hH hS
          · have r_258 : rgI (3) (3) x_84 := rg_w (rg_eq rl_3 c_149) (by decide) (by decide)
            refine lv_aload_n hx hb dX12_years_106 rfl (lv_at hl 3 rfl) ?_
            obtain ⟨_, ⟨rfl, t_260, hk_261⟩, o_c_259⟩ := hH h0 _ k_h0
            refine hg_get hx hb hG igX12 hown hK o_c_259 rfl 24 (by decide) (hG _ mw_1308) rfl dX12_years_107 ?_
            refine lv_iload hx hb dX12_years_110 (lv_at hl 1 rfl) ?_
            refine lv_iconst (v := 1) hx hb dX12_years_112 (by decide) ?_
            refine vp_callSi (W.runS (As := [.ref (g.2.2 124), .int x_104, .int 1]) (rest := []) ⟨hx, hb, hml, hown, hts⟩ (c_X12_refusesMaking l g Ty G_125 (g.2.2 124) x_104 1 (hk_261.2.2.2.2.2.2.2.1)) (cwSx 3 hts hG (gwC mw_1642) mw_88 mw_1640 mw_1641 rfl rfl rfl hd_X12_refusesMaking ⟨Nat.le_of_ble_eq_true rfl, Nat.le_of_ble_eq_true rfl⟩) ⟨PcH_blind, PcH_pre hK hH⟩ rfl rfl hl.1 rfl (lv_room (Nat.le_of_ble_eq_true rfl)) dX12_years_113 ⟨Nat.zero_le _, Nat.zero_le _⟩) (fun x_262 hx_262 => ?_)
            have rx_262 : rgI (-2) (0) x_262 := hx_262.1
            have ex_263 : x_262 = F_X12_refusesMaking fl5_36 x_104 1 := by rw [← w_138]; exact hx_262.2
            refine lv_if_ne (tgt := 129) hx hb dX12_years_116 (by decide) (fun c_264 => ?_) (fun c_264 => ?_)
            · have r_265 : rgI (-2) (-1) x_262 := rg_w (rg_neR rx_262 rl_0 c_264) (by decide) (by decide)
              refine lv_iload hx hb dX12_years_129 (lv_at hl 2 rfl) ?_
              refine lv_iconst (v := 5) hx hb dX12_years_131 (by decide) ?_
              refine lv_icmp_ne (tgt := 162) hx hb dX12_years_132 (by decide) (fun c_266 => ?_) (fun c_266 => ?_)
              · refine lv_iload hx hb dX12_years_162 (lv_at hl 2 rfl) ?_
                refine lv_iconst (v := 4) hx hb dX12_years_164 (by decide) ?_
                refine lv_icmp_eq (tgt := 171) hx hb dX12_years_165 (by decide) (fun c_267 => ?_) (fun c_267 => ?_)
                · exact rg_noE r_258 rl_4 c_267 (by decide)
                · refine lv_goto (tgt := 211) hx hb dX12_years_168 (by decide) ?_
                  obtain ⟨x_268, ex_268⟩ : ∃ y : Int32, y = y3_36 + 1 := ⟨_, rfl⟩
                  have rx_268 : rgI (1) (40) x_268 := by rw [ex_268]; exact rg_w (rg_add r_80 rl_1 (by decide) (by decide)) (by decide) (by decide)
                  have qx_268 : x_268.toInt = (y3_36 : Int32).toInt + 1 := by rw [ex_268]; exact rg_addE r_80 rl_1 (by decide) (by decide)
                  refine lv_iinc (v := x_268) (lv' := [(3, .int x_268), (6, .int x_124), (5, .int x_104), (4, .int x_84), (0, .ref h0), (2, .int a1)]) hx hb dX12_years_211 hl (k := 5) rfl (by rw [ex_268]; rfl) (by decide) rfl (fun ls hl => ?_)
                  refine lv_goto (tgt := 36) hx hb dX12_years_214 (by decide) ?_
                  exact ih_36 H locs G_125 fl5_36 x_268 ls (by rw [u_127]; exact rg_w rg104_36 (by decide) (by decide)) fr_126 w_138 ry2_36 (rg_w rx_268 (by decide) (by decide)) (TI.hi hi0_36 (by have q := qx_268; omega)) (by have h1 := qx_268; have h2 := r_80.1; have h3 := r_80.2; have h4 := hm_36; omega) (lv_sub hl [4, 5, 0] rfl) hH hS
              · exact rg_noE r_258 rl_5 c_266 (by decide)
            · have r_269 : rgI (0) (0) x_262 := rg_w (rg_eq rl_0 c_264) (by decide) (by decide)
              have th_270 : thr fl5_36 x_104 := rk_z ex_263 c_264
              refine lv_aload_n hx hb dX12_years_119 rfl (lv_at hl 3 rfl) ?_
              refine hg_get hx hb hG igX12 hown hK o_c_259 rfl 24 (by decide) (hG _ mw_1308) rfl dX12_years_120 ?_
              refine lv_iload hx hb dX12_years_123 (lv_at hl 1 rfl) ?_
              refine lv_iconst (v := 1) hx hb dX12_years_125 (by decide) ?_
              refine va_callv (va_runS (As := [.ref (g.2.2 124), .int x_104, .int 1]) (rest := []) ⟨hx, hb, hml, hown, hts⟩ (c_X12_goMake l g Ty G_125 H.size (g.2.2 124) x_104 1 (hk_261.2.2.2.2.2.2.2.1) (rg_w rdx_104 (by decide) (by decide))) (cwSx 3 hts hG (gwC mw_1645) mw_88 mw_1643 mw_1644 rfl rfl rfl hd_X12_goMake ⟨Nat.le_of_ble_eq_true rfl, Nat.le_of_ble_eq_true rfl⟩) ⟨PcT_blind, PcT_pre hK hH⟩ rfl rfl hl.1 rfl (lv_room (Nat.le_of_ble_eq_true rfl)) dX12_years_126 ⟨Nat.zero_le _, Nat.zero_le _⟩) hS (fun q _ h => AF.mono hS.1 h) (fun q h => AF.mono hS.1 h) (fun ux_271 t H locs ht hvm hx_271 hB hz hk hS => ?_)
              obtain ⟨eTx_271, eGx_271⟩ := hx_271
              obtain ⟨G_272, eG_272⟩ : ∃ z, z = ux_271.2 := ⟨_, rfl⟩
              rw [← eG_272] at eGx_271
              have hg_274 := eGx_271
              rw [w_138] at hg_274
              obtain ⟨f_273, ef_273⟩ : ∃ z : Nat → Int32, z = F_X12_goMake fl5_36 x_104 1 := ⟨_, rfl⟩
              rw [← ef_273] at hg_274
              have fr_275 : FR [107, 108, 109, 110, 114, 127, 128, 104, 105, 139] [(g.2.2 124), (g.2.2 115), (g.2.2 125), (g.2.2 126)] [106] G G_272 := FR.a fr_126 hg_274 (fun b h => h.1)
              have u_276 : G_272.1 104 = (G_36.1 104) := by rw [hg_274]; exact u_127
              have u_277 : G_272.1 102 = (G.1 102) := by rw [hg_274]; exact u_128
              have u_278 : G_272.1 113 = (G.1 113) := by rw [hg_274]; exact u_129
              have u_279 : G_272.1 122 = (G.1 122) := by rw [hg_274]; exact u_130
              have u_280 : G_272.1 133 = (G.1 133) := by rw [hg_274]; exact u_131
              have u_281 : G_272.1 137 = (G.1 137) := by rw [hg_274]; exact u_132
              have w_282 : G_272.2.1 (g.2.2 100) = (G.2.1 (g.2.2 100)) := by rw [hg_274]; exact (aset_ne (hLD 100 (by decide) 124 (by decide) (by decide))).trans w_133
              have w_283 : G_272.2.1 (g.2.2 121) = (G.2.1 (g.2.2 121)) := by rw [hg_274]; exact (aset_ne (ne_kd hmk.2.2.2.2.2.1 hmk.2.2.2.2.2.2.2.1 (by decide))).trans w_134
              have w_284 : G_272.2.1 (g.2.2 140) = (G.2.1 (g.2.2 140)) := by rw [hg_274]; exact (aset_ne (ne_kd hmk.2.2.2.2.2.2.2.2.2.2.2.2.2.2.2.2.2.2.1 hmk.2.2.2.2.2.2.2.1 (by decide))).trans w_135
              have w_285 : G_272.2.1 (g.2.2 141) = (G.2.1 (g.2.2 141)) := by rw [hg_274]; exact (aset_ne (ne_kd hmk.2.2.2.2.2.2.2.2.2.2.2.2.2.2.2.2.2.2.2.1 hmk.2.2.2.2.2.2.2.1 (by decide))).trans w_136
              have w_286 : G_272.2.1 (g.2.2 111) = (G.2.1 (g.2.2 111)) := by rw [hg_274]; exact (aset_ne (ne_kd hmk.2.2.2.2.2.2.2.2.2.2.2.2.2.2.2.2.2.2.2.2.1 hmk.2.2.2.2.2.2.2.1 (by decide))).trans w_137
              have w_287 : G_272.2.1 (g.2.2 124) = f_273 := by rw [hg_274]; exact aset_eq
              have u_288 : G_272.2.2 111 = some (g.2.2 111) := by rw [hg_274]; exact u_139
              have u_289 : G_272.2.2 112 = some (g.2.2 112) := by rw [hg_274]; exact u_140
              have hH : HT g Ty G_272 H := by rw [← ht, ← eTx_271, eG_272]; exact hB
              have tm_290 : TI ((Bd + 25 * (y3_36 : Int32).toInt) + 25) f_273 := by rw [ef_273]; exact (TI_make hi0_36 (by have q := (r_80).2; omega) th_270).1
              refine lv_iload hx hb dX12_years_129 (lv_at hl 2 rfl) ?_
              refine lv_iconst (v := 5) hx hb dX12_years_131 (by decide) ?_
              refine lv_icmp_ne (tgt := 162) hx hb dX12_years_132 (by decide) (fun c_291 => ?_) (fun c_291 => ?_)
              · refine lv_iload hx hb dX12_years_162 (lv_at hl 2 rfl) ?_
                refine lv_iconst (v := 4) hx hb dX12_years_164 (by decide) ?_
                refine lv_icmp_eq (tgt := 171) hx hb dX12_years_165 (by decide) (fun c_292 => ?_) (fun c_292 => ?_)
                · exact rg_noE r_258 rl_4 c_292 (by decide)
                · refine lv_goto (tgt := 211) hx hb dX12_years_168 (by decide) ?_
                  obtain ⟨x_293, ex_293⟩ : ∃ y : Int32, y = y3_36 + 1 := ⟨_, rfl⟩
                  have rx_293 : rgI (1) (40) x_293 := by rw [ex_293]; exact rg_w (rg_add r_80 rl_1 (by decide) (by decide)) (by decide) (by decide)
                  have qx_293 : x_293.toInt = (y3_36 : Int32).toInt + 1 := by rw [ex_293]; exact rg_addE r_80 rl_1 (by decide) (by decide)
                  refine lv_iinc (v := x_293) (lv' := [(3, .int x_293), (6, .int x_124), (5, .int x_104), (4, .int x_84), (0, .ref h0), (2, .int a1)]) hx hb dX12_years_211 hl (k := 5) rfl (by rw [ex_293]; rfl) (by decide) rfl (fun ls hl => ?_)
                  refine lv_goto (tgt := 36) hx hb dX12_years_214 (by decide) ?_
                  exact ih_36 H locs G_272 f_273 x_293 ls (by rw [u_276]; exact rg_w rg104_36 (by decide) (by decide)) fr_275 w_287 ry2_36 (rg_w rx_293 (by decide) (by decide)) (TI.hi tm_290 (by have q := qx_293; omega)) (by have h1 := qx_293; have h2 := r_80.1; have h3 := r_80.2; have h4 := hm_36; omega) (lv_sub hl [4, 5, 0] rfl) hH hS
              · exact rg_noE r_258 rl_5 c_291 (by decide)
        · have r_294 : rgI (0) (2) x_84 := rg_w (rg_ltL rdx_84 rl_3 (nle_lt c_147)) (by decide) (by decide)
          refine lv_aload_n hx hb dX12_years_70 rfl (lv_at hl 3 rfl) ?_
          refine lv_aload_n hx hb dX12_years_71 rfl (lv_at hl 3 rfl) ?_
          obtain ⟨_, ⟨rfl, t_296, hk_297⟩, o_c_295⟩ := hH h0 _ k_h0
          refine hg_get hx hb hG igX12 hown hK o_c_295 rfl 24 (by decide) (hG _ mw_1308) rfl dX12_years_72 ?_
          refine lv_iload hx hb dX12_years_75 (lv_at hl 1 rfl) ?_
          refine lv_iload hx hb dX12_years_77 (lv_at hl 0 rfl) ?_
          refine va_calli (va_runV (As := [.ref (g.2.2 124), .int x_104, .int x_124]) (rest := []) ⟨hx, hb, hml, hown, hts⟩ (c_X12_refusesComing l g Ty G_125 H.size h0 (g.2.2 124) x_104 x_124 k_h0 (hk_297.2.2.2.2.2.2.2.1) ρ_145 (by rw [w_138]; exact hT_146) (g.2.2 111) hmk.2.2.2.2.2.2.2.2.2.2.2.2.2.2.2.2.2.2.2.2.1 u_139 (by rw [u_129]; exact hI.a113)) (cwV 3 hts (gwV mw_1546 mw_1548 mw_50 mw_88 mw_1549) rfl rfl rfl hv_X12_refusesComing ⟨Nat.le_of_ble_eq_true rfl, Nat.le_of_ble_eq_true rfl⟩) ⟨PcT_blind, hg_recv hK o_c_295 rfl, PcT_pre hK hH⟩ rfl rfl hl.1 rfl (lv_room (Nat.le_of_ble_eq_true rfl)) dX12_years_79 ⟨Nat.zero_le _, Nat.zero_le _⟩) hS (fun q _ h => AF.mono hS.1 h) (fun q h => AF.mono hS.1 h) (fun x_298 ux_298 t H locs ht hvm hx_298 hB hz hk hS => ?_)
          obtain ⟨hx_298, fx_298⟩ := hx_298
          obtain ⟨eTx_298, eGx_298⟩ := fx_298
          obtain ⟨G_299, eG_299⟩ : ∃ z, z = ux_298.2 := ⟨_, rfl⟩
          rw [← eG_299] at eGx_298
          have fr_300 : FR [107, 108, 109, 110, 114, 127, 128, 104, 105, 139] [(g.2.2 124), (g.2.2 115), (g.2.2 125), (g.2.2 126)] [106] G G_299 := FR.tr fr_126 eGx_298 (by decide) (fun b h => ⟨h.2.1, trivial⟩) (by decide)
          have u_301 : G_299.1 104 = (G_36.1 104) := (eGx_298.1 104 (by decide)).trans u_127
          have u_302 : G_299.1 102 = (G.1 102) := (eGx_298.1 102 (by decide)).trans u_128
          have u_303 : G_299.1 113 = (G.1 113) := (eGx_298.1 113 (by decide)).trans u_129
          have u_304 : G_299.1 122 = (G.1 122) := (eGx_298.1 122 (by decide)).trans u_130
          have u_305 : G_299.1 133 = (G.1 133) := (eGx_298.1 133 (by decide)).trans u_131
          have u_306 : G_299.1 137 = (G.1 137) := (eGx_298.1 137 (by decide)).trans u_132
          have w_307 : G_299.2.1 (g.2.2 100) = (G.2.1 (g.2.2 100)) := (eGx_298.2.1 (g.2.2 100) ⟨(ne_kd hmk.1 hmk.2.2.2.1 (by decide)), trivial⟩).trans w_133
          have w_308 : G_299.2.1 (g.2.2 121) = (G.2.1 (g.2.2 121)) := (eGx_298.2.1 (g.2.2 121) ⟨(ne_kd hmk.2.2.2.2.2.1 hmk.2.2.2.1 (by decide)), trivial⟩).trans w_134
          have w_309 : G_299.2.1 (g.2.2 140) = (G.2.1 (g.2.2 140)) := (eGx_298.2.1 (g.2.2 140) ⟨(ne_kd hmk.2.2.2.2.2.2.2.2.2.2.2.2.2.2.2.2.2.2.1 hmk.2.2.2.1 (by decide)), trivial⟩).trans w_135
          have w_310 : G_299.2.1 (g.2.2 141) = (G.2.1 (g.2.2 141)) := (eGx_298.2.1 (g.2.2 141) ⟨(ne_kd hmk.2.2.2.2.2.2.2.2.2.2.2.2.2.2.2.2.2.2.2.1 hmk.2.2.2.1 (by decide)), trivial⟩).trans w_136
          have w_311 : G_299.2.1 (g.2.2 111) = (G.2.1 (g.2.2 111)) := (eGx_298.2.1 (g.2.2 111) ⟨(ne_kd hmk.2.2.2.2.2.2.2.2.2.2.2.2.2.2.2.2.2.2.2.2.1 hmk.2.2.2.1 (by decide)), trivial⟩).trans w_137
          have w_312 : G_299.2.1 (g.2.2 124) = fl5_36 := (eGx_298.2.1 (g.2.2 124) ⟨(ne_kd hmk.2.2.2.2.2.2.2.1 hmk.2.2.2.1 (by decide)), trivial⟩).trans w_138
          have u_313 : G_299.2.2 111 = some (g.2.2 111) := (eGx_298.2.2 111 (by decide)).trans u_139
          have u_314 : G_299.2.2 112 = some (g.2.2 112) := (eGx_298.2.2 112 (by decide)).trans u_140
          have hH : HT g Ty G_299 H := by rw [← ht, ← eTx_298, eG_299]; exact hB
          have rx_298 : rgI (-9) (0) x_298 := hx_298.1
          have tx_315 := hx_298.2
          try rw [w_138] at tx_315
          try rw [w_137] at tx_315
          try rw [u_129] at tx_315
          try rw [w_133] at tx_315
          refine lv_if_ne (tgt := 100) hx hb dX12_years_82 (by decide) (fun c_316 => ?_) (fun c_316 => ?_)
          · have r_317 : rgI (-9) (-1) x_298 := rg_w (rg_neR rx_298 rl_0 c_316) (by decide) (by decide)
            refine lv_iload hx hb dX12_years_100 (lv_at hl 2 rfl) ?_
            refine lv_iconst (v := 3) hx hb dX12_years_102 (by decide) ?_
            refine lv_icmp_ne (tgt := 129) hx hb dX12_years_103 (by decide) (fun c_318 => ?_) (fun c_318 => ?_)
            · refine lv_iload hx hb dX12_years_129 (lv_at hl 2 rfl) ?_
              refine lv_iconst (v := 5) hx hb dX12_years_131 (by decide) ?_
              refine lv_icmp_ne (tgt := 162) hx hb dX12_years_132 (by decide) (fun c_319 => ?_) (fun c_319 => ?_)
              · refine lv_iload hx hb dX12_years_162 (lv_at hl 2 rfl) ?_
                refine lv_iconst (v := 4) hx hb dX12_years_164 (by decide) ?_
                refine lv_icmp_eq (tgt := 171) hx hb dX12_years_165 (by decide) (fun c_320 => ?_) (fun c_320 => ?_)
                · exact rg_noE r_294 rl_4 c_320 (by decide)
                · refine lv_goto (tgt := 211) hx hb dX12_years_168 (by decide) ?_
                  obtain ⟨x_321, ex_321⟩ : ∃ y : Int32, y = y3_36 + 1 := ⟨_, rfl⟩
                  have rx_321 : rgI (1) (40) x_321 := by rw [ex_321]; exact rg_w (rg_add r_80 rl_1 (by decide) (by decide)) (by decide) (by decide)
                  have qx_321 : x_321.toInt = (y3_36 : Int32).toInt + 1 := by rw [ex_321]; exact rg_addE r_80 rl_1 (by decide) (by decide)
                  refine lv_iinc (v := x_321) (lv' := [(3, .int x_321), (6, .int x_124), (5, .int x_104), (4, .int x_84), (0, .ref h0), (2, .int a1)]) hx hb dX12_years_211 hl (k := 5) rfl (by rw [ex_321]; rfl) (by decide) rfl (fun ls hl => ?_)
                  refine lv_goto (tgt := 36) hx hb dX12_years_214 (by decide) ?_
                  exact ih_36 H locs G_299 fl5_36 x_321 ls (by rw [u_301]; exact rg_w rg104_36 (by decide) (by decide)) fr_300 w_312 ry2_36 (rg_w rx_321 (by decide) (by decide)) (TI.hi hi0_36 (by have q := qx_321; omega)) (by have h1 := qx_321; have h2 := r_80.1; have h3 := r_80.2; have h4 := hm_36; omega) (lv_sub hl [4, 5, 0] rfl) hH hS
              · exact rg_noE r_294 rl_5 c_319 (by decide)
            · exact rg_noE r_294 rl_3 c_318 (by decide)
          · have r_322 : rgI (0) (0) x_298 := rg_w (rg_eq rl_0 c_316) (by decide) (by decide)
            have c0_323 := tx_315 c_316
            refine lv_aload_n hx hb dX12_years_85 rfl (lv_at hl 3 rfl) ?_
            refine lv_aload_n hx hb dX12_years_86 rfl (lv_at hl 3 rfl) ?_
            obtain ⟨_, ⟨rfl, t_325, hk_326⟩, o_c_324⟩ := hH h0 _ k_h0
            refine hg_get hx hb hG igX12 hown hK o_c_324 rfl 24 (by decide) (hG _ mw_1308) rfl dX12_years_87 ?_
            refine lv_bipush (v := 24) hx hb dX12_years_90 (by decide) ?_
            refine lv_iload hx hb dX12_years_92 (lv_at hl 1 rfl) ?_
            refine lv_iload hx hb dX12_years_94 (lv_at hl 0 rfl) ?_
            refine va_calli (va_runV (As := [.ref (g.2.2 124), .int 24, .int x_104, .int x_124]) (rest := []) ⟨hx, hb, hml, hown, hts⟩ (c_X12_goClone l g Ty G_299 H.size h0 (g.2.2 124) 24 x_104 x_124 k_h0 (hk_326.2.2.2.2.2.2.2.1) (rg_w rl_24 (by decide) (by decide)) (rg_w rdx_104 (by decide) (by decide)) (rg_w rdx_124 (by decide) (by decide)) (g.2.2 111) hmk.2.2.2.2.2.2.2.2.2.2.2.2.2.2.2.2.2.2.2.2.1 u_313 (by rw [u_303]; exact hI.a113) hLD σ_141 (by rw [w_312]; exact hts_142) (by rw [w_312]; exact h1_143) (Bd + 25 * (y3_36 : Int32).toInt) (by rw [w_312]; exact hb_144) (by rw [w_312]; exact (Int.le_trans hb_144 (by have q := (r_80).2; omega))) (Or.inl rfl) (by rw [w_312, w_311, u_303]; exact c0_323)) (cwV 4 hts (gwV mw_1584 mw_1586 mw_54 mw_88 mw_1587) rfl rfl rfl hv_X12_goClone ⟨Nat.le_of_ble_eq_true rfl, Nat.le_of_ble_eq_true rfl⟩) ⟨PcT_blind, hg_recv hK o_c_324 rfl, PcT_pre hK hH⟩ rfl rfl hl.1 rfl (lv_room (Nat.le_of_ble_eq_true rfl)) dX12_years_96 ⟨Nat.zero_le _, Nat.zero_le _⟩) hS (fun q _ h => AF.mono hS.1 h) (fun q h => AF.mono hS.1 h) (fun x_327 ux_327 t H locs ht hvm hx_327 hB hz hk hS => ?_)
            obtain ⟨eTx_327, eGx_327⟩ := hx_327
            obtain ⟨G_328, eG_328⟩ : ∃ z, z = ux_327.2 := ⟨_, rfl⟩
            rw [← eG_328] at eGx_327
            obtain ⟨hfr_329, hex_330⟩ := eGx_327
            have fr_331 : FR [107, 108, 109, 110, 114, 127, 128, 104, 105, 139] [(g.2.2 124), (g.2.2 115), (g.2.2 125), (g.2.2 126)] [106] G G_328 := FR.tr fr_300 hfr_329 (by decide) (fun b h => ⟨h.1, h.2.1, h.2.2.1, h.2.2.2.1, trivial⟩) (by decide)
            have u_332 : G_328.1 104 = (G_36.1 104) := (hfr_329.1 104 (by decide)).trans u_301
            have u_333 : G_328.1 102 = (G.1 102) := (hfr_329.1 102 (by decide)).trans u_302
            have u_334 : G_328.1 113 = (G.1 113) := (hfr_329.1 113 (by decide)).trans u_303
            have u_335 : G_328.1 122 = (G.1 122) := (hfr_329.1 122 (by decide)).trans u_304
            have u_336 : G_328.1 133 = (G.1 133) := (hfr_329.1 133 (by decide)).trans u_305
            have u_337 : G_328.1 137 = (G.1 137) := (hfr_329.1 137 (by decide)).trans u_306
            have w_338 : G_328.2.1 (g.2.2 100) = (G.2.1 (g.2.2 100)) := (hfr_329.2.1 (g.2.2 100) ⟨(hLD 100 (by decide) 124 (by decide) (by decide)), (ne_kd hmk.1 hmk.2.2.2.1 (by decide)), (ne_kd hmk.1 hmk.2.2.2.2.2.2.2.2.1 (by decide)), (ne_kd hmk.1 hmk.2.2.2.2.2.2.2.2.2.1 (by decide)), trivial⟩).trans w_307
            have w_339 : G_328.2.1 (g.2.2 121) = (G.2.1 (g.2.2 121)) := (hfr_329.2.1 (g.2.2 121) ⟨(ne_kd hmk.2.2.2.2.2.1 hmk.2.2.2.2.2.2.2.1 (by decide)), (ne_kd hmk.2.2.2.2.2.1 hmk.2.2.2.1 (by decide)), (ne_kd hmk.2.2.2.2.2.1 hmk.2.2.2.2.2.2.2.2.1 (by decide)), (ne_kd hmk.2.2.2.2.2.1 hmk.2.2.2.2.2.2.2.2.2.1 (by decide)), trivial⟩).trans w_308
            have w_340 : G_328.2.1 (g.2.2 140) = (G.2.1 (g.2.2 140)) := (hfr_329.2.1 (g.2.2 140) ⟨(ne_kd hmk.2.2.2.2.2.2.2.2.2.2.2.2.2.2.2.2.2.2.1 hmk.2.2.2.2.2.2.2.1 (by decide)), (ne_kd hmk.2.2.2.2.2.2.2.2.2.2.2.2.2.2.2.2.2.2.1 hmk.2.2.2.1 (by decide)), (ne_kd hmk.2.2.2.2.2.2.2.2.2.2.2.2.2.2.2.2.2.2.1 hmk.2.2.2.2.2.2.2.2.1 (by decide)), (ne_kd hmk.2.2.2.2.2.2.2.2.2.2.2.2.2.2.2.2.2.2.1 hmk.2.2.2.2.2.2.2.2.2.1 (by decide)), trivial⟩).trans w_309
            have w_341 : G_328.2.1 (g.2.2 141) = (G.2.1 (g.2.2 141)) := (hfr_329.2.1 (g.2.2 141) ⟨(ne_kd hmk.2.2.2.2.2.2.2.2.2.2.2.2.2.2.2.2.2.2.2.1 hmk.2.2.2.2.2.2.2.1 (by decide)), (ne_kd hmk.2.2.2.2.2.2.2.2.2.2.2.2.2.2.2.2.2.2.2.1 hmk.2.2.2.1 (by decide)), (ne_kd hmk.2.2.2.2.2.2.2.2.2.2.2.2.2.2.2.2.2.2.2.1 hmk.2.2.2.2.2.2.2.2.1 (by decide)), (ne_kd hmk.2.2.2.2.2.2.2.2.2.2.2.2.2.2.2.2.2.2.2.1 hmk.2.2.2.2.2.2.2.2.2.1 (by decide)), trivial⟩).trans w_310
            have w_342 : G_328.2.1 (g.2.2 111) = (G.2.1 (g.2.2 111)) := (hfr_329.2.1 (g.2.2 111) ⟨(ne_kd hmk.2.2.2.2.2.2.2.2.2.2.2.2.2.2.2.2.2.2.2.2.1 hmk.2.2.2.2.2.2.2.1 (by decide)), (ne_kd hmk.2.2.2.2.2.2.2.2.2.2.2.2.2.2.2.2.2.2.2.2.1 hmk.2.2.2.1 (by decide)), (ne_kd hmk.2.2.2.2.2.2.2.2.2.2.2.2.2.2.2.2.2.2.2.2.1 hmk.2.2.2.2.2.2.2.2.1 (by decide)), (ne_kd hmk.2.2.2.2.2.2.2.2.2.2.2.2.2.2.2.2.2.2.2.2.1 hmk.2.2.2.2.2.2.2.2.2.1 (by decide)), trivial⟩).trans w_311
            have u_343 : G_328.2.2 111 = some (g.2.2 111) := (hfr_329.2.2 111 (by decide)).trans u_313
            have u_344 : G_328.2.2 112 = some (g.2.2 112) := (hfr_329.2.2 112 (by decide)).trans u_314
            obtain ⟨f_345, ef_345⟩ : ∃ z : Nat → Int32, G_328.2.1 (g.2.2 124) = z := ⟨_, rfl⟩
            have gc_346 := hex_330
            rw [ef_345, w_312, w_311, u_303] at gc_346
            have hH : HT g Ty G_328 H := by rw [← ht, ← eTx_327, eG_328]; exact hB
            refine lv_pop hx hb dX12_years_99 rfl ?_
            refine lv_iload hx hb dX12_years_100 (lv_at hl 2 rfl) ?_
            refine lv_iconst (v := 3) hx hb dX12_years_102 (by decide) ?_
            refine lv_icmp_ne (tgt := 129) hx hb dX12_years_103 (by decide) (fun c_347 => ?_) (fun c_347 => ?_)
            · refine lv_iload hx hb dX12_years_129 (lv_at hl 2 rfl) ?_
              refine lv_iconst (v := 5) hx hb dX12_years_131 (by decide) ?_
              refine lv_icmp_ne (tgt := 162) hx hb dX12_years_132 (by decide) (fun c_348 => ?_) (fun c_348 => ?_)
              · refine lv_iload hx hb dX12_years_162 (lv_at hl 2 rfl) ?_
                refine lv_iconst (v := 4) hx hb dX12_years_164 (by decide) ?_
                refine lv_icmp_eq (tgt := 171) hx hb dX12_years_165 (by decide) (fun c_349 => ?_) (fun c_349 => ?_)
                · exact rg_noE r_294 rl_4 c_349 (by decide)
                · refine lv_goto (tgt := 211) hx hb dX12_years_168 (by decide) ?_
                  obtain ⟨x_350, ex_350⟩ : ∃ y : Int32, y = y3_36 + 1 := ⟨_, rfl⟩
                  have rx_350 : rgI (1) (40) x_350 := by rw [ex_350]; exact rg_w (rg_add r_80 rl_1 (by decide) (by decide)) (by decide) (by decide)
                  have qx_350 : x_350.toInt = (y3_36 : Int32).toInt + 1 := by rw [ex_350]; exact rg_addE r_80 rl_1 (by decide) (by decide)
                  refine lv_iinc (v := x_350) (lv' := [(3, .int x_350), (6, .int x_124), (5, .int x_104), (4, .int x_84), (0, .ref h0), (2, .int a1)]) hx hb dX12_years_211 hl (k := 5) rfl (by rw [ex_350]; rfl) (by decide) rfl (fun ls hl => ?_)
                  refine lv_goto (tgt := 36) hx hb dX12_years_214 (by decide) ?_
                  exact ih_36 H locs G_328 f_345 x_350 ls (by rw [u_332]; exact rg_w rg104_36 (by decide) (by decide)) fr_331 ef_345 ry2_36 (rg_w rx_350 (by decide) (by decide)) (TI.hi gc_346.1 (by have q := qx_350; omega)) (by have h1 := qx_350; have h2 := r_80.1; have h3 := r_80.2; have h4 := hm_36; omega) (lv_sub hl [4, 5, 0] rfl) hH hS
              · exact rg_noE r_294 rl_5 c_348 (by decide)
            · exact rg_noE r_294 rl_3 c_347 (by decide)
  refine lv_aload_n hx hb dX12_years_0 rfl (lv_at hl 0 rfl) ?_
  refine lv_iconst (v := 0) hx hb dX12_years_1 (by decide) ?_
  obtain ⟨_, ⟨rfl, t_352, hk_353⟩, o_c_351⟩ := hH h0 _ k_h0
  refine hg_put (ty := .int) hx hb hG igX12 tyX12 tyX12_ok nmX12 hown hK hS o_c_351 (AF.of k_h0) rfl 5 (by decide) (hG _ mw_1289) rfl (by decide +kernel) rfl rfl (Nat.le_of_ble_eq_true rfl) dX12_years_2 (fun H locs o_c_351 hz oq hS => ?_)
  obtain ⟨G_354, eG_354⟩ : ∃ z : Gh, z = gset G 105 0 := ⟨_, rfl⟩
  have hH : HT g Ty G_354 H := by rw [eG_354]; exact HT.putN 105 0 hH k_h0 ⟨rfl, t_352, hk_353⟩ o_c_351 oq (Or.inr (Or.inr (Or.inr (Or.inr (Or.inr ⟨by decide, t_352⟩)))))
  have fr_355 : FR [107, 108, 109, 110, 114, 127, 128, 104, 105, 139] [(g.2.2 124), (g.2.2 115), (g.2.2 125), (g.2.2 126)] [106] G G_354 := FR.n FR.rf eG_354 (by decide)
  have u_356 : G_354.1 102 = (G.1 102) := by rw [eG_354]; exact (gs_ne (by decide))
  have u_357 : G_354.1 104 = (G.1 104) := by rw [eG_354]; exact (gs_ne (by decide))
  have u_358 : G_354.1 113 = (G.1 113) := by rw [eG_354]; exact (gs_ne (by decide))
  have u_359 : G_354.1 122 = (G.1 122) := by rw [eG_354]; exact (gs_ne (by decide))
  have u_360 : G_354.1 133 = (G.1 133) := by rw [eG_354]; exact (gs_ne (by decide))
  have u_361 : G_354.1 137 = (G.1 137) := by rw [eG_354]; exact (gs_ne (by decide))
  have u_362 : G_354.1 105 = 0 := by rw [eG_354]; exact gs_eq
  have w_363 : G_354.2.1 (g.2.2 100) = (G.2.1 (g.2.2 100)) := by rw [eG_354]; exact rfl
  have w_364 : G_354.2.1 (g.2.2 121) = (G.2.1 (g.2.2 121)) := by rw [eG_354]; exact rfl
  have w_365 : G_354.2.1 (g.2.2 140) = (G.2.1 (g.2.2 140)) := by rw [eG_354]; exact rfl
  have w_366 : G_354.2.1 (g.2.2 141) = (G.2.1 (g.2.2 141)) := by rw [eG_354]; exact rfl
  have w_367 : G_354.2.1 (g.2.2 111) = (G.2.1 (g.2.2 111)) := by rw [eG_354]; exact rfl
  have w_368 : G_354.2.1 (g.2.2 124) = (G.2.1 (g.2.2 124)) := by rw [eG_354]; exact rfl
  have u_369 : G_354.2.2 111 = some (g.2.2 111) := by rw [eG_354]; exact hI.r111
  have u_370 : G_354.2.2 112 = some (g.2.2 112) := by rw [eG_354]; exact hI.r112
  clear oq hz
  refine lv_iload_n hx hb dX12_years_5 rfl (lv_at hl 2 rfl) ?_
  refine lv_iconst (v := 1) hx hb dX12_years_6 (by decide) ?_
  refine lv_bipush (v := 40) hx hb dX12_years_7 (by decide) ?_
  refine vp_callSi (W.runS (As := [.int a1, .int 1, .int 40]) (rest := []) ⟨hx, hb, hml, hown, hts⟩ (c_X12_in l g Ty G_354 a1 1 40 ) (cwSx 3 hts hG (gwC mw_1426) mw_88 mw_1424 mw_1425 rfl rfl rfl hd_X12_in ⟨Nat.le_of_ble_eq_true rfl, Nat.le_of_ble_eq_true rfl⟩) ⟨PcH_blind, PcH_pre hK hH⟩ rfl rfl hl.1 rfl (lv_room (Nat.le_of_ble_eq_true rfl)) dX12_years_9 ⟨Nat.zero_le _, Nat.zero_le _⟩) (fun x_371 hx_371 => ?_)
  have rx_371 : rgI (0) (1) x_371 := hx_371.1
  refine lv_if_ne (tgt := 17) hx hb dX12_years_12 (by decide) (fun c_372 => ?_) (fun c_372 => ?_)
  · have r_373 : rgI (1) (1) x_371 := rg_w (rg_neL rx_371 rl_0 c_372) (by decide) (by decide)
    have r_374 : rgI (1) (40) a1 := rg_w (in_rng hx_371.2.1 c_372 rl_1 rl_40) (by decide) (by decide)
    refine lv_aload_n hx hb dX12_years_17 rfl (lv_at hl 0 rfl) ?_
    refine lv_iload_n hx hb dX12_years_18 rfl (lv_at hl 1 rfl) ?_
    obtain ⟨_, ⟨rfl, t_376, hk_377⟩, o_c_375⟩ := hH h0 _ k_h0
    refine hg_put (ty := .int) hx hb hG igX12 tyX12 tyX12_ok nmX12 hown hK hS o_c_375 (AF.of k_h0) rfl 39 (by decide) (hG _ mw_1323) rfl (by decide +kernel) rfl rfl (Nat.le_of_ble_eq_true rfl) dX12_years_19 (fun H locs o_c_375 hz oq hS => ?_)
    obtain ⟨G_378, eG_378⟩ : ∃ z : Gh, z = gset G_354 139 a0 := ⟨_, rfl⟩
    have hH : HT g Ty G_378 H := by rw [eG_378]; exact HT.putN 139 a0 hH k_h0 ⟨rfl, t_376, hk_377⟩ o_c_375 oq (Or.inr (Or.inr (Or.inr (Or.inr (Or.inr ⟨by decide, t_376⟩)))))
    have fr_379 : FR [107, 108, 109, 110, 114, 127, 128, 104, 105, 139] [(g.2.2 124), (g.2.2 115), (g.2.2 125), (g.2.2 126)] [106] G G_378 := FR.n fr_355 eG_378 (by decide)
    have u_380 : G_378.1 102 = (G.1 102) := by rw [eG_378]; exact (gs_ne (by decide)).trans u_356
    have u_381 : G_378.1 104 = (G.1 104) := by rw [eG_378]; exact (gs_ne (by decide)).trans u_357
    have u_382 : G_378.1 113 = (G.1 113) := by rw [eG_378]; exact (gs_ne (by decide)).trans u_358
    have u_383 : G_378.1 122 = (G.1 122) := by rw [eG_378]; exact (gs_ne (by decide)).trans u_359
    have u_384 : G_378.1 133 = (G.1 133) := by rw [eG_378]; exact (gs_ne (by decide)).trans u_360
    have u_385 : G_378.1 137 = (G.1 137) := by rw [eG_378]; exact (gs_ne (by decide)).trans u_361
    have u_386 : G_378.1 105 = 0 := by rw [eG_378]; exact (gs_ne (by decide)).trans u_362
    have u_387 : G_378.1 139 = a0 := by rw [eG_378]; exact gs_eq
    have w_388 : G_378.2.1 (g.2.2 100) = (G.2.1 (g.2.2 100)) := by rw [eG_378]; exact w_363
    have w_389 : G_378.2.1 (g.2.2 121) = (G.2.1 (g.2.2 121)) := by rw [eG_378]; exact w_364
    have w_390 : G_378.2.1 (g.2.2 140) = (G.2.1 (g.2.2 140)) := by rw [eG_378]; exact w_365
    have w_391 : G_378.2.1 (g.2.2 141) = (G.2.1 (g.2.2 141)) := by rw [eG_378]; exact w_366
    have w_392 : G_378.2.1 (g.2.2 111) = (G.2.1 (g.2.2 111)) := by rw [eG_378]; exact w_367
    have w_393 : G_378.2.1 (g.2.2 124) = (G.2.1 (g.2.2 124)) := by rw [eG_378]; exact w_368
    have u_394 : G_378.2.2 111 = some (g.2.2 111) := by rw [eG_378]; exact u_369
    have u_395 : G_378.2.2 112 = some (g.2.2 112) := by rw [eG_378]; exact u_370
    clear oq hz
    refine lv_aload_n hx hb dX12_years_22 rfl (lv_at hl 0 rfl) ?_
    obtain ⟨_, ⟨rfl, t_397, hk_398⟩, o_c_396⟩ := hH h0 _ k_h0
    refine hg_get hx hb hG igX12 hown hK o_c_396 rfl 0 (by decide) (hG _ mw_1284) rfl dX12_years_23 ?_
    refine lv_aload_n hx hb dX12_years_26 rfl (lv_at hl 0 rfl) ?_
    refine hg_get hx hb hG igX12 hown hK o_c_396 rfl 24 (by decide) (hG _ mw_1308) rfl dX12_years_27 ?_
    refine lv_iconst (v := 0) hx hb dX12_years_30 (by decide) ?_
    refine va_callv (va_runS (As := [.ref (g.2.2 100), .ref (g.2.2 124), .int 0]) (rest := []) ⟨hx, hb, hml, hown, hts⟩ (c_X12_lay_a l g Ty G_378 H.size (g.2.2 100) (g.2.2 124) 0 (hk_398.1) (hk_398.2.2.2.2.2.2.2.1) (rg_w rl_0 (by decide) (by decide)) (hLD 100 (by decide) 124 (by decide) (by decide))) (cwSx 3 hts hG (gwC mw_1583) mw_88 mw_1581 mw_1582 rfl rfl rfl hd_X12_lay ⟨Nat.le_of_ble_eq_true rfl, Nat.le_of_ble_eq_true rfl⟩) ⟨PcT_blind, PcT_pre hK hH⟩ rfl rfl hl.1 rfl (lv_room (Nat.le_of_ble_eq_true rfl)) dX12_years_31 ⟨Nat.zero_le _, Nat.zero_le _⟩) hS (fun q _ h => AF.mono hS.1 h) (fun q h => AF.mono hS.1 h) (fun ux_399 t H locs ht hvm hx_399 hB hz hk hS => ?_)
    obtain ⟨eTx_399, eGx_399⟩ := hx_399
    obtain ⟨G_400, eG_400⟩ : ∃ z, z = ux_399.2 := ⟨_, rfl⟩
    rw [← eG_400] at eGx_399
    obtain ⟨hfr_401, hex_402⟩ := eGx_399
    have fr_403 : FR [107, 108, 109, 110, 114, 127, 128, 104, 105, 139] [(g.2.2 124), (g.2.2 115), (g.2.2 125), (g.2.2 126)] [106] G G_400 := FR.tr fr_379 hfr_401 (by decide) (fun b h => ⟨h.1, trivial⟩) (by decide)
    have u_404 : G_400.1 102 = (G.1 102) := (hfr_401.1 102 (by decide)).trans u_380
    have u_405 : G_400.1 104 = (G.1 104) := (hfr_401.1 104 (by decide)).trans u_381
    have u_406 : G_400.1 113 = (G.1 113) := (hfr_401.1 113 (by decide)).trans u_382
    have u_407 : G_400.1 122 = (G.1 122) := (hfr_401.1 122 (by decide)).trans u_383
    have u_408 : G_400.1 133 = (G.1 133) := (hfr_401.1 133 (by decide)).trans u_384
    have u_409 : G_400.1 137 = (G.1 137) := (hfr_401.1 137 (by decide)).trans u_385
    have u_410 : G_400.1 105 = 0 := (hfr_401.1 105 (by decide)).trans u_386
    have u_411 : G_400.1 139 = a0 := (hfr_401.1 139 (by decide)).trans u_387
    have w_412 : G_400.2.1 (g.2.2 100) = (G.2.1 (g.2.2 100)) := (hfr_401.2.1 (g.2.2 100) ⟨(hLD 100 (by decide) 124 (by decide) (by decide)), trivial⟩).trans w_388
    have w_413 : G_400.2.1 (g.2.2 121) = (G.2.1 (g.2.2 121)) := (hfr_401.2.1 (g.2.2 121) ⟨(ne_kd hmk.2.2.2.2.2.1 hmk.2.2.2.2.2.2.2.1 (by decide)), trivial⟩).trans w_389
    have w_414 : G_400.2.1 (g.2.2 140) = (G.2.1 (g.2.2 140)) := (hfr_401.2.1 (g.2.2 140) ⟨(ne_kd hmk.2.2.2.2.2.2.2.2.2.2.2.2.2.2.2.2.2.2.1 hmk.2.2.2.2.2.2.2.1 (by decide)), trivial⟩).trans w_390
    have w_415 : G_400.2.1 (g.2.2 141) = (G.2.1 (g.2.2 141)) := (hfr_401.2.1 (g.2.2 141) ⟨(ne_kd hmk.2.2.2.2.2.2.2.2.2.2.2.2.2.2.2.2.2.2.2.1 hmk.2.2.2.2.2.2.2.1 (by decide)), trivial⟩).trans w_391
    have w_416 : G_400.2.1 (g.2.2 111) = (G.2.1 (g.2.2 111)) := (hfr_401.2.1 (g.2.2 111) ⟨(ne_kd hmk.2.2.2.2.2.2.2.2.2.2.2.2.2.2.2.2.2.2.2.2.1 hmk.2.2.2.2.2.2.2.1 (by decide)), trivial⟩).trans w_392
    have u_417 : G_400.2.2 111 = some (g.2.2 111) := (hfr_401.2.2 111 (by decide)).trans u_394
    have u_418 : G_400.2.2 112 = some (g.2.2 112) := (hfr_401.2.2 112 (by decide)).trans u_395
    obtain ⟨f_419, ef_419⟩ : ∃ z : Nat → Int32, G_400.2.1 (g.2.2 124) = z := ⟨_, rfl⟩
    have ly_420 := hex_402
    rw [ef_419, w_388, w_393] at ly_420
    have hH : HT g Ty G_400 H := by rw [← ht, ← eTx_399, eG_400]; exact hB
    have sr_421 : SR (G.2.1 (g.2.2 100)) f_419 := LY_sr ly_420
    refine lv_iconst (v := 0) hx hb dX12_years_34 (by decide) ?_
    refine lv_istore_n (lv' := [(3, .int 0), (0, .ref h0), (1, .int a0), (2, .int a1)]) hx hb dX12_years_35 rfl hl (by decide) rfl (fun ls hl => ?_)
    exact L_36 _ H locs G_400 f_419 0 ls (by rw [u_405]; exact rg_w hI.a104 (by decide) (by decide)) fr_403 ef_419 r_374 (rg_w rl_0 (by decide) (by decide)) (TI.hi (SR_ti sr_421 hI.ti) (by show _ ≤ _ + 25 * (0 : Int); omega)) (Nat.lt_succ_self _) (lv_sub hl [1, 3, 0] rfl) hH hS
  · have r_422 : rgI (0) (0) x_371 := rg_w (rg_eq rl_0 c_372) (by decide) (by decide)
    refine lv_iconst (v := (-1)) hx hb dX12_years_15 (by decide) ?_
    exact W.iret hx hb hr (fun t ht hWm => ⟨⟨(-1), (Ty, G_354), rfl, ⟨rfl, ⟨fr_355, ⟨(by rw [u_356]; exact (rg_w hI.a102 (by decide) (by decide))), (by rw [u_357]; exact (rg_w hI.a104 (by decide) (by decide))), (by rw [u_358]; exact (rg_w hI.a113 (by decide) (by decide))), (by rw [u_359]; exact (rg_w hI.a122 (by decide) (by decide))), (by rw [u_360]; exact (rg_w hI.a133 (by decide) (by decide))), (by rw [u_361]; exact (rg_w hI.a137 (by decide) (by decide))), u_369, u_370, (by rw [w_363]; exact (hI.ti.hi (show Bd ≤ Bd + 1000 by omega))), (hI.un2 (show Bd ≤ Bd + 1000 by omega) w_364 u_359), (hI.ke2 (show Bd ≤ Bd + 1000 by omega) w_365 w_366)⟩⟩⟩, by show HT g Ty G_354 t.heap; rw [ht]; exact hH⟩, hS.F ht⟩) hS.2.2 dX12_years_16
