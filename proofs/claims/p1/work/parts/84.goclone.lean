set_option maxHeartbeats 4000000 in
set_option maxRecDepth 100000 in
theorem c_X12_goClone (l : Launch) (g : Gx) (Ty : TyM) (G : Gh) (sz : Nat) (h0 : Nat) (b0 : Nat) (a1 : Int32) (a2 : Int32) (a3 : Int32) (k_h0 : Ty h0 = some (22, 0)) (k_b0 : Ty b0 = some (30, 122)) (pr1 : rgI (0) (24) a1) (pr2 : rgI (0) (23) a2) (pr3 : rgI (0) (3) a3) (rl : Nat) (krl : Ty rl = some (31, 40)) (hr1 : G.2.2 111 = some rl) (hr3 : rgI 0 40 (G.1 113)) (hLD : LD g) (σ : Int32 → Nat) (hTS : TS (G.2.1 b0) σ ((G.2.1 b0) 121)) (h1 : 1 ≤ ((G.2.1 b0) 121).toInt) (Bd : Int) (hBB : ((G.2.1 b0) 121).toInt ≤ Bd) (hB0 : ((G.2.1 b0) 121).toInt ≤ 2000000) (hfrom : a1 = 24 ∨ thr (G.2.1 b0) a1) (hCOM : COM (G.2.1 b0) (G.2.1 rl) (G.1 113) a2 a3) : Met l yX12_goClone (wsG yX12_goClone cX12_goClone 12 (some .int)) ({ frames := 340, cells := 0, slots := 0, locals := 7970 }) (PcT g Ty G sz [.ref h0, .ref b0, .int a1, .int a2, .int a3]) (QwI g Ty sz (fun r u => u.1 = Ty ∧ FR [107, 108, 109, 110, 114, 127, 128] [b0, (g.2.2 115), (g.2.2 125), (g.2.2 126)] [106] G u.2 ∧ GC Bd (G.2.1 b0) (u.2.2.1 b0) (hitb (G.2.1 b0) (G.2.1 rl) (G.1 113) a2 a3) r)) 0 0 (AF Ty sz) := by
  refine Met.ofW (cc := cX12_goClone) (maxL := 12) (ret := (some .int)) (by decide) rfl ?_
  intro p e s m args below meth c s₁ B hml hv
  obtain ⟨rfl, hsz, hK, hH⟩ := hv
  subst hsz
  have hx := B.exec
  have hb := B.bytes
  have hr := B.returns
  have hts := atoms_spec (ws := (wsG yX12_goClone cX12_goClone 12 (some .int))) B.pre
  have hG : ∀ w ∈ GW, w.before ([.ref h0, .ref b0, .int a1, .int a2, .int a3] : List Value).toArray s = true := fun w h => hts w (List.mem_cons_of_mem _ h)
  have hown : s.vm.findClass RX12 = some m.cls := findClass_of_methodNamed B.named
  have hlocks := B.notSynchronized
  have hl := lv_entry [.ref h0, .ref b0, .int a1, .int a2, .int a3] (n := 12) (Nat.le_of_ble_eq_true rfl)
  rw [lg_entry_eq]
  generalize (lg_sl [.ref h0, .ref b0, .int a1, .int a2, .int a3] ++ List.replicate (12 - (lg_sl [.ref h0, .ref b0, .int a1, .int a2, .int a3]).length) Slot.unset).toArray = ls at hl ⊢
  have hl : lv_has ls 12 [(0, .ref h0), (1, .ref b0), (2, .int a1), (3, .int a2), (4, .int a3)] := hl
  have hmk : mdK g Ty := mdk_of hH k_h0
  have hS : va_S (AF Ty s.heap.size) s.heap s.heap [] := va_S.rf
  obtain ⟨S, hSb⟩ := rank_bd σ
  obtain ⟨ρ, hT⟩ := hTS.1
  have hm0 : thr (G.2.1 b0) a2 := hCOM.1
  have L_182 : ∀ (n : Nat) (H : Heap) (locs : List Loc) (G_182 : Gh) (fl0_182 : Nat → Int32) (fl2_182 : Nat → Int32) (fl3_182 : Nat → Int32) (y6_182 : Int32) (y7_182 : Int32) (y8_182 : Int32) (y9_182 : Int32) (y10_182 : Int32) (ls : Array Slot), rgI (0) (24) (G_182.1 127) → FR [107, 108, 109, 110, 114, 127, 128] [b0, (g.2.2 115), (g.2.2 125), (g.2.2 126)] [106] G G_182 → G_182.2.1 b0 = fl0_182 → G_182.2.1 (g.2.2 125) = fl2_182 → G_182.2.1 (g.2.2 126) = fl3_182 → rgI (0) (23) a2 → rgI (0) (3) a3 → rgI (0) (24) y10_182 → HB (G.2.1 b0) (G.2.1 rl) (G.1 113) a2 a3 y6_182 → L2 (G.2.1 b0) fl0_182 fl2_182 fl3_182 (G_182.1 127) (y10_182 : Int32).toNatClampNeg a2.toNatClampNeg y7_182 y8_182 S σ (hitb (G.2.1 b0) (G.2.1 rl) (G.1 113) a2 a3) y9_182 → SB (G.2.1 b0) (F_X12_spreadOf (G.2.1 b0) a2) → (24 - (y10_182).toInt).toNat < n → lv_has ls 12 [(0, .ref h0), (1, .ref b0), (3, .int a2), (4, .int a3), (6, .int y6_182), (7, .int y7_182), (8, .int y8_182), (9, .int y9_182), (10, .int y10_182)] → HT g Ty G_182 H → va_S (AF Ty s.heap.size) s.heap H locs → Wm p l e (wsG yX12_goClone cX12_goClone 12 (some .int)) ({ frames := 340, cells := 0, slots := 0, locals := 7970 }) s m [.ref h0, .ref b0, .int a1, .int a2, .int a3] below meth c H locs (0) (0) (QwI g Ty s.heap.size (fun r u => u.1 = Ty ∧ FR [107, 108, 109, 110, 114, 127, 128] [b0, (g.2.2 115), (g.2.2 125), (g.2.2 126)] [106] G u.2 ∧ GC Bd (G.2.1 b0) (u.2.2.1 b0) (hitb (G.2.1 b0) (G.2.1 rl) (G.1 113) a2 a3) r)) 0 0 (AF Ty s.heap.size) (F0 m 182 ls []) := by
    intro n
    induction n with
    | zero => intro H locs G_182 fl0_182 fl2_182 fl3_182 y6_182 y7_182 y8_182 y9_182 y10_182 ls rg127_182 fr_182 efl0_182 efl2_182 efl3_182 ry3_182 ry4_182 ry10_182 hi0_182 hi1_182 hi2_182 hm; exact absurd hm (Nat.not_lt_zero _)
    | succ n ih_182 =>
      intro H locs G_182 fl0_182 fl2_182 fl3_182 y6_182 y7_182 y8_182 y9_182 y10_182 ls rg127_182 fr_182 efl0_182 efl2_182 efl3_182 ry3_182 ry4_182 ry10_182 hi0_182 hi1_182 hi2_182 hm_182 hl hH hS
      refine lv_iload hx hb dX12_goClone_182 (lv_at hl 8 rfl) ?_
      refine lv_bipush (v := 24) hx hb dX12_goClone_184 (by decide) ?_
      refine lv_icmp_ge (tgt := 292) hx hb dX12_goClone_186 (by decide) (fun c_1 => ?_) (fun c_1 => ?_)
      · have r_2 : rgI (24) (24) y10_182 := rg_w (rg_leR rl_24 ry10_182 c_1) (by decide) (by decide)
        refine lv_aload_n hx hb dX12_goClone_292 rfl (lv_at hl 1 rfl) ?_
        refine lv_bipush (v := 120) hx hb dX12_goClone_293 (by decide) ?_
        refine lv_dup2_11 hx hb dX12_goClone_295 rfl rfl ?_
        obtain ⟨_, rfl, o_c_3⟩ := hH b0 _ k_b0
        have o_c_3 : va_at g.1 vwCl (b0, .inl (g.2.1 1, 122, .inl (G_182.2.1 b0))) H := o_c_3
        refine hg_iald hx hb hK o_c_3 (rg_in (n := 122) rl_120 (by decide) (by decide)) dX12_goClone_296 ?_
        rw [efl0_182]
        refine lv_topi (fun x_4 ex_4 => ?_)
        refine lv_iconst (v := 1) hx hb dX12_goClone_297 (by decide) ?_
        refine lv_iadd hx hb dX12_goClone_298 ?_
        refine lv_topi (fun x_5 ex_5 => ?_)
        refine hg_iast hx hb hK hS o_c_3 (AF.of k_b0) (rg_in (n := 122) rl_120 (by decide) (by decide)) dX12_goClone_299 (fun H locs o_c_3 hz oq hS => ?_)
        obtain ⟨G_6, eG_6⟩ : ∃ z : Gh, z = aset G_182 b0 (upd (G_182.2.1 b0) (120 : Int32).toNatClampNeg x_5) := ⟨_, rfl⟩
        have hH : HT g Ty G_6 H := by rw [eG_6]; exact HT.putA (upd (G_182.2.1 b0) (120 : Int32).toNatClampNeg x_5) hH k_b0 cf30 o_c_3 oq
        obtain ⟨f_7, ef_7⟩ : ∃ z : Nat → Int32, z = (upd fl0_182 (120 : Int32).toNatClampNeg x_5) := ⟨_, rfl⟩
        have eaf_7 : G_6 = aset G_182 b0 f_7 := by rw [eG_6, ef_7, efl0_182]
        have fr_8 : FR [107, 108, 109, 110, 114, 127, 128] [b0, (g.2.2 115), (g.2.2 125), (g.2.2 126)] [106] G G_6 := FR.a fr_182 eaf_7 (fun b h => h.1)
        have u_9 : G_6.1 127 = (G_182.1 127) := by rw [eaf_7]; exact rfl
        have u_10 : G_6.1 113 = (G.1 113) := by rw [eaf_7]; exact (fr_182.1 113 (by decide))
        have w_11 : G_6.2.1 b0 = f_7 := by rw [eaf_7]; exact aset_eq
        have w_12 : G_6.2.1 rl = (G.2.1 rl) := by rw [eaf_7]; exact (aset_ne (ne_kd krl k_b0 (by decide))).trans (fr_182.2.1 rl ⟨(ne_kd krl k_b0 (by decide)), (ne_kd krl hmk.2.2.2.1 (by decide)), (ne_kd krl hmk.2.2.2.2.2.2.2.2.1 (by decide)), (ne_kd krl hmk.2.2.2.2.2.2.2.2.2.1 (by decide)), trivial⟩)
        have w_13 : G_6.2.1 (g.2.2 125) = fl2_182 := by rw [eaf_7]; exact (aset_ne (ne_kd hmk.2.2.2.2.2.2.2.2.1 k_b0 (by decide))).trans efl2_182
        have w_14 : G_6.2.1 (g.2.2 126) = fl3_182 := by rw [eaf_7]; exact (aset_ne (ne_kd hmk.2.2.2.2.2.2.2.2.2.1 k_b0 (by decide))).trans efl3_182
        have u_15 : G_6.2.2 111 = some rl := by rw [eaf_7]; exact ((fr_182.2.2 111 (by decide)).trans hr1)
        clear oq hz
        refine lv_iload hx hb dX12_goClone_300 (lv_at hl 7 rfl) ?_
        exact W.iret hx hb hr (fun t ht hWm => ⟨⟨y9_182, (Ty, G_6), rfl, ⟨rfl, ⟨fr_8, (by rw [w_11]; exact GC_mk hi1_182 r_2 h1 hBB ef_7)⟩⟩, by show HT g Ty G_6 t.heap; rw [ht]; exact hH⟩, hS.F ht⟩) hS.2.2 dX12_goClone_302
      · have r_16 : rgI (0) (23) y10_182 := rg_w (rg_ltL ry10_182 rl_24 (nle_lt c_1)) (by decide) (by decide)
        refine lv_iload hx hb dX12_goClone_189 (lv_at hl 4 rfl) ?_
        refine lv_iload hx hb dX12_goClone_191 (lv_at hl 8 rfl) ?_
        refine vp_callSi (W.runS (As := [.int y6_182, .int y10_182]) (rest := []) ⟨hx, hb, hml, hown, hts⟩ (c_X12_has l g Ty G_182 y6_182 y10_182 ) (cwSx 2 hts hG (gwC mw_1563) mw_88 mw_1561 mw_1562 rfl rfl rfl hd_X12_has ⟨Nat.le_of_ble_eq_true rfl, Nat.le_of_ble_eq_true rfl⟩) ⟨PcH_blind, PcH_pre hK hH⟩ rfl rfl hl.1 rfl (lv_room (Nat.le_of_ble_eq_true rfl)) dX12_goClone_193 ⟨Nat.zero_le _, Nat.zero_le _⟩) (fun x_17 hx_17 => ?_)
        have rx_17 : rgI (0) (1) x_17 := hx_17.1
        refine lv_if_ne (tgt := 202) hx hb dX12_goClone_196 (by decide) (fun c_18 => ?_) (fun c_18 => ?_)
        · have r_19 : rgI (1) (1) x_17 := rg_w (rg_neL rx_17 rl_0 c_18) (by decide) (by decide)
          have hb_20 : bt y6_182 (y10_182 : Int32).toNatClampNeg = true := has_1 (rg_w r_16 (by decide) (by decide)) (by rw [← hx_17.2]; exact c_18)
          have th_21 : thr (G.2.1 b0) y10_182 := SB.th (hi0_182.sb hi2_182) r_16 hb_20
          refine lv_aload_n hx hb dX12_goClone_202 rfl (lv_at hl 1 rfl) ?_
          refine lv_bipush (v := 48) hx hb dX12_goClone_203 (by decide) ?_
          refine lv_iload hx hb dX12_goClone_205 (lv_at hl 8 rfl) ?_
          refine lv_iadd hx hb dX12_goClone_207 ?_
          refine lv_topi (fun x_22 ex_22 => ?_)
          have rx_22 : rgI (48) (71) x_22 := by rw [ex_22]; exact rg_w (rg_add rl_48 r_16 (by decide) (by decide)) (by decide) (by decide)
          obtain ⟨_, rfl, o_c_23⟩ := hH b0 _ k_b0
          have o_c_23 : va_at g.1 vwCl (b0, .inl (g.2.1 1, 122, .inl (G_182.2.1 b0))) H := o_c_23
          refine hg_iald hx hb hK o_c_23 (rg_in (n := 122) rx_22 (by decide) (by decide)) dX12_goClone_208 ?_
          rw [efl0_182]
          refine lv_topi (fun x_24 ex_24 => ?_)
          refine lv_aload_n hx hb dX12_goClone_209 rfl (lv_at hl 1 rfl) ?_
          refine lv_bipush (v := 48) hx hb dX12_goClone_210 (by decide) ?_
          refine lv_iload_n hx hb dX12_goClone_212 rfl (lv_at hl 2 rfl) ?_
          refine lv_iadd hx hb dX12_goClone_213 ?_
          refine lv_topi (fun x_25 ex_25 => ?_)
          have rx_25 : rgI (48) (71) x_25 := by rw [ex_25]; exact rg_w (rg_add rl_48 ry3_182 (by decide) (by decide)) (by decide) (by decide)
          refine hg_iald hx hb hK o_c_23 (rg_in (n := 122) rx_25 (by decide) (by decide)) dX12_goClone_214 ?_
          rw [efl0_182]
          refine lv_topi (fun x_26 ex_26 => ?_)
          refine lv_icmp_ne (tgt := 222) hx hb dX12_goClone_215 (by decide) (fun c_27 => ?_) (fun c_27 => ?_)
          · refine lv_iconst (v := 0) hx hb dX12_goClone_222 (by decide) ?_
            refine lv_istore (lv' := [(11, .int 0), (0, .ref h0), (1, .ref b0), (3, .int a2), (4, .int a3), (6, .int y6_182), (7, .int y7_182), (8, .int y8_182), (9, .int y9_182), (10, .int y10_182)]) hx hb dX12_goClone_223 hl (by decide) rfl (fun ls hl => ?_)
            refine lv_aload_n hx hb dX12_goClone_225 rfl (lv_at hl 1 rfl) ?_
            refine lv_dup hx hb dX12_goClone_226 rfl ?_
            obtain ⟨_, ⟨rfl, t_29, hk_30⟩, o_c_28⟩ := hH h0 _ k_h0
            refine hg_get hx hb hG igX12 hown hK o_c_28 rfl 28 (by decide) (hG _ mw_1312) rfl dX12_goClone_227 ?_
            refine lv_iconst (v := 1) hx hb dX12_goClone_230 (by decide) ?_
            refine lv_aload_n hx hb dX12_goClone_231 rfl (lv_at hl 2 rfl) ?_
            refine lv_iload hx hb dX12_goClone_232 (lv_at hl 9 rfl) ?_
            refine lv_iload hx hb dX12_goClone_234 (lv_at hl 4 rfl) ?_
            refine lv_iload hx hb dX12_goClone_236 (lv_at hl 0 rfl) ?_
            refine lv_if_eq (tgt := 246) hx hb dX12_goClone_238 (by decide) (fun c_31 => ?_) (fun c_31 => ?_)
            · refine lv_aload_n hx hb dX12_goClone_246 rfl (lv_at hl 1 rfl) ?_
              refine lv_aload_n hx hb dX12_goClone_247 rfl (lv_at hl 2 rfl) ?_
              refine lv_bipush (v := 48) hx hb dX12_goClone_248 (by decide) ?_
              refine lv_iload hx hb dX12_goClone_250 (lv_at hl 9 rfl) ?_
              refine lv_iadd hx hb dX12_goClone_252 ?_
              refine lv_topi (fun x_32 ex_32 => ?_)
              have rx_32 : rgI (48) (71) x_32 := by rw [ex_32]; exact rg_w (rg_add rl_48 r_16 (by decide) (by decide)) (by decide) (by decide)
              refine hg_iald hx hb hK o_c_23 (rg_in (n := 122) rx_32 (by decide) (by decide)) dX12_goClone_253 ?_
              rw [efl0_182]
              refine lv_topi (fun x_33 ex_33 => ?_)
              refine vp_callSi (W.runV (As := [.int x_33]) (rest := [.int a3, .int y10_182, .ref b0, .int 1, .int (G_182.1 128), .ref h0]) ⟨hx, hb, hml, hown, hts⟩ (c_X12_newOf l g Ty G_182 h0 x_33 k_h0 (rg_w rg127_182 (by decide) (by decide))) (cwV 1 hts (gwV mw_1595 mw_1597 mw_56 mw_88 mw_1598) rfl rfl rfl hv_X12_newOf ⟨Nat.le_of_ble_eq_true rfl, Nat.le_of_ble_eq_true rfl⟩) ⟨PcH_blind, hg_recv hK o_c_28 rfl, PcH_pre hK hH⟩ rfl rfl hl.1 rfl (lv_room (Nat.le_of_ble_eq_true rfl)) dX12_goClone_254 ⟨Nat.zero_le _, Nat.zero_le _⟩) (fun x_34 hx_34 => ?_)
              refine lv_iload hx hb dX12_goClone_257 (lv_at hl 0 rfl) ?_
              refine lv_if_eq (tgt := 267) hx hb dX12_goClone_259 (by decide) (fun c_35 => ?_) (fun c_35 => ?_)
              · refine lv_aload_n hx hb dX12_goClone_267 rfl (lv_at hl 1 rfl) ?_
                refine lv_aload_n hx hb dX12_goClone_268 rfl (lv_at hl 2 rfl) ?_
                refine lv_bipush (v := 72) hx hb dX12_goClone_269 (by decide) ?_
                refine lv_iload hx hb dX12_goClone_271 (lv_at hl 9 rfl) ?_
                refine lv_iadd hx hb dX12_goClone_273 ?_
                refine lv_topi (fun x_36 ex_36 => ?_)
                have rx_36 : rgI (72) (95) x_36 := by rw [ex_36]; exact rg_w (rg_add rl_72 r_16 (by decide) (by decide)) (by decide) (by decide)
                refine hg_iald hx hb hK o_c_23 (rg_in (n := 122) rx_36 (by decide) (by decide)) dX12_goClone_274 ?_
                rw [efl0_182]
                refine lv_topi (fun x_37 ex_37 => ?_)
                refine vp_callSi (W.runV (As := [.int x_37]) (rest := [.int x_34, .int a3, .int y10_182, .ref b0, .int 1, .int (G_182.1 128), .ref h0]) ⟨hx, hb, hml, hown, hts⟩ (c_X12_newOf l g Ty G_182 h0 x_37 k_h0 (rg_w rg127_182 (by decide) (by decide))) (cwV 1 hts (gwV mw_1595 mw_1597 mw_56 mw_88 mw_1598) rfl rfl rfl hv_X12_newOf ⟨Nat.le_of_ble_eq_true rfl, Nat.le_of_ble_eq_true rfl⟩) ⟨PcH_blind, hg_recv hK o_c_28 rfl, PcH_pre hK hH⟩ rfl rfl hl.1 rfl (lv_room (Nat.le_of_ble_eq_true rfl)) dX12_goClone_275 ⟨Nat.zero_le _, Nat.zero_le _⟩) (fun x_38 hx_38 => ?_)
                refine va_calli (va_runS (As := [.ref b0, .int y10_182, .int a3, .int x_34, .int x_38]) (rest := [.int 1, .int (G_182.1 128), .ref h0]) ⟨hx, hb, hml, hown, hts⟩ (c_X12_comes l g Ty G_182 H.size b0 y10_182 a3 x_34 x_38 k_b0) (cwSx 5 hts hG (gwC mw_1601) mw_88 mw_1599 mw_1600 rfl rfl rfl hd_X12_comes ⟨Nat.le_of_ble_eq_true rfl, Nat.le_of_ble_eq_true rfl⟩) ⟨PcT_blind, PcT_pre hK hH⟩ rfl rfl hl.1 rfl (lv_room (Nat.le_of_ble_eq_true rfl)) dX12_goClone_278 ⟨Nat.zero_le _, Nat.zero_le _⟩) hS (fun q _ h => AF.mono hS.1 h) (fun q h => AF.mono hS.1 h) (fun x_39 ux_39 t H locs ht hvm hx_39 hB hz hk hS => ?_)
                obtain ⟨eTx_39, eGx_39⟩ := hx_39
                obtain ⟨G_40, eG_40⟩ : ∃ z, z = ux_39.2 := ⟨_, rfl⟩
                rw [← eG_40] at eGx_39
                obtain ⟨hr_42, hg_43⟩ := eGx_39
                rw [efl0_182] at hr_42 hg_43
                obtain ⟨f_41, ef_41⟩ : ∃ z : Nat → Int32, z = (F_X12_comes fl0_182 y10_182 a3 x_34 x_38).2 := ⟨_, rfl⟩
                rw [← ef_41] at hg_43
                have fr_44 : FR [107, 108, 109, 110, 114, 127, 128] [b0, (g.2.2 115), (g.2.2 125), (g.2.2 126)] [106] G G_40 := FR.a fr_182 hg_43 (fun b h => h.1)
                have u_45 : G_40.1 127 = (G_182.1 127) := by rw [hg_43]; exact rfl
                have u_46 : G_40.1 113 = (G.1 113) := by rw [hg_43]; exact (fr_182.1 113 (by decide))
                have w_47 : G_40.2.1 b0 = f_41 := by rw [hg_43]; exact aset_eq
                have w_48 : G_40.2.1 rl = (G.2.1 rl) := by rw [hg_43]; exact (aset_ne (ne_kd krl k_b0 (by decide))).trans (fr_182.2.1 rl ⟨(ne_kd krl k_b0 (by decide)), (ne_kd krl hmk.2.2.2.1 (by decide)), (ne_kd krl hmk.2.2.2.2.2.2.2.2.1 (by decide)), (ne_kd krl hmk.2.2.2.2.2.2.2.2.2.1 (by decide)), trivial⟩)
                have w_49 : G_40.2.1 (g.2.2 125) = fl2_182 := by rw [hg_43]; exact (aset_ne (ne_kd hmk.2.2.2.2.2.2.2.2.1 k_b0 (by decide))).trans efl2_182
                have w_50 : G_40.2.1 (g.2.2 126) = fl3_182 := by rw [hg_43]; exact (aset_ne (ne_kd hmk.2.2.2.2.2.2.2.2.2.1 k_b0 (by decide))).trans efl3_182
                have u_51 : G_40.2.2 111 = some rl := by rw [hg_43]; exact ((fr_182.2.2 111 (by decide)).trans hr1)
                have hH : HT g Ty G_40 H := by rw [← ht, ← eTx_39, eG_40]; exact hB
                refine lv_ishl hx hb dX12_goClone_281 ?_
                refine lv_topi (fun x_52 ex_52 => ?_)
                refine lv_ior hx hb dX12_goClone_282 ?_
                refine lv_topi (fun x_53 ex_53 => ?_)
                obtain ⟨_, ⟨rfl, t_55, hk_56⟩, o_c_54⟩ := hH h0 _ k_h0
                refine hg_put (ty := .int) hx hb hG igX12 tyX12 tyX12_ok nmX12 hown hK hS o_c_54 (AF.of k_h0) rfl 28 (by decide) (hG _ mw_1312) rfl (by decide +kernel) rfl rfl (Nat.le_of_ble_eq_true rfl) dX12_goClone_283 (fun H locs o_c_54 hz oq hS => ?_)
                obtain ⟨G_57, eG_57⟩ : ∃ z : Gh, z = gset G_40 128 x_53 := ⟨_, rfl⟩
                have hH : HT g Ty G_57 H := by rw [eG_57]; exact HT.putN 128 x_53 hH k_h0 ⟨rfl, t_55, hk_56⟩ o_c_54 oq (Or.inr (Or.inr (Or.inr (Or.inr (Or.inr ⟨by decide, t_55⟩)))))
                have fr_58 : FR [107, 108, 109, 110, 114, 127, 128] [b0, (g.2.2 115), (g.2.2 125), (g.2.2 126)] [106] G G_57 := FR.n fr_44 eG_57 (by decide)
                have u_59 : G_57.1 127 = (G_182.1 127) := by rw [eG_57]; exact (gs_ne (by decide)).trans u_45
                have u_60 : G_57.1 113 = (G.1 113) := by rw [eG_57]; exact (gs_ne (by decide)).trans u_46
                have u_61 : G_57.1 128 = x_53 := by rw [eG_57]; exact gs_eq
                have w_62 : G_57.2.1 b0 = f_41 := by rw [eG_57]; exact w_47
                have w_63 : G_57.2.1 rl = (G.2.1 rl) := by rw [eG_57]; exact w_48
                have w_64 : G_57.2.1 (g.2.2 125) = fl2_182 := by rw [eG_57]; exact w_49
                have w_65 : G_57.2.1 (g.2.2 126) = fl3_182 := by rw [eG_57]; exact w_50
                have u_66 : G_57.2.2 111 = some rl := by rw [eG_57]; exact u_51
                clear oq hz
                obtain ⟨x_67, ex_67⟩ : ∃ y : Int32, y = y10_182 + 1 := ⟨_, rfl⟩
                have rx_67 : rgI (1) (24) x_67 := by rw [ex_67]; exact rg_w (rg_add r_16 rl_1 (by decide) (by decide)) (by decide) (by decide)
                have qx_67 : x_67.toInt = (y10_182 : Int32).toInt + 1 := by rw [ex_67]; exact rg_addE r_16 rl_1 (by decide) (by decide)
                refine lv_iinc (v := x_67) (lv' := [(10, .int x_67), (11, .int 0), (0, .ref h0), (1, .ref b0), (3, .int a2), (4, .int a3), (6, .int y6_182), (7, .int y7_182), (8, .int y8_182), (9, .int y9_182)]) hx hb dX12_goClone_286 hl (k := 9) rfl (by rw [ex_67]; rfl) (by decide) rfl (fun ls hl => ?_)
                refine lv_goto (tgt := 182) hx hb dX12_goClone_289 (by decide) ?_
                exact ih_182 H locs G_57 f_41 fl2_182 fl3_182 y6_182 y7_182 y8_182 y9_182 x_67 ls (by rw [u_59]; exact rg_w rg127_182 (by decide) (by decide)) fr_58 w_62 w_64 w_65 ry3_182 ry4_182 (rg_w rx_67 (by decide) (by decide)) hi0_182 (by rw [u_59]; exact (L2_hit hi1_182 hTS h1 r_16 qx_67 (hi0_182.at_ r_16 hb_20) hCOM.2.2.2 th_21 hm0 (Or.inr ⟨by rw [← ex_22, ← ex_25, ← ex_24, ← ex_26]; exact c_27, by rw [← ex_32, ← ex_33]; exact (by rw [← efl2_182, ← efl3_182]; exact hx_34), by rw [← ex_36, ← ex_37]; exact (by rw [← efl2_182, ← efl3_182]; exact hx_38)⟩) ef_41)) hi2_182 (by have h1 := qx_67; have h2 := r_16.1; have h3 := r_16.2; have h4 := hm_182; omega) (lv_sub hl [2, 3, 4, 5, 6, 7, 8, 9, 0] rfl) hH hS
              · exact absurd rfl c_35
            · exact absurd rfl c_31
          · refine lv_iconst (v := 1) hx hb dX12_goClone_218 (by decide) ?_
            refine lv_goto (tgt := 223) hx hb dX12_goClone_219 (by decide) ?_
            refine lv_istore (lv' := [(11, .int 1), (0, .ref h0), (1, .ref b0), (3, .int a2), (4, .int a3), (6, .int y6_182), (7, .int y7_182), (8, .int y8_182), (9, .int y9_182), (10, .int y10_182)]) hx hb dX12_goClone_223 hl (by decide) rfl (fun ls hl => ?_)
            refine lv_aload_n hx hb dX12_goClone_225 rfl (lv_at hl 1 rfl) ?_
            refine lv_dup hx hb dX12_goClone_226 rfl ?_
            obtain ⟨_, ⟨rfl, t_69, hk_70⟩, o_c_68⟩ := hH h0 _ k_h0
            refine hg_get hx hb hG igX12 hown hK o_c_68 rfl 28 (by decide) (hG _ mw_1312) rfl dX12_goClone_227 ?_
            refine lv_iconst (v := 1) hx hb dX12_goClone_230 (by decide) ?_
            refine lv_aload_n hx hb dX12_goClone_231 rfl (lv_at hl 2 rfl) ?_
            refine lv_iload hx hb dX12_goClone_232 (lv_at hl 9 rfl) ?_
            refine lv_iload hx hb dX12_goClone_234 (lv_at hl 4 rfl) ?_
            refine lv_iload hx hb dX12_goClone_236 (lv_at hl 0 rfl) ?_
            refine lv_if_eq (tgt := 246) hx hb dX12_goClone_238 (by decide) (fun c_71 => ?_) (fun c_71 => ?_)
            · exact rg_noE rl_1 rl_0 c_71 (by decide)
            · refine lv_iload hx hb dX12_goClone_241 (lv_at hl 6 rfl) ?_
              refine lv_goto (tgt := 257) hx hb dX12_goClone_243 (by decide) ?_
              refine lv_iload hx hb dX12_goClone_257 (lv_at hl 0 rfl) ?_
              refine lv_if_eq (tgt := 267) hx hb dX12_goClone_259 (by decide) (fun c_72 => ?_) (fun c_72 => ?_)
              · exact rg_noE rl_1 rl_0 c_72 (by decide)
              · refine lv_iload hx hb dX12_goClone_262 (lv_at hl 7 rfl) ?_
                refine lv_goto (tgt := 278) hx hb dX12_goClone_264 (by decide) ?_
                refine va_calli (va_runS (As := [.ref b0, .int y10_182, .int a3, .int y7_182, .int y8_182]) (rest := [.int 1, .int (G_182.1 128), .ref h0]) ⟨hx, hb, hml, hown, hts⟩ (c_X12_comes l g Ty G_182 H.size b0 y10_182 a3 y7_182 y8_182 k_b0) (cwSx 5 hts hG (gwC mw_1601) mw_88 mw_1599 mw_1600 rfl rfl rfl hd_X12_comes ⟨Nat.le_of_ble_eq_true rfl, Nat.le_of_ble_eq_true rfl⟩) ⟨PcT_blind, PcT_pre hK hH⟩ rfl rfl hl.1 rfl (lv_room (Nat.le_of_ble_eq_true rfl)) dX12_goClone_278 ⟨Nat.zero_le _, Nat.zero_le _⟩) hS (fun q _ h => AF.mono hS.1 h) (fun q h => AF.mono hS.1 h) (fun x_73 ux_73 t H locs ht hvm hx_73 hB hz hk hS => ?_)
                obtain ⟨eTx_73, eGx_73⟩ := hx_73
                obtain ⟨G_74, eG_74⟩ : ∃ z, z = ux_73.2 := ⟨_, rfl⟩
                rw [← eG_74] at eGx_73
                obtain ⟨hr_76, hg_77⟩ := eGx_73
                rw [efl0_182] at hr_76 hg_77
                obtain ⟨f_75, ef_75⟩ : ∃ z : Nat → Int32, z = (F_X12_comes fl0_182 y10_182 a3 y7_182 y8_182).2 := ⟨_, rfl⟩
                rw [← ef_75] at hg_77
                have fr_78 : FR [107, 108, 109, 110, 114, 127, 128] [b0, (g.2.2 115), (g.2.2 125), (g.2.2 126)] [106] G G_74 := FR.a fr_182 hg_77 (fun b h => h.1)
                have u_79 : G_74.1 127 = (G_182.1 127) := by rw [hg_77]; exact rfl
                have u_80 : G_74.1 113 = (G.1 113) := by rw [hg_77]; exact (fr_182.1 113 (by decide))
                have w_81 : G_74.2.1 b0 = f_75 := by rw [hg_77]; exact aset_eq
                have w_82 : G_74.2.1 rl = (G.2.1 rl) := by rw [hg_77]; exact (aset_ne (ne_kd krl k_b0 (by decide))).trans (fr_182.2.1 rl ⟨(ne_kd krl k_b0 (by decide)), (ne_kd krl hmk.2.2.2.1 (by decide)), (ne_kd krl hmk.2.2.2.2.2.2.2.2.1 (by decide)), (ne_kd krl hmk.2.2.2.2.2.2.2.2.2.1 (by decide)), trivial⟩)
                have w_83 : G_74.2.1 (g.2.2 125) = fl2_182 := by rw [hg_77]; exact (aset_ne (ne_kd hmk.2.2.2.2.2.2.2.2.1 k_b0 (by decide))).trans efl2_182
                have w_84 : G_74.2.1 (g.2.2 126) = fl3_182 := by rw [hg_77]; exact (aset_ne (ne_kd hmk.2.2.2.2.2.2.2.2.2.1 k_b0 (by decide))).trans efl3_182
                have u_85 : G_74.2.2 111 = some rl := by rw [hg_77]; exact ((fr_182.2.2 111 (by decide)).trans hr1)
                have hH : HT g Ty G_74 H := by rw [← ht, ← eTx_73, eG_74]; exact hB
                refine lv_ishl hx hb dX12_goClone_281 ?_
                refine lv_topi (fun x_86 ex_86 => ?_)
                refine lv_ior hx hb dX12_goClone_282 ?_
                refine lv_topi (fun x_87 ex_87 => ?_)
                obtain ⟨_, ⟨rfl, t_89, hk_90⟩, o_c_88⟩ := hH h0 _ k_h0
                refine hg_put (ty := .int) hx hb hG igX12 tyX12 tyX12_ok nmX12 hown hK hS o_c_88 (AF.of k_h0) rfl 28 (by decide) (hG _ mw_1312) rfl (by decide +kernel) rfl rfl (Nat.le_of_ble_eq_true rfl) dX12_goClone_283 (fun H locs o_c_88 hz oq hS => ?_)
                obtain ⟨G_91, eG_91⟩ : ∃ z : Gh, z = gset G_74 128 x_87 := ⟨_, rfl⟩
                have hH : HT g Ty G_91 H := by rw [eG_91]; exact HT.putN 128 x_87 hH k_h0 ⟨rfl, t_89, hk_90⟩ o_c_88 oq (Or.inr (Or.inr (Or.inr (Or.inr (Or.inr ⟨by decide, t_89⟩)))))
                have fr_92 : FR [107, 108, 109, 110, 114, 127, 128] [b0, (g.2.2 115), (g.2.2 125), (g.2.2 126)] [106] G G_91 := FR.n fr_78 eG_91 (by decide)
                have u_93 : G_91.1 127 = (G_182.1 127) := by rw [eG_91]; exact (gs_ne (by decide)).trans u_79
                have u_94 : G_91.1 113 = (G.1 113) := by rw [eG_91]; exact (gs_ne (by decide)).trans u_80
                have u_95 : G_91.1 128 = x_87 := by rw [eG_91]; exact gs_eq
                have w_96 : G_91.2.1 b0 = f_75 := by rw [eG_91]; exact w_81
                have w_97 : G_91.2.1 rl = (G.2.1 rl) := by rw [eG_91]; exact w_82
                have w_98 : G_91.2.1 (g.2.2 125) = fl2_182 := by rw [eG_91]; exact w_83
                have w_99 : G_91.2.1 (g.2.2 126) = fl3_182 := by rw [eG_91]; exact w_84
                have u_100 : G_91.2.2 111 = some rl := by rw [eG_91]; exact u_85
                clear oq hz
                obtain ⟨x_101, ex_101⟩ : ∃ y : Int32, y = y10_182 + 1 := ⟨_, rfl⟩
                have rx_101 : rgI (1) (24) x_101 := by rw [ex_101]; exact rg_w (rg_add r_16 rl_1 (by decide) (by decide)) (by decide) (by decide)
                have qx_101 : x_101.toInt = (y10_182 : Int32).toInt + 1 := by rw [ex_101]; exact rg_addE r_16 rl_1 (by decide) (by decide)
                refine lv_iinc (v := x_101) (lv' := [(10, .int x_101), (11, .int 1), (0, .ref h0), (1, .ref b0), (3, .int a2), (4, .int a3), (6, .int y6_182), (7, .int y7_182), (8, .int y8_182), (9, .int y9_182)]) hx hb dX12_goClone_286 hl (k := 9) rfl (by rw [ex_101]; rfl) (by decide) rfl (fun ls hl => ?_)
                refine lv_goto (tgt := 182) hx hb dX12_goClone_289 (by decide) ?_
                exact ih_182 H locs G_91 f_75 fl2_182 fl3_182 y6_182 y7_182 y8_182 y9_182 x_101 ls (by rw [u_93]; exact rg_w rg127_182 (by decide) (by decide)) fr_92 w_96 w_98 w_99 ry3_182 ry4_182 (rg_w rx_101 (by decide) (by decide)) hi0_182 (by rw [u_93]; exact (L2_hit hi1_182 hTS h1 r_16 qx_101 (hi0_182.at_ r_16 hb_20) hCOM.2.2.2 th_21 hm0 (Or.inl ⟨rfl, rfl⟩) ef_75)) hi2_182 (by have h1 := qx_101; have h2 := r_16.1; have h3 := r_16.2; have h4 := hm_182; omega) (lv_sub hl [2, 3, 4, 5, 6, 7, 8, 9, 0] rfl) hH hS
        · have r_102 : rgI (0) (0) x_17 := rg_w (rg_eq rl_0 c_18) (by decide) (by decide)
          have hb_103 : bt y6_182 (y10_182 : Int32).toNatClampNeg = false := has_0 (rg_w r_16 (by decide) (by decide)) (by rw [← hx_17.2]; exact c_18)
          refine lv_goto (tgt := 286) hx hb dX12_goClone_199 (by decide) ?_
          obtain ⟨x_104, ex_104⟩ : ∃ y : Int32, y = y10_182 + 1 := ⟨_, rfl⟩
          have rx_104 : rgI (1) (24) x_104 := by rw [ex_104]; exact rg_w (rg_add r_16 rl_1 (by decide) (by decide)) (by decide) (by decide)
          have qx_104 : x_104.toInt = (y10_182 : Int32).toInt + 1 := by rw [ex_104]; exact rg_addE r_16 rl_1 (by decide) (by decide)
          refine lv_iinc (v := x_104) (lv' := [(10, .int x_104), (0, .ref h0), (1, .ref b0), (3, .int a2), (4, .int a3), (6, .int y6_182), (7, .int y7_182), (8, .int y8_182), (9, .int y9_182)]) hx hb dX12_goClone_286 hl (k := 8) rfl (by rw [ex_104]; rfl) (by decide) rfl (fun ls hl => ?_)
          refine lv_goto (tgt := 182) hx hb dX12_goClone_289 (by decide) ?_
          exact ih_182 H locs G_182 fl0_182 fl2_182 fl3_182 y6_182 y7_182 y8_182 y9_182 x_104 ls (rg_w rg127_182 (by decide) (by decide)) fr_182 efl0_182 efl2_182 efl3_182 ry3_182 ry4_182 (rg_w rx_104 (by decide) (by decide)) hi0_182 (L2_skip hi1_182 r_16 qx_104 (hi0_182.at_ r_16 hb_103)) hi2_182 (by have h1 := qx_104; have h2 := r_16.1; have h3 := r_16.2; have h4 := hm_182; omega) (lv_sub hl [1, 2, 3, 4, 5, 6, 7, 8, 0] rfl) hH hS
  have L_102 : ∀ (n : Nat) (H : Heap) (locs : List Loc) (G_102 : Gh) (fl0_102 : Nat → Int32) (fl2_102 : Nat → Int32) (fl3_102 : Nat → Int32) (y5_102 : Int32) (y6_102 : Int32) (y7_102 : Int32) (y8_102 : Int32) (y9_102 : Int32) (ls : Array Slot), rgI (0) (24) (G_102.1 127) → FR [107, 108, 109, 110, 114, 127, 128] [b0, (g.2.2 115), (g.2.2 125), (g.2.2 126)] [106] G G_102 → G_102.2.1 b0 = fl0_102 → G_102.2.1 (g.2.2 125) = fl2_102 → G_102.2.1 (g.2.2 126) = fl3_102 → rgI (0) (23) a2 → rgI (0) (3) a3 → rgI (0) (24) y9_102 → HB (G.2.1 b0) (G.2.1 rl) (G.1 113) a2 a3 y6_102 → LN (G.2.1 b0) fl0_102 fl2_102 fl3_102 (G_102.1 127) (y9_102 : Int32).toNatClampNeg a2.toNatClampNeg y7_102 y8_102 S σ → SB (G.2.1 b0) (F_X12_spreadOf (G.2.1 b0) a2) → (24 - (y9_102).toInt).toNat < n → lv_has ls 12 [(0, .ref h0), (1, .ref b0), (3, .int a2), (4, .int a3), (5, .int y5_102), (6, .int y6_102), (7, .int y7_102), (8, .int y8_102), (9, .int y9_102)] → HT g Ty G_102 H → va_S (AF Ty s.heap.size) s.heap H locs → Wm p l e (wsG yX12_goClone cX12_goClone 12 (some .int)) ({ frames := 340, cells := 0, slots := 0, locals := 7970 }) s m [.ref h0, .ref b0, .int a1, .int a2, .int a3] below meth c H locs (0) (0) (QwI g Ty s.heap.size (fun r u => u.1 = Ty ∧ FR [107, 108, 109, 110, 114, 127, 128] [b0, (g.2.2 115), (g.2.2 125), (g.2.2 126)] [106] G u.2 ∧ GC Bd (G.2.1 b0) (u.2.2.1 b0) (hitb (G.2.1 b0) (G.2.1 rl) (G.1 113) a2 a3) r)) 0 0 (AF Ty s.heap.size) (F0 m 102 ls []) := by
    intro n
    induction n with
    | zero => intro H locs G_102 fl0_102 fl2_102 fl3_102 y5_102 y6_102 y7_102 y8_102 y9_102 ls rg127_102 fr_102 efl0_102 efl2_102 efl3_102 ry3_102 ry4_102 ry9_102 hi0_102 hi1_102 hi2_102 hm; exact absurd hm (Nat.not_lt_zero _)
    | succ n ih_102 =>
      intro H locs G_102 fl0_102 fl2_102 fl3_102 y5_102 y6_102 y7_102 y8_102 y9_102 ls rg127_102 fr_102 efl0_102 efl2_102 efl3_102 ry3_102 ry4_102 ry9_102 hi0_102 hi1_102 hi2_102 hm_102 hl hH hS
      refine lv_iload hx hb dX12_goClone_102 (lv_at hl 8 rfl) ?_
      refine lv_bipush (v := 24) hx hb dX12_goClone_104 (by decide) ?_
      refine lv_icmp_ge (tgt := 158) hx hb dX12_goClone_106 (by decide) (fun c_105 => ?_) (fun c_105 => ?_)
      · have r_106 : rgI (24) (24) y9_102 := rg_w (rg_leR rl_24 ry9_102 c_105) (by decide) (by decide)
        refine lv_aload_n hx hb dX12_goClone_158 rfl (lv_at hl 1 rfl) ?_
        refine lv_iload_n hx hb dX12_goClone_159 rfl (lv_at hl 2 rfl) ?_
        refine lv_iload hx hb dX12_goClone_160 (lv_at hl 3 rfl) ?_
        refine lv_iload hx hb dX12_goClone_162 (lv_at hl 6 rfl) ?_
        refine lv_iload hx hb dX12_goClone_164 (lv_at hl 7 rfl) ?_
        refine va_calli (va_runS (As := [.ref b0, .int a2, .int a3, .int y7_102, .int y8_102]) (rest := []) ⟨hx, hb, hml, hown, hts⟩ (c_X12_comes l g Ty G_102 H.size b0 a2 a3 y7_102 y8_102 k_b0) (cwSx 5 hts hG (gwC mw_1601) mw_88 mw_1599 mw_1600 rfl rfl rfl hd_X12_comes ⟨Nat.le_of_ble_eq_true rfl, Nat.le_of_ble_eq_true rfl⟩) ⟨PcT_blind, PcT_pre hK hH⟩ rfl rfl hl.1 rfl (lv_room (Nat.le_of_ble_eq_true rfl)) dX12_goClone_166 ⟨Nat.zero_le _, Nat.zero_le _⟩) hS (fun q _ h => AF.mono hS.1 h) (fun q h => AF.mono hS.1 h) (fun x_107 ux_107 t H locs ht hvm hx_107 hB hz hk hS => ?_)
        obtain ⟨eTx_107, eGx_107⟩ := hx_107
        obtain ⟨G_108, eG_108⟩ : ∃ z, z = ux_107.2 := ⟨_, rfl⟩
        rw [← eG_108] at eGx_107
        obtain ⟨hr_110, hg_111⟩ := eGx_107
        rw [efl0_102] at hr_110 hg_111
        obtain ⟨f_109, ef_109⟩ : ∃ z : Nat → Int32, z = (F_X12_comes fl0_102 a2 a3 y7_102 y8_102).2 := ⟨_, rfl⟩
        rw [← ef_109] at hg_111
        have fr_112 : FR [107, 108, 109, 110, 114, 127, 128] [b0, (g.2.2 115), (g.2.2 125), (g.2.2 126)] [106] G G_108 := FR.a fr_102 hg_111 (fun b h => h.1)
        have u_113 : G_108.1 127 = (G_102.1 127) := by rw [hg_111]; exact rfl
        have u_114 : G_108.1 113 = (G.1 113) := by rw [hg_111]; exact (fr_102.1 113 (by decide))
        have w_115 : G_108.2.1 b0 = f_109 := by rw [hg_111]; exact aset_eq
        have w_116 : G_108.2.1 rl = (G.2.1 rl) := by rw [hg_111]; exact (aset_ne (ne_kd krl k_b0 (by decide))).trans (fr_102.2.1 rl ⟨(ne_kd krl k_b0 (by decide)), (ne_kd krl hmk.2.2.2.1 (by decide)), (ne_kd krl hmk.2.2.2.2.2.2.2.2.1 (by decide)), (ne_kd krl hmk.2.2.2.2.2.2.2.2.2.1 (by decide)), trivial⟩)
        have w_117 : G_108.2.1 (g.2.2 125) = fl2_102 := by rw [hg_111]; exact (aset_ne (ne_kd hmk.2.2.2.2.2.2.2.2.1 k_b0 (by decide))).trans efl2_102
        have w_118 : G_108.2.1 (g.2.2 126) = fl3_102 := by rw [hg_111]; exact (aset_ne (ne_kd hmk.2.2.2.2.2.2.2.2.2.1 k_b0 (by decide))).trans efl3_102
        have u_119 : G_108.2.2 111 = some rl := by rw [hg_111]; exact ((fr_102.2.2 111 (by decide)).trans hr1)
        have hH : HT g Ty G_108 H := by rw [← ht, ← eTx_107, eG_108]; exact hB
        refine lv_istore (lv' := [(9, .int x_107), (0, .ref h0), (1, .ref b0), (3, .int a2), (4, .int a3), (5, .int y5_102), (6, .int y6_102), (7, .int y7_102), (8, .int y8_102)]) hx hb dX12_goClone_169 hl (by decide) rfl (fun ls hl => ?_)
        refine lv_aload_n hx hb dX12_goClone_171 rfl (lv_at hl 1 rfl) ?_
        refine lv_iconst (v := 1) hx hb dX12_goClone_172 (by decide) ?_
        refine lv_iload hx hb dX12_goClone_173 (lv_at hl 0 rfl) ?_
        refine lv_ishl hx hb dX12_goClone_175 ?_
        refine lv_topi (fun x_120 ex_120 => ?_)
        obtain ⟨_, ⟨rfl, t_122, hk_123⟩, o_c_121⟩ := hH h0 _ k_h0
        refine hg_put (ty := .int) hx hb hG igX12 tyX12 tyX12_ok nmX12 hown hK hS o_c_121 (AF.of k_h0) rfl 28 (by decide) (hG _ mw_1312) rfl (by decide +kernel) rfl rfl (Nat.le_of_ble_eq_true rfl) dX12_goClone_176 (fun H locs o_c_121 hz oq hS => ?_)
        obtain ⟨G_124, eG_124⟩ : ∃ z : Gh, z = gset G_108 128 x_120 := ⟨_, rfl⟩
        have hH : HT g Ty G_124 H := by rw [eG_124]; exact HT.putN 128 x_120 hH k_h0 ⟨rfl, t_122, hk_123⟩ o_c_121 oq (Or.inr (Or.inr (Or.inr (Or.inr (Or.inr ⟨by decide, t_122⟩)))))
        have fr_125 : FR [107, 108, 109, 110, 114, 127, 128] [b0, (g.2.2 115), (g.2.2 125), (g.2.2 126)] [106] G G_124 := FR.n fr_112 eG_124 (by decide)
        have u_126 : G_124.1 127 = (G_102.1 127) := by rw [eG_124]; exact (gs_ne (by decide)).trans u_113
        have u_127 : G_124.1 113 = (G.1 113) := by rw [eG_124]; exact (gs_ne (by decide)).trans u_114
        have u_128 : G_124.1 128 = x_120 := by rw [eG_124]; exact gs_eq
        have w_129 : G_124.2.1 b0 = f_109 := by rw [eG_124]; exact w_115
        have w_130 : G_124.2.1 rl = (G.2.1 rl) := by rw [eG_124]; exact w_116
        have w_131 : G_124.2.1 (g.2.2 125) = fl2_102 := by rw [eG_124]; exact w_117
        have w_132 : G_124.2.1 (g.2.2 126) = fl3_102 := by rw [eG_124]; exact w_118
        have u_133 : G_124.2.2 111 = some rl := by rw [eG_124]; exact u_119
        clear oq hz
        refine lv_iconst (v := 0) hx hb dX12_goClone_179 (by decide) ?_
        refine lv_istore (lv' := [(10, .int 0), (9, .int x_107), (0, .ref h0), (1, .ref b0), (3, .int a2), (4, .int a3), (5, .int y5_102), (6, .int y6_102), (7, .int y7_102), (8, .int y8_102)]) hx hb dX12_goClone_180 hl (by decide) rfl (fun ls hl => ?_)
        exact L_182 _ H locs G_124 f_109 fl2_102 fl3_102 y6_102 y7_102 y8_102 x_107 0 ls (by rw [u_126]; exact rg_w rg127_102 (by decide) (by decide)) fr_125 w_129 w_131 w_132 ry3_102 ry4_102 (rg_w rl_0 (by decide) (by decide)) hi0_102 (by rw [u_126]; exact (L2_init hi1_102 r_106 hTS hm0 hCOM.2.2.2 ef_109 hr_110)) hi2_102 (Nat.lt_succ_self _) (lv_sub hl [2, 3, 4, 5, 7, 8, 9, 1, 0] rfl) hH hS
      · have r_134 : rgI (0) (23) y9_102 := rg_w (rg_ltL ry9_102 rl_24 (nle_lt c_105)) (by decide) (by decide)
        refine lv_aload_n hx hb dX12_goClone_109 rfl (lv_at hl 1 rfl) ?_
        refine lv_bipush (v := 48) hx hb dX12_goClone_110 (by decide) ?_
        refine lv_iload hx hb dX12_goClone_112 (lv_at hl 8 rfl) ?_
        refine lv_iadd hx hb dX12_goClone_114 ?_
        refine lv_topi (fun x_135 ex_135 => ?_)
        have rx_135 : rgI (48) (71) x_135 := by rw [ex_135]; exact rg_w (rg_add rl_48 r_134 (by decide) (by decide)) (by decide) (by decide)
        obtain ⟨_, rfl, o_c_136⟩ := hH b0 _ k_b0
        have o_c_136 : va_at g.1 vwCl (b0, .inl (g.2.1 1, 122, .inl (G_102.2.1 b0))) H := o_c_136
        refine hg_iald hx hb hK o_c_136 (rg_in (n := 122) rx_135 (by decide) (by decide)) dX12_goClone_115 ?_
        rw [efl0_102]
        refine lv_topi (fun x_137 ex_137 => ?_)
        refine lv_istore (lv' := [(10, .int x_137), (0, .ref h0), (1, .ref b0), (3, .int a2), (4, .int a3), (5, .int y5_102), (6, .int y6_102), (7, .int y7_102), (8, .int y8_102), (9, .int y9_102)]) hx hb dX12_goClone_116 hl (by decide) rfl (fun ls hl => ?_)
        refine lv_iload hx hb dX12_goClone_118 (lv_at hl 5 rfl) ?_
        refine lv_iload hx hb dX12_goClone_120 (lv_at hl 9 rfl) ?_
        refine vp_callSi (W.runS (As := [.int y5_102, .int y9_102]) (rest := []) ⟨hx, hb, hml, hown, hts⟩ (c_X12_has l g Ty G_102 y5_102 y9_102 ) (cwSx 2 hts hG (gwC mw_1563) mw_88 mw_1561 mw_1562 rfl rfl rfl hd_X12_has ⟨Nat.le_of_ble_eq_true rfl, Nat.le_of_ble_eq_true rfl⟩) ⟨PcH_blind, PcH_pre hK hH⟩ rfl rfl hl.1 rfl (lv_room (Nat.le_of_ble_eq_true rfl)) dX12_goClone_122 ⟨Nat.zero_le _, Nat.zero_le _⟩) (fun x_138 hx_138 => ?_)
        have rx_138 : rgI (0) (1) x_138 := hx_138.1
        refine lv_if_eq (tgt := 152) hx hb dX12_goClone_125 (by decide) (fun c_139 => ?_) (fun c_139 => ?_)
        · have r_140 : rgI (0) (0) x_138 := rg_w (rg_eq rl_0 c_139) (by decide) (by decide)
          have hb_141 : bt y5_102 (y9_102 : Int32).toNatClampNeg = false := has_0 (rg_w r_134 (by decide) (by decide)) (by rw [← hx_138.2]; exact c_139)
          obtain ⟨x_142, ex_142⟩ : ∃ y : Int32, y = y9_102 + 1 := ⟨_, rfl⟩
          have rx_142 : rgI (1) (24) x_142 := by rw [ex_142]; exact rg_w (rg_add r_134 rl_1 (by decide) (by decide)) (by decide) (by decide)
          have qx_142 : x_142.toInt = (y9_102 : Int32).toInt + 1 := by rw [ex_142]; exact rg_addE r_134 rl_1 (by decide) (by decide)
          refine lv_iinc (v := x_142) (lv' := [(9, .int x_142), (10, .int x_137), (0, .ref h0), (1, .ref b0), (3, .int a2), (4, .int a3), (5, .int y5_102), (6, .int y6_102), (7, .int y7_102), (8, .int y8_102)]) hx hb dX12_goClone_152 hl (k := 9) rfl (by rw [ex_142]; rfl) (by decide) rfl (fun ls hl => ?_)
          refine lv_goto (tgt := 102) hx hb dX12_goClone_155 (by decide) ?_
          exact ih_102 H locs G_102 fl0_102 fl2_102 fl3_102 y5_102 y6_102 y7_102 y8_102 x_142 ls (rg_w rg127_102 (by decide) (by decide)) fr_102 efl0_102 efl2_102 efl3_102 ry3_102 ry4_102 (rg_w rx_142 (by decide) (by decide)) hi0_102 (LN_skip hi1_102 (rg_w r_134 (by decide) (by decide)) qx_142) hi2_102 (by have h1 := qx_142; have h2 := r_134.1; have h3 := r_134.2; have h4 := hm_102; omega) (lv_sub hl [2, 3, 4, 5, 6, 7, 8, 9, 0] rfl) hH hS
        · have r_143 : rgI (1) (1) x_138 := rg_w (rg_neL rx_138 rl_0 c_139) (by decide) (by decide)
          have hb_144 : bt y5_102 (y9_102 : Int32).toNatClampNeg = true := has_1 (rg_w r_134 (by decide) (by decide)) (by rw [← hx_138.2]; exact c_139)
          refine lv_iload hx hb dX12_goClone_128 (lv_at hl 0 rfl) ?_
          refine lv_if_eq (tgt := 152) hx hb dX12_goClone_130 (by decide) (fun c_145 => ?_) (fun c_145 => ?_)
          · have r_146 : rgI (0) (0) x_137 := rg_w (rg_eq rl_0 c_145) (by decide) (by decide)
            obtain ⟨x_147, ex_147⟩ : ∃ y : Int32, y = y9_102 + 1 := ⟨_, rfl⟩
            have rx_147 : rgI (1) (24) x_147 := by rw [ex_147]; exact rg_w (rg_add r_134 rl_1 (by decide) (by decide)) (by decide) (by decide)
            have qx_147 : x_147.toInt = (y9_102 : Int32).toInt + 1 := by rw [ex_147]; exact rg_addE r_134 rl_1 (by decide) (by decide)
            refine lv_iinc (v := x_147) (lv' := [(9, .int x_147), (10, .int x_137), (0, .ref h0), (1, .ref b0), (3, .int a2), (4, .int a3), (5, .int y5_102), (6, .int y6_102), (7, .int y7_102), (8, .int y8_102)]) hx hb dX12_goClone_152 hl (k := 9) rfl (by rw [ex_147]; rfl) (by decide) rfl (fun ls hl => ?_)
            refine lv_goto (tgt := 102) hx hb dX12_goClone_155 (by decide) ?_
            exact ih_102 H locs G_102 fl0_102 fl2_102 fl3_102 y5_102 y6_102 y7_102 y8_102 x_147 ls (rg_w rg127_102 (by decide) (by decide)) fr_102 efl0_102 efl2_102 efl3_102 ry3_102 ry4_102 (rg_w rx_147 (by decide) (by decide)) hi0_102 (LN_skip hi1_102 (rg_w r_134 (by decide) (by decide)) qx_147) hi2_102 (by have h1 := qx_147; have h2 := r_134.1; have h3 := r_134.2; have h4 := hm_102; omega) (lv_sub hl [2, 3, 4, 5, 6, 7, 8, 9, 0] rfl) hH hS
          · refine lv_aload_n hx hb dX12_goClone_133 rfl (lv_at hl 1 rfl) ?_
            refine lv_iload hx hb dX12_goClone_134 (lv_at hl 0 rfl) ?_
            obtain ⟨_, ⟨rfl, t_149, hk_150⟩, o_c_148⟩ := hH h0 _ k_h0
            refine vp_callSi (W.runV (As := [.int x_137]) (rest := []) ⟨hx, hb, hml, hown, hts⟩ (c_X12_newOf l g Ty G_102 h0 x_137 k_h0 (rg_w rg127_102 (by decide) (by decide))) (cwV 1 hts (gwV mw_1595 mw_1597 mw_56 mw_88 mw_1598) rfl rfl rfl hv_X12_newOf ⟨Nat.le_of_ble_eq_true rfl, Nat.le_of_ble_eq_true rfl⟩) ⟨PcH_blind, hg_recv hK o_c_148 rfl, PcH_pre hK hH⟩ rfl rfl hl.1 rfl (lv_room (Nat.le_of_ble_eq_true rfl)) dX12_goClone_136 ⟨Nat.zero_le _, Nat.zero_le _⟩) (fun x_151 hx_151 => ?_)
            refine lv_if_ne (tgt := 152) hx hb dX12_goClone_139 (by decide) (fun c_152 => ?_) (fun c_152 => ?_)
            · obtain ⟨x_153, ex_153⟩ : ∃ y : Int32, y = y9_102 + 1 := ⟨_, rfl⟩
              have rx_153 : rgI (1) (24) x_153 := by rw [ex_153]; exact rg_w (rg_add r_134 rl_1 (by decide) (by decide)) (by decide) (by decide)
              have qx_153 : x_153.toInt = (y9_102 : Int32).toInt + 1 := by rw [ex_153]; exact rg_addE r_134 rl_1 (by decide) (by decide)
              refine lv_iinc (v := x_153) (lv' := [(9, .int x_153), (10, .int x_137), (0, .ref h0), (1, .ref b0), (3, .int a2), (4, .int a3), (5, .int y5_102), (6, .int y6_102), (7, .int y7_102), (8, .int y8_102)]) hx hb dX12_goClone_152 hl (k := 9) rfl (by rw [ex_153]; rfl) (by decide) rfl (fun ls hl => ?_)
              refine lv_goto (tgt := 102) hx hb dX12_goClone_155 (by decide) ?_
              exact ih_102 H locs G_102 fl0_102 fl2_102 fl3_102 y5_102 y6_102 y7_102 y8_102 x_153 ls (rg_w rg127_102 (by decide) (by decide)) fr_102 efl0_102 efl2_102 efl3_102 ry3_102 ry4_102 (rg_w rx_153 (by decide) (by decide)) hi0_102 (LN_skip hi1_102 (rg_w r_134 (by decide) (by decide)) qx_153) hi2_102 (by have h1 := qx_153; have h2 := r_134.1; have h3 := r_134.2; have h4 := hm_102; omega) (lv_sub hl [2, 3, 4, 5, 6, 7, 8, 9, 0] rfl) hH hS
            · have r_154 : rgI (0) (0) x_151 := rg_w (rg_eq rl_0 c_152) (by decide) (by decide)
              have nq_155 : NO fl2_102 fl3_102 (G_102.1 127) x_137 0 := no_z (by rw [← efl2_102, ← efl3_102]; exact hx_151) c_152
              refine lv_aload_n hx hb dX12_goClone_142 rfl (lv_at hl 1 rfl) ?_
              refine lv_iload hx hb dX12_goClone_143 (lv_at hl 0 rfl) ?_
              refine lv_aload_n hx hb dX12_goClone_145 rfl (lv_at hl 2 rfl) ?_
              refine va_calli (va_runS (As := [.ref b0]) (rest := [.int x_137, .ref h0]) ⟨hx, hb, hml, hown, hts⟩ (c_X12_newGroup l g Ty G_102 H.size b0 k_b0) (cwSx 1 hts hG (gwC mw_1590) mw_88 mw_1588 mw_1589 rfl rfl rfl hd_X12_newGroup ⟨Nat.le_of_ble_eq_true rfl, Nat.le_of_ble_eq_true rfl⟩) ⟨PcT_blind, PcT_pre hK hH⟩ rfl rfl hl.1 rfl (lv_room (Nat.le_of_ble_eq_true rfl)) dX12_goClone_146 ⟨Nat.zero_le _, Nat.zero_le _⟩) hS (fun q _ h => AF.mono hS.1 h) (fun q h => AF.mono hS.1 h) (fun x_156 ux_156 t H locs ht hvm hx_156 hB hz hk hS => ?_)
              obtain ⟨eTx_156, eGx_156⟩ := hx_156
              obtain ⟨G_157, eG_157⟩ : ∃ z, z = ux_156.2 := ⟨_, rfl⟩
              rw [← eG_157] at eGx_156
              obtain ⟨hr_159, hg_160⟩ := eGx_156
              rw [efl0_102] at hr_159 hg_160
              obtain ⟨f_158, ef_158⟩ : ∃ z : Nat → Int32, z = (F_X12_newGroup fl0_102).2 := ⟨_, rfl⟩
              rw [← ef_158] at hg_160
              have fr_161 : FR [107, 108, 109, 110, 114, 127, 128] [b0, (g.2.2 115), (g.2.2 125), (g.2.2 126)] [106] G G_157 := FR.a fr_102 hg_160 (fun b h => h.1)
              have u_162 : G_157.1 127 = (G_102.1 127) := by rw [hg_160]; exact rfl
              have u_163 : G_157.1 113 = (G.1 113) := by rw [hg_160]; exact (fr_102.1 113 (by decide))
              have w_164 : G_157.2.1 b0 = f_158 := by rw [hg_160]; exact aset_eq
              have w_165 : G_157.2.1 rl = (G.2.1 rl) := by rw [hg_160]; exact (aset_ne (ne_kd krl k_b0 (by decide))).trans (fr_102.2.1 rl ⟨(ne_kd krl k_b0 (by decide)), (ne_kd krl hmk.2.2.2.1 (by decide)), (ne_kd krl hmk.2.2.2.2.2.2.2.2.1 (by decide)), (ne_kd krl hmk.2.2.2.2.2.2.2.2.2.1 (by decide)), trivial⟩)
              have w_166 : G_157.2.1 (g.2.2 125) = fl2_102 := by rw [hg_160]; exact (aset_ne (ne_kd hmk.2.2.2.2.2.2.2.2.1 k_b0 (by decide))).trans efl2_102
              have w_167 : G_157.2.1 (g.2.2 126) = fl3_102 := by rw [hg_160]; exact (aset_ne (ne_kd hmk.2.2.2.2.2.2.2.2.2.1 k_b0 (by decide))).trans efl3_102
              have u_168 : G_157.2.2 111 = some rl := by rw [hg_160]; exact ((fr_102.2.2 111 (by decide)).trans hr1)
              have hH : HT g Ty G_157 H := by rw [← ht, ← eTx_156, eG_157]; exact hB
              obtain ⟨_, ⟨rfl, t_170, hk_171⟩, o_c_169⟩ := hH h0 _ k_h0
              refine va_callv (va_runV (As := [.int x_137, .int x_156]) (rest := []) ⟨hx, hb, hml, hown, hts⟩ (c_X12_layNew l g Ty G_157 H.size h0 x_137 x_156 k_h0 hLD (by rw [u_162]; exact (LN_ix hi1_102 r_134 (thr_l hm0) (by rw [ex_137, ex_135]) c_145 nq_155).1)) (cwV 2 hts (gwV mw_1591 mw_1593 mw_55 mw_88 mw_1594) rfl rfl rfl hv_X12_layNew ⟨Nat.le_of_ble_eq_true rfl, Nat.le_of_ble_eq_true rfl⟩) ⟨PcT_blind, hg_recv hK o_c_169 rfl, PcT_pre hK hH⟩ rfl rfl hl.1 rfl (lv_room (Nat.le_of_ble_eq_true rfl)) dX12_goClone_149 ⟨Nat.zero_le _, Nat.zero_le _⟩) hS (fun q _ h => AF.mono hS.1 h) (fun q h => AF.mono hS.1 h) (fun ux_172 t H locs ht hvm hx_172 hB hz hk hS => ?_)
              obtain ⟨eTx_172, eGx_172⟩ := hx_172
              obtain ⟨G_173, eG_173⟩ : ∃ z, z = ux_172.2 := ⟨_, rfl⟩
              rw [← eG_173] at eGx_172
              obtain ⟨hfr_174, hex_175⟩ := eGx_172
              have fr_176 : FR [107, 108, 109, 110, 114, 127, 128] [b0, (g.2.2 115), (g.2.2 125), (g.2.2 126)] [106] G G_173 := FR.tr fr_161 hfr_174 (by decide) (fun b h => ⟨h.2.2.1, h.2.2.2.1, trivial⟩) (by decide)
              have u_177 : G_173.1 113 = (G.1 113) := (hfr_174.1 113 (by decide)).trans u_163
              have w_178 : G_173.2.1 b0 = f_158 := (hfr_174.2.1 b0 ⟨(ne_kd k_b0 hmk.2.2.2.2.2.2.2.2.1 (by decide)), (ne_kd k_b0 hmk.2.2.2.2.2.2.2.2.2.1 (by decide)), trivial⟩).trans w_164
              have w_179 : G_173.2.1 rl = (G.2.1 rl) := (hfr_174.2.1 rl ⟨(ne_kd krl hmk.2.2.2.2.2.2.2.2.1 (by decide)), (ne_kd krl hmk.2.2.2.2.2.2.2.2.2.1 (by decide)), trivial⟩).trans w_165
              have u_180 : G_173.2.2 111 = some rl := (hfr_174.2.2 111 (by decide)).trans u_168
              obtain ⟨f_181, ef_181⟩ : ∃ z : Nat → Int32, z = upd fl2_102 ((G_102.1 127) : Int32).toNatClampNeg x_137 := ⟨_, rfl⟩
              have w_184 : G_173.2.1 (g.2.2 125) = f_181 := (hex_175.1).trans (by rw [ef_181, w_166, u_162])
              obtain ⟨f_182, ef_182⟩ : ∃ z : Nat → Int32, z = upd fl3_102 ((G_102.1 127) : Int32).toNatClampNeg x_156 := ⟨_, rfl⟩
              have w_185 : G_173.2.1 (g.2.2 126) = f_182 := (hex_175.2.1).trans (by rw [ef_182, w_167, u_162])
              obtain ⟨x_183, ex_183⟩ : ∃ z : Int32, z = (G_102.1 127) + 1 := ⟨_, rfl⟩
              have u_186 : G_173.1 127 = x_183 := (hex_175.2.2).trans (by rw [ex_183, u_162])
              have rx_183 : rgI 0 24 x_183 := by rw [ex_183]; exact rg_w (rg_add (LN_ix hi1_102 r_134 (thr_l hm0) (by rw [ex_137, ex_135]) c_145 nq_155).1 rl_1 (by decide) (by decide)) (by decide) (by decide)
              have hH : HT g Ty G_173 H := by rw [← ht, ← eTx_172, eG_173]; exact hB
              obtain ⟨x_187, ex_187⟩ : ∃ y : Int32, y = y9_102 + 1 := ⟨_, rfl⟩
              have rx_187 : rgI (1) (24) x_187 := by rw [ex_187]; exact rg_w (rg_add r_134 rl_1 (by decide) (by decide)) (by decide) (by decide)
              have qx_187 : x_187.toInt = (y9_102 : Int32).toInt + 1 := by rw [ex_187]; exact rg_addE r_134 rl_1 (by decide) (by decide)
              refine lv_iinc (v := x_187) (lv' := [(9, .int x_187), (10, .int x_137), (0, .ref h0), (1, .ref b0), (3, .int a2), (4, .int a3), (5, .int y5_102), (6, .int y6_102), (7, .int y7_102), (8, .int y8_102)]) hx hb dX12_goClone_152 hl (k := 9) rfl (by rw [ex_187]; rfl) (by decide) rfl (fun ls hl => ?_)
              refine lv_goto (tgt := 102) hx hb dX12_goClone_155 (by decide) ?_
              exact ih_102 H locs G_173 f_158 f_181 f_182 y5_102 y6_102 y7_102 y8_102 x_187 ls (by rw [u_186]; exact rg_w rx_183 (by decide) (by decide)) fr_176 w_178 w_184 w_185 ry3_102 ry4_102 (rg_w rx_187 (by decide) (by decide)) hi0_102 (by rw [u_186]; exact (LN_lay hi1_102 hB0 h1 r_134 (thr_l hm0) (by rw [ex_137, ex_135]) c_145 nq_155 hr_159 ef_158 ef_181 ef_182 ex_183 qx_187)) hi2_102 (by have h1 := qx_187; have h2 := r_134.1; have h3 := r_134.2; have h4 := hm_102; omega) (lv_sub hl [2, 3, 4, 5, 6, 7, 8, 9, 0] rfl) hH hS
  refine lv_aload_n hx hb dX12_goClone_0 rfl (lv_at hl 1 rfl) ?_
  refine lv_iload_n hx hb dX12_goClone_1 rfl (lv_at hl 3 rfl) ?_
  refine vp_callSi (W.runS (As := [.ref b0, .int a2]) (rest := []) ⟨hx, hb, hml, hown, hts⟩ (c_X12_spreadOf l g Ty G b0 a2 k_b0 hm0) (cwSx 2 hts hG (gwC mw_1560) mw_88 mw_1558 mw_1559 rfl rfl rfl hd_X12_spreadOf ⟨Nat.le_of_ble_eq_true rfl, Nat.le_of_ble_eq_true rfl⟩) ⟨PcH_blind, PcH_pre hK hH⟩ rfl rfl hl.1 rfl (lv_room (Nat.le_of_ble_eq_true rfl)) dX12_goClone_2 ⟨Nat.zero_le _, Nat.zero_le _⟩) (fun x_188 hx_188 => ?_)
  refine lv_istore (lv' := [(5, .int x_188), (0, .ref h0), (1, .ref b0), (2, .int a1), (3, .int a2), (4, .int a3)]) hx hb dX12_goClone_5 hl (by decide) rfl (fun ls hl => ?_)
  refine lv_aload_n hx hb dX12_goClone_7 rfl (lv_at hl 1 rfl) ?_
  refine lv_aload_n hx hb dX12_goClone_8 rfl (lv_at hl 2 rfl) ?_
  refine lv_iload_n hx hb dX12_goClone_9 rfl (lv_at hl 4 rfl) ?_
  refine lv_iload hx hb dX12_goClone_10 (lv_at hl 5 rfl) ?_
  obtain ⟨_, ⟨rfl, t_190, hk_191⟩, o_c_189⟩ := hH h0 _ k_h0
  refine va_calli (va_runV (As := [.ref b0, .int a2, .int a3]) (rest := []) ⟨hx, hb, hml, hown, hts⟩ (c_X12_hitsOf l g Ty G s.heap.size h0 b0 a2 a3 k_h0 k_b0 ρ hT hm0 rl krl hr1 hr3) (cwV 3 hts (gwV mw_1554 mw_1556 mw_51 mw_88 mw_1557) rfl rfl rfl hv_X12_hitsOf ⟨Nat.le_of_ble_eq_true rfl, Nat.le_of_ble_eq_true rfl⟩) ⟨PcT_blind, hg_recv hK o_c_189 rfl, PcT_pre hK hH⟩ rfl rfl hl.1 rfl (lv_room (Nat.le_of_ble_eq_true rfl)) dX12_goClone_12 ⟨Nat.zero_le _, Nat.zero_le _⟩) hS (fun q _ h => AF.mono hS.1 h) (fun q h => AF.mono hS.1 h) (fun x_192 ux_192 t H locs ht hvm hx_192 hB hz hk hS => ?_)
  obtain ⟨hx_192, fx_192⟩ := hx_192
  obtain ⟨eTx_192, eGx_192⟩ := fx_192
  obtain ⟨G_193, eG_193⟩ : ∃ z, z = ux_192.2 := ⟨_, rfl⟩
  rw [← eG_193] at eGx_192
  have fr_194 : FR [107, 108, 109, 110, 114, 127, 128] [b0, (g.2.2 115), (g.2.2 125), (g.2.2 126)] [106] G G_193 := FR.tr FR.rf eGx_192 (by decide) (fun b h => ⟨h.2.1, trivial⟩) (by decide)
  have u_195 : G_193.1 113 = (G.1 113) := (eGx_192.1 113 (by decide))
  have w_196 : G_193.2.1 b0 = (G.2.1 b0) := (eGx_192.2.1 b0 ⟨(ne_kd k_b0 hmk.2.2.2.1 (by decide)), trivial⟩)
  have w_197 : G_193.2.1 rl = (G.2.1 rl) := (eGx_192.2.1 rl ⟨(ne_kd krl hmk.2.2.2.1 (by decide)), trivial⟩)
  have w_198 : G_193.2.1 (g.2.2 125) = (G.2.1 (g.2.2 125)) := (eGx_192.2.1 (g.2.2 125) ⟨(ne_kd hmk.2.2.2.2.2.2.2.2.1 hmk.2.2.2.1 (by decide)), trivial⟩)
  have w_199 : G_193.2.1 (g.2.2 126) = (G.2.1 (g.2.2 126)) := (eGx_192.2.1 (g.2.2 126) ⟨(ne_kd hmk.2.2.2.2.2.2.2.2.2.1 hmk.2.2.2.1 (by decide)), trivial⟩)
  have u_200 : G_193.2.2 111 = some rl := (eGx_192.2.2 111 (by decide)).trans hr1
  have hH : HT g Ty G_193 H := by rw [← ht, ← eTx_192, eG_193]; exact hB
  refine lv_istore (lv' := [(6, .int x_192), (5, .int x_188), (0, .ref h0), (1, .ref b0), (2, .int a1), (3, .int a2), (4, .int a3)]) hx hb dX12_goClone_15 hl (by decide) rfl (fun ls hl => ?_)
  refine lv_iload_n hx hb dX12_goClone_17 rfl (lv_at hl 4 rfl) ?_
  refine lv_bipush (v := 24) hx hb dX12_goClone_18 (by decide) ?_
  refine lv_icmp_ne (tgt := 27) hx hb dX12_goClone_20 (by decide) (fun c_201 => ?_) (fun c_201 => ?_)
  · have r_202 : rgI (0) (23) a1 := rg_w (rg_neR pr1 rl_24 c_201) (by decide) (by decide)
    refine lv_aload_n hx hb dX12_goClone_27 rfl (lv_at hl 3 rfl) ?_
    refine lv_bipush (v := 48) hx hb dX12_goClone_28 (by decide) ?_
    refine lv_iload_n hx hb dX12_goClone_30 rfl (lv_at hl 4 rfl) ?_
    refine lv_iadd hx hb dX12_goClone_31 ?_
    refine lv_topi (fun x_203 ex_203 => ?_)
    have rx_203 : rgI (48) (71) x_203 := by rw [ex_203]; exact rg_w (rg_add rl_48 r_202 (by decide) (by decide)) (by decide) (by decide)
    obtain ⟨_, rfl, o_c_204⟩ := hH b0 _ k_b0
    have o_c_204 : va_at g.1 vwCl (b0, .inl (g.2.1 1, 122, .inl (G_193.2.1 b0))) H := o_c_204
    refine hg_iald hx hb hK o_c_204 (rg_in (n := 122) rx_203 (by decide) (by decide)) dX12_goClone_32 ?_
    rw [w_196]
    refine lv_topi (fun x_205 ex_205 => ?_)
    refine lv_istore (lv' := [(7, .int x_205), (6, .int x_192), (5, .int x_188), (0, .ref h0), (1, .ref b0), (2, .int a1), (3, .int a2), (4, .int a3)]) hx hb dX12_goClone_33 hl (by decide) rfl (fun ls hl => ?_)
    refine lv_iload_n hx hb dX12_goClone_35 rfl (lv_at hl 5 rfl) ?_
    refine lv_bipush (v := 24) hx hb dX12_goClone_36 (by decide) ?_
    refine lv_icmp_ne (tgt := 45) hx hb dX12_goClone_38 (by decide) (fun c_206 => ?_) (fun c_206 => ?_)
    · refine lv_aload_n hx hb dX12_goClone_45 rfl (lv_at hl 4 rfl) ?_
      refine lv_bipush (v := 72) hx hb dX12_goClone_46 (by decide) ?_
      refine lv_iload_n hx hb dX12_goClone_48 rfl (lv_at hl 5 rfl) ?_
      refine lv_iadd hx hb dX12_goClone_49 ?_
      refine lv_topi (fun x_207 ex_207 => ?_)
      have rx_207 : rgI (72) (95) x_207 := by rw [ex_207]; exact rg_w (rg_add rl_72 r_202 (by decide) (by decide)) (by decide) (by decide)
      refine hg_iald hx hb hK o_c_204 (rg_in (n := 122) rx_207 (by decide) (by decide)) dX12_goClone_50 ?_
      rw [w_196]
      refine lv_topi (fun x_208 ex_208 => ?_)
      refine lv_istore (lv' := [(8, .int x_208), (7, .int x_205), (6, .int x_192), (5, .int x_188), (0, .ref h0), (1, .ref b0), (2, .int a1), (3, .int a2), (4, .int a3)]) hx hb dX12_goClone_51 hl (by decide) rfl (fun ls hl => ?_)
      have fv_209 := fr_vals (hfrom.resolve_left c_201) hTS ex_203 ex_205 ex_207 ex_208
      refine lv_aload_n hx hb dX12_goClone_53 rfl (lv_at hl 5 rfl) ?_
      refine lv_bipush (v := 48) hx hb dX12_goClone_54 (by decide) ?_
      refine lv_iload_n hx hb dX12_goClone_56 rfl (lv_at hl 7 rfl) ?_
      refine lv_iadd hx hb dX12_goClone_57 ?_
      refine lv_topi (fun x_210 ex_210 => ?_)
      have rx_210 : rgI (48) (71) x_210 := by rw [ex_210]; exact rg_w (rg_add rl_48 pr2 (by decide) (by decide)) (by decide) (by decide)
      refine hg_iald hx hb hK o_c_204 (rg_in (n := 122) rx_210 (by decide) (by decide)) dX12_goClone_58 ?_
      rw [w_196]
      refine lv_topi (fun x_211 ex_211 => ?_)
      have gq_212 : x_211 = (G.2.1 b0) (48 + a2.toNatClampNeg) := a48 hm0 (G.2.1 b0) ex_210 ex_211
      refine lv_if_eq (tgt := 73) hx hb dX12_goClone_59 (by decide) (fun c_213 => ?_) (fun c_213 => ?_)
      · have r_214 : rgI (0) (0) x_211 := rg_w (rg_eq rl_0 c_213) (by decide) (by decide)
        refine lv_aload_n hx hb dX12_goClone_73 rfl (lv_at hl 4 rfl) ?_
        refine lv_iconst (v := 0) hx hb dX12_goClone_74 (by decide) ?_
        obtain ⟨_, ⟨rfl, t_216, hk_217⟩, o_c_215⟩ := hH h0 _ k_h0
        refine hg_put (ty := .int) hx hb hG igX12 tyX12 tyX12_ok nmX12 hown hK hS o_c_215 (AF.of k_h0) rfl 27 (by decide) (hG _ mw_1311) rfl (by decide +kernel) rfl rfl (Nat.le_of_ble_eq_true rfl) dX12_goClone_75 (fun H locs o_c_215 hz oq hS => ?_)
        obtain ⟨G_218, eG_218⟩ : ∃ z : Gh, z = gset G_193 127 0 := ⟨_, rfl⟩
        have hH : HT g Ty G_218 H := by rw [eG_218]; exact HT.putN 127 0 hH k_h0 ⟨rfl, t_216, hk_217⟩ o_c_215 oq (Or.inr (Or.inr (Or.inr (Or.inr (Or.inr ⟨by decide, t_216⟩)))))
        have fr_219 : FR [107, 108, 109, 110, 114, 127, 128] [b0, (g.2.2 115), (g.2.2 125), (g.2.2 126)] [106] G G_218 := FR.n fr_194 eG_218 (by decide)
        have u_220 : G_218.1 113 = (G.1 113) := by rw [eG_218]; exact (gs_ne (by decide)).trans u_195
        have u_221 : G_218.1 127 = 0 := by rw [eG_218]; exact gs_eq
        have w_222 : G_218.2.1 b0 = (G.2.1 b0) := by rw [eG_218]; exact w_196
        have w_223 : G_218.2.1 rl = (G.2.1 rl) := by rw [eG_218]; exact w_197
        have w_224 : G_218.2.1 (g.2.2 125) = (G.2.1 (g.2.2 125)) := by rw [eG_218]; exact w_198
        have w_225 : G_218.2.1 (g.2.2 126) = (G.2.1 (g.2.2 126)) := by rw [eG_218]; exact w_199
        have u_226 : G_218.2.2 111 = some rl := by rw [eG_218]; exact u_200
        clear oq hz
        refine lv_aload_n hx hb dX12_goClone_78 rfl (lv_at hl 5 rfl) ?_
        refine lv_bipush (v := 48) hx hb dX12_goClone_79 (by decide) ?_
        refine lv_iload_n hx hb dX12_goClone_81 rfl (lv_at hl 7 rfl) ?_
        refine lv_iadd hx hb dX12_goClone_82 ?_
        refine lv_topi (fun x_227 ex_227 => ?_)
        have rx_227 : rgI (48) (71) x_227 := by rw [ex_227]; exact rg_w (rg_add rl_48 pr2 (by decide) (by decide)) (by decide) (by decide)
        obtain ⟨_, rfl, o_c_228⟩ := hH b0 _ k_b0
        have o_c_228 : va_at g.1 vwCl (b0, .inl (g.2.1 1, 122, .inl (G_218.2.1 b0))) H := o_c_228
        refine hg_iald hx hb hK o_c_228 (rg_in (n := 122) rx_227 (by decide) (by decide)) dX12_goClone_83 ?_
        rw [w_222]
        refine lv_topi (fun x_229 ex_229 => ?_)
        have gq_230 : x_229 = (G.2.1 b0) (48 + a2.toNatClampNeg) := a48 hm0 (G.2.1 b0) ex_227 ex_229
        refine lv_if_eq (tgt := 99) hx hb dX12_goClone_84 (by decide) (fun c_231 => ?_) (fun c_231 => ?_)
        · have r_232 : rgI (0) (0) x_229 := rg_w (rg_eq rl_0 c_231) (by decide) (by decide)
          refine lv_iconst (v := 0) hx hb dX12_goClone_99 (by decide) ?_
          refine lv_istore (lv' := [(9, .int 0), (8, .int x_208), (7, .int x_205), (6, .int x_192), (5, .int x_188), (0, .ref h0), (1, .ref b0), (2, .int a1), (3, .int a2), (4, .int a3)]) hx hb dX12_goClone_100 hl (by decide) rfl (fun ls hl => ?_)
          exact L_102 _ H locs G_218 (G.2.1 b0) (G.2.1 (g.2.2 125)) (G.2.1 (g.2.2 126)) x_188 x_192 x_205 x_208 0 ls (by rw [u_221]; exact rg_w rl_0 (by decide) (by decide)) fr_219 w_222 w_224 w_225 pr2 pr3 (rg_w rl_0 (by decide) (by decide)) hx_192.1 (by rw [u_221]; exact (LN_i0 hSb fv_209.1 fv_209.2.1 fv_209.2.2 (by rw [← gq_212]; exact c_213))) hx_192.2 (Nat.lt_succ_self _) (lv_sub hl [5, 6, 8, 9, 4, 3, 2, 1, 0] rfl) hH hS
        · refine lv_aload_n hx hb dX12_goClone_87 rfl (lv_at hl 4 rfl) ?_
          refine lv_aload_n hx hb dX12_goClone_88 rfl (lv_at hl 5 rfl) ?_
          refine lv_bipush (v := 48) hx hb dX12_goClone_89 (by decide) ?_
          refine lv_iload_n hx hb dX12_goClone_91 rfl (lv_at hl 7 rfl) ?_
          refine lv_iadd hx hb dX12_goClone_92 ?_
          refine lv_topi (fun x_233 ex_233 => ?_)
          have rx_233 : rgI (48) (71) x_233 := by rw [ex_233]; exact rg_w (rg_add rl_48 pr2 (by decide) (by decide)) (by decide) (by decide)
          refine hg_iald hx hb hK o_c_228 (rg_in (n := 122) rx_233 (by decide) (by decide)) dX12_goClone_93 ?_
          rw [w_222]
          refine lv_topi (fun x_234 ex_234 => ?_)
          have gq_235 : x_234 = (G.2.1 b0) (48 + a2.toNatClampNeg) := a48 hm0 (G.2.1 b0) ex_233 ex_234
          refine lv_iload hx hb dX12_goClone_94 (lv_at hl 1 rfl) ?_
          obtain ⟨_, ⟨rfl, t_237, hk_238⟩, o_c_236⟩ := hH h0 _ k_h0
          refine va_callv (va_runV (As := [.int x_234, .int x_205]) (rest := []) ⟨hx, hb, hml, hown, hts⟩ (c_X12_layNew l g Ty G_218 H.size h0 x_234 x_205 k_h0 hLD (by rw [u_221]; exact (show rgI 0 23 (0 : Int32) from rg_w rl_0 (by decide) (by decide)))) (cwV 2 hts (gwV mw_1591 mw_1593 mw_55 mw_88 mw_1594) rfl rfl rfl hv_X12_layNew ⟨Nat.le_of_ble_eq_true rfl, Nat.le_of_ble_eq_true rfl⟩) ⟨PcT_blind, hg_recv hK o_c_236 rfl, PcT_pre hK hH⟩ rfl rfl hl.1 rfl (lv_room (Nat.le_of_ble_eq_true rfl)) dX12_goClone_96 ⟨Nat.zero_le _, Nat.zero_le _⟩) hS (fun q _ h => AF.mono hS.1 h) (fun q h => AF.mono hS.1 h) (fun ux_239 t H locs ht hvm hx_239 hB hz hk hS => ?_)
          obtain ⟨eTx_239, eGx_239⟩ := hx_239
          obtain ⟨G_240, eG_240⟩ : ∃ z, z = ux_239.2 := ⟨_, rfl⟩
          rw [← eG_240] at eGx_239
          obtain ⟨hfr_241, hex_242⟩ := eGx_239
          have fr_243 : FR [107, 108, 109, 110, 114, 127, 128] [b0, (g.2.2 115), (g.2.2 125), (g.2.2 126)] [106] G G_240 := FR.tr fr_219 hfr_241 (by decide) (fun b h => ⟨h.2.2.1, h.2.2.2.1, trivial⟩) (by decide)
          have u_244 : G_240.1 113 = (G.1 113) := (hfr_241.1 113 (by decide)).trans u_220
          have w_245 : G_240.2.1 b0 = (G.2.1 b0) := (hfr_241.2.1 b0 ⟨(ne_kd k_b0 hmk.2.2.2.2.2.2.2.2.1 (by decide)), (ne_kd k_b0 hmk.2.2.2.2.2.2.2.2.2.1 (by decide)), trivial⟩).trans w_222
          have w_246 : G_240.2.1 rl = (G.2.1 rl) := (hfr_241.2.1 rl ⟨(ne_kd krl hmk.2.2.2.2.2.2.2.2.1 (by decide)), (ne_kd krl hmk.2.2.2.2.2.2.2.2.2.1 (by decide)), trivial⟩).trans w_223
          have u_247 : G_240.2.2 111 = some rl := (hfr_241.2.2 111 (by decide)).trans u_226
          obtain ⟨f_248, ef_248⟩ : ∃ z : Nat → Int32, z = upd (G.2.1 (g.2.2 125)) (0 : Int32).toNatClampNeg x_234 := ⟨_, rfl⟩
          have w_251 : G_240.2.1 (g.2.2 125) = f_248 := (hex_242.1).trans (by rw [ef_248, w_224, u_221])
          obtain ⟨f_249, ef_249⟩ : ∃ z : Nat → Int32, z = upd (G.2.1 (g.2.2 126)) (0 : Int32).toNatClampNeg x_205 := ⟨_, rfl⟩
          have w_252 : G_240.2.1 (g.2.2 126) = f_249 := (hex_242.2.1).trans (by rw [ef_249, w_225, u_221])
          obtain ⟨x_250, ex_250⟩ : ∃ z : Int32, z = 0 + 1 := ⟨_, rfl⟩
          have u_253 : G_240.1 127 = x_250 := (hex_242.2.2).trans (by rw [ex_250, u_221])
          have rx_250 : rgI 0 24 x_250 := by rw [ex_250]; exact rg_w (rg_add (show rgI 0 23 (0 : Int32) from rg_w rl_0 (by decide) (by decide)) rl_1 (by decide) (by decide)) (by decide) (by decide)
          have hH : HT g Ty G_240 H := by rw [← ht, ← eTx_239, eG_240]; exact hB
          refine lv_iconst (v := 0) hx hb dX12_goClone_99 (by decide) ?_
          refine lv_istore (lv' := [(9, .int 0), (8, .int x_208), (7, .int x_205), (6, .int x_192), (5, .int x_188), (0, .ref h0), (1, .ref b0), (2, .int a1), (3, .int a2), (4, .int a3)]) hx hb dX12_goClone_100 hl (by decide) rfl (fun ls hl => ?_)
          exact L_102 _ H locs G_240 (G.2.1 b0) f_248 f_249 x_188 x_192 x_205 x_208 0 ls (by rw [u_253]; exact rg_w rx_250 (by decide) (by decide)) fr_243 w_245 w_251 w_252 pr2 pr3 (rg_w rl_0 (by decide) (by decide)) hx_192.1 (absurd (by rw [gq_230, ← gq_212]; exact c_213) c_231) hx_192.2 (Nat.lt_succ_self _) (lv_sub hl [5, 6, 8, 9, 4, 3, 2, 1, 0] rfl) hH hS
      · refine lv_iload hx hb dX12_goClone_62 (lv_at hl 1 rfl) ?_
        refine lv_if_ne (tgt := 73) hx hb dX12_goClone_64 (by decide) (fun c_254 => ?_) (fun c_254 => ?_)
        · refine lv_aload_n hx hb dX12_goClone_73 rfl (lv_at hl 4 rfl) ?_
          refine lv_iconst (v := 0) hx hb dX12_goClone_74 (by decide) ?_
          obtain ⟨_, ⟨rfl, t_256, hk_257⟩, o_c_255⟩ := hH h0 _ k_h0
          refine hg_put (ty := .int) hx hb hG igX12 tyX12 tyX12_ok nmX12 hown hK hS o_c_255 (AF.of k_h0) rfl 27 (by decide) (hG _ mw_1311) rfl (by decide +kernel) rfl rfl (Nat.le_of_ble_eq_true rfl) dX12_goClone_75 (fun H locs o_c_255 hz oq hS => ?_)
          obtain ⟨G_258, eG_258⟩ : ∃ z : Gh, z = gset G_193 127 0 := ⟨_, rfl⟩
          have hH : HT g Ty G_258 H := by rw [eG_258]; exact HT.putN 127 0 hH k_h0 ⟨rfl, t_256, hk_257⟩ o_c_255 oq (Or.inr (Or.inr (Or.inr (Or.inr (Or.inr ⟨by decide, t_256⟩)))))
          have fr_259 : FR [107, 108, 109, 110, 114, 127, 128] [b0, (g.2.2 115), (g.2.2 125), (g.2.2 126)] [106] G G_258 := FR.n fr_194 eG_258 (by decide)
          have u_260 : G_258.1 113 = (G.1 113) := by rw [eG_258]; exact (gs_ne (by decide)).trans u_195
          have u_261 : G_258.1 127 = 0 := by rw [eG_258]; exact gs_eq
          have w_262 : G_258.2.1 b0 = (G.2.1 b0) := by rw [eG_258]; exact w_196
          have w_263 : G_258.2.1 rl = (G.2.1 rl) := by rw [eG_258]; exact w_197
          have w_264 : G_258.2.1 (g.2.2 125) = (G.2.1 (g.2.2 125)) := by rw [eG_258]; exact w_198
          have w_265 : G_258.2.1 (g.2.2 126) = (G.2.1 (g.2.2 126)) := by rw [eG_258]; exact w_199
          have u_266 : G_258.2.2 111 = some rl := by rw [eG_258]; exact u_200
          clear oq hz
          refine lv_aload_n hx hb dX12_goClone_78 rfl (lv_at hl 5 rfl) ?_
          refine lv_bipush (v := 48) hx hb dX12_goClone_79 (by decide) ?_
          refine lv_iload_n hx hb dX12_goClone_81 rfl (lv_at hl 7 rfl) ?_
          refine lv_iadd hx hb dX12_goClone_82 ?_
          refine lv_topi (fun x_267 ex_267 => ?_)
          have rx_267 : rgI (48) (71) x_267 := by rw [ex_267]; exact rg_w (rg_add rl_48 pr2 (by decide) (by decide)) (by decide) (by decide)
          obtain ⟨_, rfl, o_c_268⟩ := hH b0 _ k_b0
          have o_c_268 : va_at g.1 vwCl (b0, .inl (g.2.1 1, 122, .inl (G_258.2.1 b0))) H := o_c_268
          refine hg_iald hx hb hK o_c_268 (rg_in (n := 122) rx_267 (by decide) (by decide)) dX12_goClone_83 ?_
          rw [w_262]
          refine lv_topi (fun x_269 ex_269 => ?_)
          have gq_270 : x_269 = (G.2.1 b0) (48 + a2.toNatClampNeg) := a48 hm0 (G.2.1 b0) ex_267 ex_269
          refine lv_if_eq (tgt := 99) hx hb dX12_goClone_84 (by decide) (fun c_271 => ?_) (fun c_271 => ?_)
          · have r_272 : rgI (0) (0) x_269 := rg_w (rg_eq rl_0 c_271) (by decide) (by decide)
            refine lv_iconst (v := 0) hx hb dX12_goClone_99 (by decide) ?_
            refine lv_istore (lv' := [(9, .int 0), (8, .int x_208), (7, .int x_205), (6, .int x_192), (5, .int x_188), (0, .ref h0), (1, .ref b0), (2, .int a1), (3, .int a2), (4, .int a3)]) hx hb dX12_goClone_100 hl (by decide) rfl (fun ls hl => ?_)
            exact L_102 _ H locs G_258 (G.2.1 b0) (G.2.1 (g.2.2 125)) (G.2.1 (g.2.2 126)) x_188 x_192 x_205 x_208 0 ls (by rw [u_261]; exact rg_w rl_0 (by decide) (by decide)) fr_259 w_262 w_264 w_265 pr2 pr3 (rg_w rl_0 (by decide) (by decide)) hx_192.1 (absurd (by rw [gq_212, ← gq_270]; exact c_271) c_213) hx_192.2 (Nat.lt_succ_self _) (lv_sub hl [5, 6, 8, 9, 4, 3, 2, 1, 0] rfl) hH hS
          · refine lv_aload_n hx hb dX12_goClone_87 rfl (lv_at hl 4 rfl) ?_
            refine lv_aload_n hx hb dX12_goClone_88 rfl (lv_at hl 5 rfl) ?_
            refine lv_bipush (v := 48) hx hb dX12_goClone_89 (by decide) ?_
            refine lv_iload_n hx hb dX12_goClone_91 rfl (lv_at hl 7 rfl) ?_
            refine lv_iadd hx hb dX12_goClone_92 ?_
            refine lv_topi (fun x_273 ex_273 => ?_)
            have rx_273 : rgI (48) (71) x_273 := by rw [ex_273]; exact rg_w (rg_add rl_48 pr2 (by decide) (by decide)) (by decide) (by decide)
            refine hg_iald hx hb hK o_c_268 (rg_in (n := 122) rx_273 (by decide) (by decide)) dX12_goClone_93 ?_
            rw [w_262]
            refine lv_topi (fun x_274 ex_274 => ?_)
            have gq_275 : x_274 = (G.2.1 b0) (48 + a2.toNatClampNeg) := a48 hm0 (G.2.1 b0) ex_273 ex_274
            refine lv_iload hx hb dX12_goClone_94 (lv_at hl 1 rfl) ?_
            obtain ⟨_, ⟨rfl, t_277, hk_278⟩, o_c_276⟩ := hH h0 _ k_h0
            refine va_callv (va_runV (As := [.int x_274, .int x_205]) (rest := []) ⟨hx, hb, hml, hown, hts⟩ (c_X12_layNew l g Ty G_258 H.size h0 x_274 x_205 k_h0 hLD (by rw [u_261]; exact (show rgI 0 23 (0 : Int32) from rg_w rl_0 (by decide) (by decide)))) (cwV 2 hts (gwV mw_1591 mw_1593 mw_55 mw_88 mw_1594) rfl rfl rfl hv_X12_layNew ⟨Nat.le_of_ble_eq_true rfl, Nat.le_of_ble_eq_true rfl⟩) ⟨PcT_blind, hg_recv hK o_c_276 rfl, PcT_pre hK hH⟩ rfl rfl hl.1 rfl (lv_room (Nat.le_of_ble_eq_true rfl)) dX12_goClone_96 ⟨Nat.zero_le _, Nat.zero_le _⟩) hS (fun q _ h => AF.mono hS.1 h) (fun q h => AF.mono hS.1 h) (fun ux_279 t H locs ht hvm hx_279 hB hz hk hS => ?_)
            obtain ⟨eTx_279, eGx_279⟩ := hx_279
            obtain ⟨G_280, eG_280⟩ : ∃ z, z = ux_279.2 := ⟨_, rfl⟩
            rw [← eG_280] at eGx_279
            obtain ⟨hfr_281, hex_282⟩ := eGx_279
            have fr_283 : FR [107, 108, 109, 110, 114, 127, 128] [b0, (g.2.2 115), (g.2.2 125), (g.2.2 126)] [106] G G_280 := FR.tr fr_259 hfr_281 (by decide) (fun b h => ⟨h.2.2.1, h.2.2.2.1, trivial⟩) (by decide)
            have u_284 : G_280.1 113 = (G.1 113) := (hfr_281.1 113 (by decide)).trans u_260
            have w_285 : G_280.2.1 b0 = (G.2.1 b0) := (hfr_281.2.1 b0 ⟨(ne_kd k_b0 hmk.2.2.2.2.2.2.2.2.1 (by decide)), (ne_kd k_b0 hmk.2.2.2.2.2.2.2.2.2.1 (by decide)), trivial⟩).trans w_262
            have w_286 : G_280.2.1 rl = (G.2.1 rl) := (hfr_281.2.1 rl ⟨(ne_kd krl hmk.2.2.2.2.2.2.2.2.1 (by decide)), (ne_kd krl hmk.2.2.2.2.2.2.2.2.2.1 (by decide)), trivial⟩).trans w_263
            have u_287 : G_280.2.2 111 = some rl := (hfr_281.2.2 111 (by decide)).trans u_266
            obtain ⟨f_288, ef_288⟩ : ∃ z : Nat → Int32, z = upd (G.2.1 (g.2.2 125)) (0 : Int32).toNatClampNeg x_274 := ⟨_, rfl⟩
            have w_291 : G_280.2.1 (g.2.2 125) = f_288 := (hex_282.1).trans (by rw [ef_288, w_264, u_261])
            obtain ⟨f_289, ef_289⟩ : ∃ z : Nat → Int32, z = upd (G.2.1 (g.2.2 126)) (0 : Int32).toNatClampNeg x_205 := ⟨_, rfl⟩
            have w_292 : G_280.2.1 (g.2.2 126) = f_289 := (hex_282.2.1).trans (by rw [ef_289, w_265, u_261])
            obtain ⟨x_290, ex_290⟩ : ∃ z : Int32, z = 0 + 1 := ⟨_, rfl⟩
            have u_293 : G_280.1 127 = x_290 := (hex_282.2.2).trans (by rw [ex_290, u_261])
            have rx_290 : rgI 0 24 x_290 := by rw [ex_290]; exact rg_w (rg_add (show rgI 0 23 (0 : Int32) from rg_w rl_0 (by decide) (by decide)) rl_1 (by decide) (by decide)) (by decide) (by decide)
            have hH : HT g Ty G_280 H := by rw [← ht, ← eTx_279, eG_280]; exact hB
            refine lv_iconst (v := 0) hx hb dX12_goClone_99 (by decide) ?_
            refine lv_istore (lv' := [(9, .int 0), (8, .int x_208), (7, .int x_205), (6, .int x_192), (5, .int x_188), (0, .ref h0), (1, .ref b0), (2, .int a1), (3, .int a2), (4, .int a3)]) hx hb dX12_goClone_100 hl (by decide) rfl (fun ls hl => ?_)
            exact L_102 _ H locs G_280 (G.2.1 b0) f_288 f_289 x_188 x_192 x_205 x_208 0 ls (by rw [u_293]; exact rg_w rx_290 (by decide) (by decide)) fr_283 w_285 w_291 w_292 pr2 pr3 (rg_w rl_0 (by decide) (by decide)) hx_192.1 (by rw [u_293]; exact (LN_i1 hSb fv_209.1 fv_209.2.1 fv_209.2.2 gq_275 (by rw [gq_275, ← gq_212]; exact c_213) c_254 ef_288 ef_289 ex_290)) hx_192.2 (Nat.lt_succ_self _) (lv_sub hl [5, 6, 8, 9, 4, 3, 2, 1, 0] rfl) hH hS
        · have r_294 : rgI (0) (0) x_205 := rg_w (rg_eq rl_0 c_254) (by decide) (by decide)
          refine lv_aload_n hx hb dX12_goClone_67 rfl (lv_at hl 5 rfl) ?_
          refine va_calli (va_runS (As := [.ref b0]) (rest := []) ⟨hx, hb, hml, hown, hts⟩ (c_X12_newGroup l g Ty G_193 H.size b0 k_b0) (cwSx 1 hts hG (gwC mw_1590) mw_88 mw_1588 mw_1589 rfl rfl rfl hd_X12_newGroup ⟨Nat.le_of_ble_eq_true rfl, Nat.le_of_ble_eq_true rfl⟩) ⟨PcT_blind, PcT_pre hK hH⟩ rfl rfl hl.1 rfl (lv_room (Nat.le_of_ble_eq_true rfl)) dX12_goClone_68 ⟨Nat.zero_le _, Nat.zero_le _⟩) hS (fun q _ h => AF.mono hS.1 h) (fun q h => AF.mono hS.1 h) (fun x_295 ux_295 t H locs ht hvm hx_295 hB hz hk hS => ?_)
          obtain ⟨eTx_295, eGx_295⟩ := hx_295
          obtain ⟨G_296, eG_296⟩ : ∃ z, z = ux_295.2 := ⟨_, rfl⟩
          rw [← eG_296] at eGx_295
          obtain ⟨hr_298, hg_299⟩ := eGx_295
          rw [w_196] at hr_298 hg_299
          obtain ⟨f_297, ef_297⟩ : ∃ z : Nat → Int32, z = (F_X12_newGroup (G.2.1 b0)).2 := ⟨_, rfl⟩
          rw [← ef_297] at hg_299
          have fr_300 : FR [107, 108, 109, 110, 114, 127, 128] [b0, (g.2.2 115), (g.2.2 125), (g.2.2 126)] [106] G G_296 := FR.a fr_194 hg_299 (fun b h => h.1)
          have u_301 : G_296.1 113 = (G.1 113) := by rw [hg_299]; exact u_195
          have w_302 : G_296.2.1 b0 = f_297 := by rw [hg_299]; exact aset_eq
          have w_303 : G_296.2.1 rl = (G.2.1 rl) := by rw [hg_299]; exact (aset_ne (ne_kd krl k_b0 (by decide))).trans w_197
          have w_304 : G_296.2.1 (g.2.2 125) = (G.2.1 (g.2.2 125)) := by rw [hg_299]; exact (aset_ne (ne_kd hmk.2.2.2.2.2.2.2.2.1 k_b0 (by decide))).trans w_198
          have w_305 : G_296.2.1 (g.2.2 126) = (G.2.1 (g.2.2 126)) := by rw [hg_299]; exact (aset_ne (ne_kd hmk.2.2.2.2.2.2.2.2.2.1 k_b0 (by decide))).trans w_199
          have u_306 : G_296.2.2 111 = some rl := by rw [hg_299]; exact u_200
          have hH : HT g Ty G_296 H := by rw [← ht, ← eTx_295, eG_296]; exact hB
          refine lv_istore (lv' := [(7, .int x_295), (8, .int x_208), (6, .int x_192), (5, .int x_188), (0, .ref h0), (1, .ref b0), (2, .int a1), (3, .int a2), (4, .int a3)]) hx hb dX12_goClone_71 hl (by decide) rfl (fun ls hl => ?_)
          refine lv_aload_n hx hb dX12_goClone_73 rfl (lv_at hl 4 rfl) ?_
          refine lv_iconst (v := 0) hx hb dX12_goClone_74 (by decide) ?_
          obtain ⟨_, ⟨rfl, t_308, hk_309⟩, o_c_307⟩ := hH h0 _ k_h0
          refine hg_put (ty := .int) hx hb hG igX12 tyX12 tyX12_ok nmX12 hown hK hS o_c_307 (AF.of k_h0) rfl 27 (by decide) (hG _ mw_1311) rfl (by decide +kernel) rfl rfl (Nat.le_of_ble_eq_true rfl) dX12_goClone_75 (fun H locs o_c_307 hz oq hS => ?_)
          obtain ⟨G_310, eG_310⟩ : ∃ z : Gh, z = gset G_296 127 0 := ⟨_, rfl⟩
          have hH : HT g Ty G_310 H := by rw [eG_310]; exact HT.putN 127 0 hH k_h0 ⟨rfl, t_308, hk_309⟩ o_c_307 oq (Or.inr (Or.inr (Or.inr (Or.inr (Or.inr ⟨by decide, t_308⟩)))))
          have fr_311 : FR [107, 108, 109, 110, 114, 127, 128] [b0, (g.2.2 115), (g.2.2 125), (g.2.2 126)] [106] G G_310 := FR.n fr_300 eG_310 (by decide)
          have u_312 : G_310.1 113 = (G.1 113) := by rw [eG_310]; exact (gs_ne (by decide)).trans u_301
          have u_313 : G_310.1 127 = 0 := by rw [eG_310]; exact gs_eq
          have w_314 : G_310.2.1 b0 = f_297 := by rw [eG_310]; exact w_302
          have w_315 : G_310.2.1 rl = (G.2.1 rl) := by rw [eG_310]; exact w_303
          have w_316 : G_310.2.1 (g.2.2 125) = (G.2.1 (g.2.2 125)) := by rw [eG_310]; exact w_304
          have w_317 : G_310.2.1 (g.2.2 126) = (G.2.1 (g.2.2 126)) := by rw [eG_310]; exact w_305
          have u_318 : G_310.2.2 111 = some rl := by rw [eG_310]; exact u_306
          clear oq hz
          refine lv_aload_n hx hb dX12_goClone_78 rfl (lv_at hl 5 rfl) ?_
          refine lv_bipush (v := 48) hx hb dX12_goClone_79 (by decide) ?_
          refine lv_iload_n hx hb dX12_goClone_81 rfl (lv_at hl 7 rfl) ?_
          refine lv_iadd hx hb dX12_goClone_82 ?_
          refine lv_topi (fun x_319 ex_319 => ?_)
          have rx_319 : rgI (48) (71) x_319 := by rw [ex_319]; exact rg_w (rg_add rl_48 pr2 (by decide) (by decide)) (by decide) (by decide)
          obtain ⟨_, rfl, o_c_320⟩ := hH b0 _ k_b0
          have o_c_320 : va_at g.1 vwCl (b0, .inl (g.2.1 1, 122, .inl (G_310.2.1 b0))) H := o_c_320
          refine hg_iald hx hb hK o_c_320 (rg_in (n := 122) rx_319 (by decide) (by decide)) dX12_goClone_83 ?_
          rw [w_314]
          refine lv_topi (fun x_321 ex_321 => ?_)
          have gq_322 : x_321 = f_297 (48 + a2.toNatClampNeg) := a48 hm0 f_297 ex_319 ex_321
          refine lv_if_eq (tgt := 99) hx hb dX12_goClone_84 (by decide) (fun c_323 => ?_) (fun c_323 => ?_)
          · have r_324 : rgI (0) (0) x_321 := rg_w (rg_eq rl_0 c_323) (by decide) (by decide)
            refine lv_iconst (v := 0) hx hb dX12_goClone_99 (by decide) ?_
            refine lv_istore (lv' := [(9, .int 0), (7, .int x_295), (8, .int x_208), (6, .int x_192), (5, .int x_188), (0, .ref h0), (1, .ref b0), (2, .int a1), (3, .int a2), (4, .int a3)]) hx hb dX12_goClone_100 hl (by decide) rfl (fun ls hl => ?_)
            exact L_102 _ H locs G_310 f_297 (G.2.1 (g.2.2 125)) (G.2.1 (g.2.2 126)) x_188 x_192 x_295 x_208 0 ls (by rw [u_313]; exact rg_w rl_0 (by decide) (by decide)) fr_311 w_314 w_316 w_317 pr2 pr3 (rg_w rl_0 (by decide) (by decide)) hx_192.1 (absurd (by rw [gq_212, ← ng_48 (thr_l hm0) ef_297, ← gq_322]; exact c_323) c_213) hx_192.2 (Nat.lt_succ_self _) (lv_sub hl [5, 6, 8, 9, 4, 3, 1, 2, 0] rfl) hH hS
          · refine lv_aload_n hx hb dX12_goClone_87 rfl (lv_at hl 4 rfl) ?_
            refine lv_aload_n hx hb dX12_goClone_88 rfl (lv_at hl 5 rfl) ?_
            refine lv_bipush (v := 48) hx hb dX12_goClone_89 (by decide) ?_
            refine lv_iload_n hx hb dX12_goClone_91 rfl (lv_at hl 7 rfl) ?_
            refine lv_iadd hx hb dX12_goClone_92 ?_
            refine lv_topi (fun x_325 ex_325 => ?_)
            have rx_325 : rgI (48) (71) x_325 := by rw [ex_325]; exact rg_w (rg_add rl_48 pr2 (by decide) (by decide)) (by decide) (by decide)
            refine hg_iald hx hb hK o_c_320 (rg_in (n := 122) rx_325 (by decide) (by decide)) dX12_goClone_93 ?_
            rw [w_314]
            refine lv_topi (fun x_326 ex_326 => ?_)
            have gq_327 : x_326 = f_297 (48 + a2.toNatClampNeg) := a48 hm0 f_297 ex_325 ex_326
            refine lv_iload hx hb dX12_goClone_94 (lv_at hl 0 rfl) ?_
            obtain ⟨_, ⟨rfl, t_329, hk_330⟩, o_c_328⟩ := hH h0 _ k_h0
            refine va_callv (va_runV (As := [.int x_326, .int x_295]) (rest := []) ⟨hx, hb, hml, hown, hts⟩ (c_X12_layNew l g Ty G_310 H.size h0 x_326 x_295 k_h0 hLD (by rw [u_313]; exact (show rgI 0 23 (0 : Int32) from rg_w rl_0 (by decide) (by decide)))) (cwV 2 hts (gwV mw_1591 mw_1593 mw_55 mw_88 mw_1594) rfl rfl rfl hv_X12_layNew ⟨Nat.le_of_ble_eq_true rfl, Nat.le_of_ble_eq_true rfl⟩) ⟨PcT_blind, hg_recv hK o_c_328 rfl, PcT_pre hK hH⟩ rfl rfl hl.1 rfl (lv_room (Nat.le_of_ble_eq_true rfl)) dX12_goClone_96 ⟨Nat.zero_le _, Nat.zero_le _⟩) hS (fun q _ h => AF.mono hS.1 h) (fun q h => AF.mono hS.1 h) (fun ux_331 t H locs ht hvm hx_331 hB hz hk hS => ?_)
            obtain ⟨eTx_331, eGx_331⟩ := hx_331
            obtain ⟨G_332, eG_332⟩ : ∃ z, z = ux_331.2 := ⟨_, rfl⟩
            rw [← eG_332] at eGx_331
            obtain ⟨hfr_333, hex_334⟩ := eGx_331
            have fr_335 : FR [107, 108, 109, 110, 114, 127, 128] [b0, (g.2.2 115), (g.2.2 125), (g.2.2 126)] [106] G G_332 := FR.tr fr_311 hfr_333 (by decide) (fun b h => ⟨h.2.2.1, h.2.2.2.1, trivial⟩) (by decide)
            have u_336 : G_332.1 113 = (G.1 113) := (hfr_333.1 113 (by decide)).trans u_312
            have w_337 : G_332.2.1 b0 = f_297 := (hfr_333.2.1 b0 ⟨(ne_kd k_b0 hmk.2.2.2.2.2.2.2.2.1 (by decide)), (ne_kd k_b0 hmk.2.2.2.2.2.2.2.2.2.1 (by decide)), trivial⟩).trans w_314
            have w_338 : G_332.2.1 rl = (G.2.1 rl) := (hfr_333.2.1 rl ⟨(ne_kd krl hmk.2.2.2.2.2.2.2.2.1 (by decide)), (ne_kd krl hmk.2.2.2.2.2.2.2.2.2.1 (by decide)), trivial⟩).trans w_315
            have u_339 : G_332.2.2 111 = some rl := (hfr_333.2.2 111 (by decide)).trans u_318
            obtain ⟨f_340, ef_340⟩ : ∃ z : Nat → Int32, z = upd (G.2.1 (g.2.2 125)) (0 : Int32).toNatClampNeg x_326 := ⟨_, rfl⟩
            have w_343 : G_332.2.1 (g.2.2 125) = f_340 := (hex_334.1).trans (by rw [ef_340, w_316, u_313])
            obtain ⟨f_341, ef_341⟩ : ∃ z : Nat → Int32, z = upd (G.2.1 (g.2.2 126)) (0 : Int32).toNatClampNeg x_295 := ⟨_, rfl⟩
            have w_344 : G_332.2.1 (g.2.2 126) = f_341 := (hex_334.2.1).trans (by rw [ef_341, w_317, u_313])
            obtain ⟨x_342, ex_342⟩ : ∃ z : Int32, z = 0 + 1 := ⟨_, rfl⟩
            have u_345 : G_332.1 127 = x_342 := (hex_334.2.2).trans (by rw [ex_342, u_313])
            have rx_342 : rgI 0 24 x_342 := by rw [ex_342]; exact rg_w (rg_add (show rgI 0 23 (0 : Int32) from rg_w rl_0 (by decide) (by decide)) rl_1 (by decide) (by decide)) (by decide) (by decide)
            have hH : HT g Ty G_332 H := by rw [← ht, ← eTx_331, eG_332]; exact hB
            refine lv_iconst (v := 0) hx hb dX12_goClone_99 (by decide) ?_
            refine lv_istore (lv' := [(9, .int 0), (7, .int x_295), (8, .int x_208), (6, .int x_192), (5, .int x_188), (0, .ref h0), (1, .ref b0), (2, .int a1), (3, .int a2), (4, .int a3)]) hx hb dX12_goClone_100 hl (by decide) rfl (fun ls hl => ?_)
            exact L_102 _ H locs G_332 f_297 f_340 f_341 x_188 x_192 x_295 x_208 0 ls (by rw [u_345]; exact rg_w rx_342 (by decide) (by decide)) fr_335 w_337 w_343 w_344 pr2 pr3 (rg_w rl_0 (by decide) (by decide)) hx_192.1 (by rw [u_345]; exact (LN_i2 hSb h1 hB0 fv_209.2.1 hr_298 ef_297 (thr_l hm0) gq_327 (by rw [gq_327, ng_48 (thr_l hm0) ef_297, ← gq_212]; exact c_213) ef_340 ef_341 ex_342)) hx_192.2 (Nat.lt_succ_self _) (lv_sub hl [5, 6, 8, 9, 4, 3, 1, 2, 0] rfl) hH hS
    · exact rg_noE r_202 rl_24 c_206 (by decide)
  · have r_346 : rgI (24) (24) a1 := rg_w (rg_eq rl_24 c_201) (by decide) (by decide)
    refine lv_iconst (v := 0) hx hb dX12_goClone_23 (by decide) ?_
    refine lv_goto (tgt := 33) hx hb dX12_goClone_24 (by decide) ?_
    refine lv_istore (lv' := [(7, .int 0), (6, .int x_192), (5, .int x_188), (0, .ref h0), (1, .ref b0), (2, .int a1), (3, .int a2), (4, .int a3)]) hx hb dX12_goClone_33 hl (by decide) rfl (fun ls hl => ?_)
    refine lv_iload_n hx hb dX12_goClone_35 rfl (lv_at hl 5 rfl) ?_
    refine lv_bipush (v := 24) hx hb dX12_goClone_36 (by decide) ?_
    refine lv_icmp_ne (tgt := 45) hx hb dX12_goClone_38 (by decide) (fun c_347 => ?_) (fun c_347 => ?_)
    · exact rg_clash (rg_neL r_346 rl_24 c_347) (r_346) (by decide)
    · refine lv_iconst (v := 0) hx hb dX12_goClone_41 (by decide) ?_
      refine lv_goto (tgt := 51) hx hb dX12_goClone_42 (by decide) ?_
      refine lv_istore (lv' := [(8, .int 0), (7, .int 0), (6, .int x_192), (5, .int x_188), (0, .ref h0), (1, .ref b0), (2, .int a1), (3, .int a2), (4, .int a3)]) hx hb dX12_goClone_51 hl (by decide) rfl (fun ls hl => ?_)
      have fv_348 := fr_none (σ := σ) h1
      refine lv_aload_n hx hb dX12_goClone_53 rfl (lv_at hl 5 rfl) ?_
      refine lv_bipush (v := 48) hx hb dX12_goClone_54 (by decide) ?_
      refine lv_iload_n hx hb dX12_goClone_56 rfl (lv_at hl 7 rfl) ?_
      refine lv_iadd hx hb dX12_goClone_57 ?_
      refine lv_topi (fun x_349 ex_349 => ?_)
      have rx_349 : rgI (48) (71) x_349 := by rw [ex_349]; exact rg_w (rg_add rl_48 pr2 (by decide) (by decide)) (by decide) (by decide)
      obtain ⟨_, rfl, o_c_350⟩ := hH b0 _ k_b0
      have o_c_350 : va_at g.1 vwCl (b0, .inl (g.2.1 1, 122, .inl (G_193.2.1 b0))) H := o_c_350
      refine hg_iald hx hb hK o_c_350 (rg_in (n := 122) rx_349 (by decide) (by decide)) dX12_goClone_58 ?_
      rw [w_196]
      refine lv_topi (fun x_351 ex_351 => ?_)
      have gq_352 : x_351 = (G.2.1 b0) (48 + a2.toNatClampNeg) := a48 hm0 (G.2.1 b0) ex_349 ex_351
      refine lv_if_eq (tgt := 73) hx hb dX12_goClone_59 (by decide) (fun c_353 => ?_) (fun c_353 => ?_)
      · have r_354 : rgI (0) (0) x_351 := rg_w (rg_eq rl_0 c_353) (by decide) (by decide)
        refine lv_aload_n hx hb dX12_goClone_73 rfl (lv_at hl 4 rfl) ?_
        refine lv_iconst (v := 0) hx hb dX12_goClone_74 (by decide) ?_
        obtain ⟨_, ⟨rfl, t_356, hk_357⟩, o_c_355⟩ := hH h0 _ k_h0
        refine hg_put (ty := .int) hx hb hG igX12 tyX12 tyX12_ok nmX12 hown hK hS o_c_355 (AF.of k_h0) rfl 27 (by decide) (hG _ mw_1311) rfl (by decide +kernel) rfl rfl (Nat.le_of_ble_eq_true rfl) dX12_goClone_75 (fun H locs o_c_355 hz oq hS => ?_)
        obtain ⟨G_358, eG_358⟩ : ∃ z : Gh, z = gset G_193 127 0 := ⟨_, rfl⟩
        have hH : HT g Ty G_358 H := by rw [eG_358]; exact HT.putN 127 0 hH k_h0 ⟨rfl, t_356, hk_357⟩ o_c_355 oq (Or.inr (Or.inr (Or.inr (Or.inr (Or.inr ⟨by decide, t_356⟩)))))
        have fr_359 : FR [107, 108, 109, 110, 114, 127, 128] [b0, (g.2.2 115), (g.2.2 125), (g.2.2 126)] [106] G G_358 := FR.n fr_194 eG_358 (by decide)
        have u_360 : G_358.1 113 = (G.1 113) := by rw [eG_358]; exact (gs_ne (by decide)).trans u_195
        have u_361 : G_358.1 127 = 0 := by rw [eG_358]; exact gs_eq
        have w_362 : G_358.2.1 b0 = (G.2.1 b0) := by rw [eG_358]; exact w_196
        have w_363 : G_358.2.1 rl = (G.2.1 rl) := by rw [eG_358]; exact w_197
        have w_364 : G_358.2.1 (g.2.2 125) = (G.2.1 (g.2.2 125)) := by rw [eG_358]; exact w_198
        have w_365 : G_358.2.1 (g.2.2 126) = (G.2.1 (g.2.2 126)) := by rw [eG_358]; exact w_199
        have u_366 : G_358.2.2 111 = some rl := by rw [eG_358]; exact u_200
        clear oq hz
        refine lv_aload_n hx hb dX12_goClone_78 rfl (lv_at hl 5 rfl) ?_
        refine lv_bipush (v := 48) hx hb dX12_goClone_79 (by decide) ?_
        refine lv_iload_n hx hb dX12_goClone_81 rfl (lv_at hl 7 rfl) ?_
        refine lv_iadd hx hb dX12_goClone_82 ?_
        refine lv_topi (fun x_367 ex_367 => ?_)
        have rx_367 : rgI (48) (71) x_367 := by rw [ex_367]; exact rg_w (rg_add rl_48 pr2 (by decide) (by decide)) (by decide) (by decide)
        obtain ⟨_, rfl, o_c_368⟩ := hH b0 _ k_b0
        have o_c_368 : va_at g.1 vwCl (b0, .inl (g.2.1 1, 122, .inl (G_358.2.1 b0))) H := o_c_368
        refine hg_iald hx hb hK o_c_368 (rg_in (n := 122) rx_367 (by decide) (by decide)) dX12_goClone_83 ?_
        rw [w_362]
        refine lv_topi (fun x_369 ex_369 => ?_)
        have gq_370 : x_369 = (G.2.1 b0) (48 + a2.toNatClampNeg) := a48 hm0 (G.2.1 b0) ex_367 ex_369
        refine lv_if_eq (tgt := 99) hx hb dX12_goClone_84 (by decide) (fun c_371 => ?_) (fun c_371 => ?_)
        · have r_372 : rgI (0) (0) x_369 := rg_w (rg_eq rl_0 c_371) (by decide) (by decide)
          refine lv_iconst (v := 0) hx hb dX12_goClone_99 (by decide) ?_
          refine lv_istore (lv' := [(9, .int 0), (8, .int 0), (7, .int 0), (6, .int x_192), (5, .int x_188), (0, .ref h0), (1, .ref b0), (2, .int a1), (3, .int a2), (4, .int a3)]) hx hb dX12_goClone_100 hl (by decide) rfl (fun ls hl => ?_)
          exact L_102 _ H locs G_358 (G.2.1 b0) (G.2.1 (g.2.2 125)) (G.2.1 (g.2.2 126)) x_188 x_192 0 0 0 ls (by rw [u_361]; exact rg_w rl_0 (by decide) (by decide)) fr_359 w_362 w_364 w_365 pr2 pr3 (rg_w rl_0 (by decide) (by decide)) hx_192.1 (by rw [u_361]; exact (LN_i0 hSb fv_348.1 fv_348.2.1 fv_348.2.2 (by rw [← gq_352]; exact c_353))) hx_192.2 (Nat.lt_succ_self _) (lv_sub hl [5, 6, 8, 9, 4, 3, 2, 1, 0] rfl) hH hS
        · refine lv_aload_n hx hb dX12_goClone_87 rfl (lv_at hl 4 rfl) ?_
          refine lv_aload_n hx hb dX12_goClone_88 rfl (lv_at hl 5 rfl) ?_
          refine lv_bipush (v := 48) hx hb dX12_goClone_89 (by decide) ?_
          refine lv_iload_n hx hb dX12_goClone_91 rfl (lv_at hl 7 rfl) ?_
          refine lv_iadd hx hb dX12_goClone_92 ?_
          refine lv_topi (fun x_373 ex_373 => ?_)
          have rx_373 : rgI (48) (71) x_373 := by rw [ex_373]; exact rg_w (rg_add rl_48 pr2 (by decide) (by decide)) (by decide) (by decide)
          refine hg_iald hx hb hK o_c_368 (rg_in (n := 122) rx_373 (by decide) (by decide)) dX12_goClone_93 ?_
          rw [w_362]
          refine lv_topi (fun x_374 ex_374 => ?_)
          have gq_375 : x_374 = (G.2.1 b0) (48 + a2.toNatClampNeg) := a48 hm0 (G.2.1 b0) ex_373 ex_374
          refine lv_iload hx hb dX12_goClone_94 (lv_at hl 1 rfl) ?_
          obtain ⟨_, ⟨rfl, t_377, hk_378⟩, o_c_376⟩ := hH h0 _ k_h0
          refine va_callv (va_runV (As := [.int x_374, .int 0]) (rest := []) ⟨hx, hb, hml, hown, hts⟩ (c_X12_layNew l g Ty G_358 H.size h0 x_374 0 k_h0 hLD (by rw [u_361]; exact (show rgI 0 23 (0 : Int32) from rg_w rl_0 (by decide) (by decide)))) (cwV 2 hts (gwV mw_1591 mw_1593 mw_55 mw_88 mw_1594) rfl rfl rfl hv_X12_layNew ⟨Nat.le_of_ble_eq_true rfl, Nat.le_of_ble_eq_true rfl⟩) ⟨PcT_blind, hg_recv hK o_c_376 rfl, PcT_pre hK hH⟩ rfl rfl hl.1 rfl (lv_room (Nat.le_of_ble_eq_true rfl)) dX12_goClone_96 ⟨Nat.zero_le _, Nat.zero_le _⟩) hS (fun q _ h => AF.mono hS.1 h) (fun q h => AF.mono hS.1 h) (fun ux_379 t H locs ht hvm hx_379 hB hz hk hS => ?_)
          obtain ⟨eTx_379, eGx_379⟩ := hx_379
          obtain ⟨G_380, eG_380⟩ : ∃ z, z = ux_379.2 := ⟨_, rfl⟩
          rw [← eG_380] at eGx_379
          obtain ⟨hfr_381, hex_382⟩ := eGx_379
          have fr_383 : FR [107, 108, 109, 110, 114, 127, 128] [b0, (g.2.2 115), (g.2.2 125), (g.2.2 126)] [106] G G_380 := FR.tr fr_359 hfr_381 (by decide) (fun b h => ⟨h.2.2.1, h.2.2.2.1, trivial⟩) (by decide)
          have u_384 : G_380.1 113 = (G.1 113) := (hfr_381.1 113 (by decide)).trans u_360
          have w_385 : G_380.2.1 b0 = (G.2.1 b0) := (hfr_381.2.1 b0 ⟨(ne_kd k_b0 hmk.2.2.2.2.2.2.2.2.1 (by decide)), (ne_kd k_b0 hmk.2.2.2.2.2.2.2.2.2.1 (by decide)), trivial⟩).trans w_362
          have w_386 : G_380.2.1 rl = (G.2.1 rl) := (hfr_381.2.1 rl ⟨(ne_kd krl hmk.2.2.2.2.2.2.2.2.1 (by decide)), (ne_kd krl hmk.2.2.2.2.2.2.2.2.2.1 (by decide)), trivial⟩).trans w_363
          have u_387 : G_380.2.2 111 = some rl := (hfr_381.2.2 111 (by decide)).trans u_366
          obtain ⟨f_388, ef_388⟩ : ∃ z : Nat → Int32, z = upd (G.2.1 (g.2.2 125)) (0 : Int32).toNatClampNeg x_374 := ⟨_, rfl⟩
          have w_391 : G_380.2.1 (g.2.2 125) = f_388 := (hex_382.1).trans (by rw [ef_388, w_364, u_361])
          obtain ⟨f_389, ef_389⟩ : ∃ z : Nat → Int32, z = upd (G.2.1 (g.2.2 126)) (0 : Int32).toNatClampNeg 0 := ⟨_, rfl⟩
          have w_392 : G_380.2.1 (g.2.2 126) = f_389 := (hex_382.2.1).trans (by rw [ef_389, w_365, u_361])
          obtain ⟨x_390, ex_390⟩ : ∃ z : Int32, z = 0 + 1 := ⟨_, rfl⟩
          have u_393 : G_380.1 127 = x_390 := (hex_382.2.2).trans (by rw [ex_390, u_361])
          have rx_390 : rgI 0 24 x_390 := by rw [ex_390]; exact rg_w (rg_add (show rgI 0 23 (0 : Int32) from rg_w rl_0 (by decide) (by decide)) rl_1 (by decide) (by decide)) (by decide) (by decide)
          have hH : HT g Ty G_380 H := by rw [← ht, ← eTx_379, eG_380]; exact hB
          refine lv_iconst (v := 0) hx hb dX12_goClone_99 (by decide) ?_
          refine lv_istore (lv' := [(9, .int 0), (8, .int 0), (7, .int 0), (6, .int x_192), (5, .int x_188), (0, .ref h0), (1, .ref b0), (2, .int a1), (3, .int a2), (4, .int a3)]) hx hb dX12_goClone_100 hl (by decide) rfl (fun ls hl => ?_)
          exact L_102 _ H locs G_380 (G.2.1 b0) f_388 f_389 x_188 x_192 0 0 0 ls (by rw [u_393]; exact rg_w rx_390 (by decide) (by decide)) fr_383 w_385 w_391 w_392 pr2 pr3 (rg_w rl_0 (by decide) (by decide)) hx_192.1 (absurd (by rw [gq_370, ← gq_352]; exact c_353) c_371) hx_192.2 (Nat.lt_succ_self _) (lv_sub hl [5, 6, 8, 9, 4, 3, 2, 1, 0] rfl) hH hS
      · refine lv_iload hx hb dX12_goClone_62 (lv_at hl 1 rfl) ?_
        refine lv_if_ne (tgt := 73) hx hb dX12_goClone_64 (by decide) (fun c_394 => ?_) (fun c_394 => ?_)
        · exact absurd rfl c_394
        · refine lv_aload_n hx hb dX12_goClone_67 rfl (lv_at hl 5 rfl) ?_
          refine va_calli (va_runS (As := [.ref b0]) (rest := []) ⟨hx, hb, hml, hown, hts⟩ (c_X12_newGroup l g Ty G_193 H.size b0 k_b0) (cwSx 1 hts hG (gwC mw_1590) mw_88 mw_1588 mw_1589 rfl rfl rfl hd_X12_newGroup ⟨Nat.le_of_ble_eq_true rfl, Nat.le_of_ble_eq_true rfl⟩) ⟨PcT_blind, PcT_pre hK hH⟩ rfl rfl hl.1 rfl (lv_room (Nat.le_of_ble_eq_true rfl)) dX12_goClone_68 ⟨Nat.zero_le _, Nat.zero_le _⟩) hS (fun q _ h => AF.mono hS.1 h) (fun q h => AF.mono hS.1 h) (fun x_395 ux_395 t H locs ht hvm hx_395 hB hz hk hS => ?_)
          obtain ⟨eTx_395, eGx_395⟩ := hx_395
          obtain ⟨G_396, eG_396⟩ : ∃ z, z = ux_395.2 := ⟨_, rfl⟩
          rw [← eG_396] at eGx_395
          obtain ⟨hr_398, hg_399⟩ := eGx_395
          rw [w_196] at hr_398 hg_399
          obtain ⟨f_397, ef_397⟩ : ∃ z : Nat → Int32, z = (F_X12_newGroup (G.2.1 b0)).2 := ⟨_, rfl⟩
          rw [← ef_397] at hg_399
          have fr_400 : FR [107, 108, 109, 110, 114, 127, 128] [b0, (g.2.2 115), (g.2.2 125), (g.2.2 126)] [106] G G_396 := FR.a fr_194 hg_399 (fun b h => h.1)
          have u_401 : G_396.1 113 = (G.1 113) := by rw [hg_399]; exact u_195
          have w_402 : G_396.2.1 b0 = f_397 := by rw [hg_399]; exact aset_eq
          have w_403 : G_396.2.1 rl = (G.2.1 rl) := by rw [hg_399]; exact (aset_ne (ne_kd krl k_b0 (by decide))).trans w_197
          have w_404 : G_396.2.1 (g.2.2 125) = (G.2.1 (g.2.2 125)) := by rw [hg_399]; exact (aset_ne (ne_kd hmk.2.2.2.2.2.2.2.2.1 k_b0 (by decide))).trans w_198
          have w_405 : G_396.2.1 (g.2.2 126) = (G.2.1 (g.2.2 126)) := by rw [hg_399]; exact (aset_ne (ne_kd hmk.2.2.2.2.2.2.2.2.2.1 k_b0 (by decide))).trans w_199
          have u_406 : G_396.2.2 111 = some rl := by rw [hg_399]; exact u_200
          have hH : HT g Ty G_396 H := by rw [← ht, ← eTx_395, eG_396]; exact hB
          refine lv_istore (lv' := [(7, .int x_395), (8, .int 0), (6, .int x_192), (5, .int x_188), (0, .ref h0), (1, .ref b0), (2, .int a1), (3, .int a2), (4, .int a3)]) hx hb dX12_goClone_71 hl (by decide) rfl (fun ls hl => ?_)
          refine lv_aload_n hx hb dX12_goClone_73 rfl (lv_at hl 4 rfl) ?_
          refine lv_iconst (v := 0) hx hb dX12_goClone_74 (by decide) ?_
          obtain ⟨_, ⟨rfl, t_408, hk_409⟩, o_c_407⟩ := hH h0 _ k_h0
          refine hg_put (ty := .int) hx hb hG igX12 tyX12 tyX12_ok nmX12 hown hK hS o_c_407 (AF.of k_h0) rfl 27 (by decide) (hG _ mw_1311) rfl (by decide +kernel) rfl rfl (Nat.le_of_ble_eq_true rfl) dX12_goClone_75 (fun H locs o_c_407 hz oq hS => ?_)
          obtain ⟨G_410, eG_410⟩ : ∃ z : Gh, z = gset G_396 127 0 := ⟨_, rfl⟩
          have hH : HT g Ty G_410 H := by rw [eG_410]; exact HT.putN 127 0 hH k_h0 ⟨rfl, t_408, hk_409⟩ o_c_407 oq (Or.inr (Or.inr (Or.inr (Or.inr (Or.inr ⟨by decide, t_408⟩)))))
          have fr_411 : FR [107, 108, 109, 110, 114, 127, 128] [b0, (g.2.2 115), (g.2.2 125), (g.2.2 126)] [106] G G_410 := FR.n fr_400 eG_410 (by decide)
          have u_412 : G_410.1 113 = (G.1 113) := by rw [eG_410]; exact (gs_ne (by decide)).trans u_401
          have u_413 : G_410.1 127 = 0 := by rw [eG_410]; exact gs_eq
          have w_414 : G_410.2.1 b0 = f_397 := by rw [eG_410]; exact w_402
          have w_415 : G_410.2.1 rl = (G.2.1 rl) := by rw [eG_410]; exact w_403
          have w_416 : G_410.2.1 (g.2.2 125) = (G.2.1 (g.2.2 125)) := by rw [eG_410]; exact w_404
          have w_417 : G_410.2.1 (g.2.2 126) = (G.2.1 (g.2.2 126)) := by rw [eG_410]; exact w_405
          have u_418 : G_410.2.2 111 = some rl := by rw [eG_410]; exact u_406
          clear oq hz
          refine lv_aload_n hx hb dX12_goClone_78 rfl (lv_at hl 5 rfl) ?_
          refine lv_bipush (v := 48) hx hb dX12_goClone_79 (by decide) ?_
          refine lv_iload_n hx hb dX12_goClone_81 rfl (lv_at hl 7 rfl) ?_
          refine lv_iadd hx hb dX12_goClone_82 ?_
          refine lv_topi (fun x_419 ex_419 => ?_)
          have rx_419 : rgI (48) (71) x_419 := by rw [ex_419]; exact rg_w (rg_add rl_48 pr2 (by decide) (by decide)) (by decide) (by decide)
          obtain ⟨_, rfl, o_c_420⟩ := hH b0 _ k_b0
          have o_c_420 : va_at g.1 vwCl (b0, .inl (g.2.1 1, 122, .inl (G_410.2.1 b0))) H := o_c_420
          refine hg_iald hx hb hK o_c_420 (rg_in (n := 122) rx_419 (by decide) (by decide)) dX12_goClone_83 ?_
          rw [w_414]
          refine lv_topi (fun x_421 ex_421 => ?_)
          have gq_422 : x_421 = f_397 (48 + a2.toNatClampNeg) := a48 hm0 f_397 ex_419 ex_421
          refine lv_if_eq (tgt := 99) hx hb dX12_goClone_84 (by decide) (fun c_423 => ?_) (fun c_423 => ?_)
          · have r_424 : rgI (0) (0) x_421 := rg_w (rg_eq rl_0 c_423) (by decide) (by decide)
            refine lv_iconst (v := 0) hx hb dX12_goClone_99 (by decide) ?_
            refine lv_istore (lv' := [(9, .int 0), (7, .int x_395), (8, .int 0), (6, .int x_192), (5, .int x_188), (0, .ref h0), (1, .ref b0), (2, .int a1), (3, .int a2), (4, .int a3)]) hx hb dX12_goClone_100 hl (by decide) rfl (fun ls hl => ?_)
            exact L_102 _ H locs G_410 f_397 (G.2.1 (g.2.2 125)) (G.2.1 (g.2.2 126)) x_188 x_192 x_395 0 0 ls (by rw [u_413]; exact rg_w rl_0 (by decide) (by decide)) fr_411 w_414 w_416 w_417 pr2 pr3 (rg_w rl_0 (by decide) (by decide)) hx_192.1 (absurd (by rw [gq_352, ← ng_48 (thr_l hm0) ef_397, ← gq_422]; exact c_423) c_353) hx_192.2 (Nat.lt_succ_self _) (lv_sub hl [5, 6, 8, 9, 4, 3, 1, 2, 0] rfl) hH hS
          · refine lv_aload_n hx hb dX12_goClone_87 rfl (lv_at hl 4 rfl) ?_
            refine lv_aload_n hx hb dX12_goClone_88 rfl (lv_at hl 5 rfl) ?_
            refine lv_bipush (v := 48) hx hb dX12_goClone_89 (by decide) ?_
            refine lv_iload_n hx hb dX12_goClone_91 rfl (lv_at hl 7 rfl) ?_
            refine lv_iadd hx hb dX12_goClone_92 ?_
            refine lv_topi (fun x_425 ex_425 => ?_)
            have rx_425 : rgI (48) (71) x_425 := by rw [ex_425]; exact rg_w (rg_add rl_48 pr2 (by decide) (by decide)) (by decide) (by decide)
            refine hg_iald hx hb hK o_c_420 (rg_in (n := 122) rx_425 (by decide) (by decide)) dX12_goClone_93 ?_
            rw [w_414]
            refine lv_topi (fun x_426 ex_426 => ?_)
            have gq_427 : x_426 = f_397 (48 + a2.toNatClampNeg) := a48 hm0 f_397 ex_425 ex_426
            refine lv_iload hx hb dX12_goClone_94 (lv_at hl 0 rfl) ?_
            obtain ⟨_, ⟨rfl, t_429, hk_430⟩, o_c_428⟩ := hH h0 _ k_h0
            refine va_callv (va_runV (As := [.int x_426, .int x_395]) (rest := []) ⟨hx, hb, hml, hown, hts⟩ (c_X12_layNew l g Ty G_410 H.size h0 x_426 x_395 k_h0 hLD (by rw [u_413]; exact (show rgI 0 23 (0 : Int32) from rg_w rl_0 (by decide) (by decide)))) (cwV 2 hts (gwV mw_1591 mw_1593 mw_55 mw_88 mw_1594) rfl rfl rfl hv_X12_layNew ⟨Nat.le_of_ble_eq_true rfl, Nat.le_of_ble_eq_true rfl⟩) ⟨PcT_blind, hg_recv hK o_c_428 rfl, PcT_pre hK hH⟩ rfl rfl hl.1 rfl (lv_room (Nat.le_of_ble_eq_true rfl)) dX12_goClone_96 ⟨Nat.zero_le _, Nat.zero_le _⟩) hS (fun q _ h => AF.mono hS.1 h) (fun q h => AF.mono hS.1 h) (fun ux_431 t H locs ht hvm hx_431 hB hz hk hS => ?_)
            obtain ⟨eTx_431, eGx_431⟩ := hx_431
            obtain ⟨G_432, eG_432⟩ : ∃ z, z = ux_431.2 := ⟨_, rfl⟩
            rw [← eG_432] at eGx_431
            obtain ⟨hfr_433, hex_434⟩ := eGx_431
            have fr_435 : FR [107, 108, 109, 110, 114, 127, 128] [b0, (g.2.2 115), (g.2.2 125), (g.2.2 126)] [106] G G_432 := FR.tr fr_411 hfr_433 (by decide) (fun b h => ⟨h.2.2.1, h.2.2.2.1, trivial⟩) (by decide)
            have u_436 : G_432.1 113 = (G.1 113) := (hfr_433.1 113 (by decide)).trans u_412
            have w_437 : G_432.2.1 b0 = f_397 := (hfr_433.2.1 b0 ⟨(ne_kd k_b0 hmk.2.2.2.2.2.2.2.2.1 (by decide)), (ne_kd k_b0 hmk.2.2.2.2.2.2.2.2.2.1 (by decide)), trivial⟩).trans w_414
            have w_438 : G_432.2.1 rl = (G.2.1 rl) := (hfr_433.2.1 rl ⟨(ne_kd krl hmk.2.2.2.2.2.2.2.2.1 (by decide)), (ne_kd krl hmk.2.2.2.2.2.2.2.2.2.1 (by decide)), trivial⟩).trans w_415
            have u_439 : G_432.2.2 111 = some rl := (hfr_433.2.2 111 (by decide)).trans u_418
            obtain ⟨f_440, ef_440⟩ : ∃ z : Nat → Int32, z = upd (G.2.1 (g.2.2 125)) (0 : Int32).toNatClampNeg x_426 := ⟨_, rfl⟩
            have w_443 : G_432.2.1 (g.2.2 125) = f_440 := (hex_434.1).trans (by rw [ef_440, w_416, u_413])
            obtain ⟨f_441, ef_441⟩ : ∃ z : Nat → Int32, z = upd (G.2.1 (g.2.2 126)) (0 : Int32).toNatClampNeg x_395 := ⟨_, rfl⟩
            have w_444 : G_432.2.1 (g.2.2 126) = f_441 := (hex_434.2.1).trans (by rw [ef_441, w_417, u_413])
            obtain ⟨x_442, ex_442⟩ : ∃ z : Int32, z = 0 + 1 := ⟨_, rfl⟩
            have u_445 : G_432.1 127 = x_442 := (hex_434.2.2).trans (by rw [ex_442, u_413])
            have rx_442 : rgI 0 24 x_442 := by rw [ex_442]; exact rg_w (rg_add (show rgI 0 23 (0 : Int32) from rg_w rl_0 (by decide) (by decide)) rl_1 (by decide) (by decide)) (by decide) (by decide)
            have hH : HT g Ty G_432 H := by rw [← ht, ← eTx_431, eG_432]; exact hB
            refine lv_iconst (v := 0) hx hb dX12_goClone_99 (by decide) ?_
            refine lv_istore (lv' := [(9, .int 0), (7, .int x_395), (8, .int 0), (6, .int x_192), (5, .int x_188), (0, .ref h0), (1, .ref b0), (2, .int a1), (3, .int a2), (4, .int a3)]) hx hb dX12_goClone_100 hl (by decide) rfl (fun ls hl => ?_)
            exact L_102 _ H locs G_432 f_397 f_440 f_441 x_188 x_192 x_395 0 0 ls (by rw [u_445]; exact rg_w rx_442 (by decide) (by decide)) fr_435 w_437 w_443 w_444 pr2 pr3 (rg_w rl_0 (by decide) (by decide)) hx_192.1 (by rw [u_445]; exact (LN_i2 hSb h1 hB0 fv_348.2.1 hr_398 ef_397 (thr_l hm0) gq_427 (by rw [gq_427, ng_48 (thr_l hm0) ef_397, ← gq_352]; exact c_353) ef_440 ef_441 ex_442)) hx_192.2 (Nat.lt_succ_self _) (lv_sub hl [5, 6, 8, 9, 4, 3, 1, 2, 0] rfl) hH hS
