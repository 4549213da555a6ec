theorem aa_r {f : Nat → Int32} {ρ : Nat → Nat} {n x : Int32} {a b : Nat} (h : P1 f ρ) (hm : n.toInt ≤ (ρ a : Int)) (hn : rgI 0 23 n) (hs : ρ a < ρ b) (e : x = n + 1) : rgI 0 23 x := by
  have h1 := hn.1; have h2 := hn.2
  have q : x.toInt = n.toInt + 1 := by rw [e]; exact ti_add (y := 1) (by show _ ≤ n.toInt + 1; omega) (by show n.toInt + 1 ≤ _; omega)
  have := h.2.2 b
  exact ⟨by omega, by omega⟩
theorem aa_m {ρ : Nat → Nat} {n x : Int32} {a b : Nat} (hm : n.toInt ≤ (ρ a : Int)) (hn : rgI 0 23 n) (hs : ρ a < ρ b) (e : x = n + 1) : x.toInt ≤ (ρ b : Int) := by
  have h1 := hn.1; have h2 := hn.2
  have q : x.toInt = n.toInt + 1 := by rw [e]; exact ti_add (y := 1) (by show _ ≤ n.toInt + 1; omega) (by show n.toInt + 1 ≤ _; omega)
  omega

set_option maxHeartbeats 4000000 in
set_option maxRecDepth 100000 in
theorem c_X12_keepers (l : Launch) (g : Gx) (Ty : TyM) (G : Gh) (sz : Nat) (h0 : Nat) (a0 : Int32) (a1 : Int32) (k_h0 : Ty h0 = some (22, 0)) (Bd : Int) (hI : OI g Bd G) (hBd : Bd ≤ 1900000) (hLD : LD g) : Met l yX12_keepers (wsG yX12_keepers cX12_keepers 5 (some .int)) ({ frames := 5, cells := 0, slots := 0, locals := 111 }) (PcT g Ty G sz [.ref h0, .int a0, .int a1]) (QwI g Ty sz (fun r u => u.1 = Ty ∧ FR [104, 105] [(g.2.2 124)] [] G u.2 ∧ OI g (Bd + 1000) u.2)) 0 0 (AF Ty sz) := by
  refine Met.ofW (cc := cX12_keepers) (maxL := 5) (ret := (some .int)) (by decide) rfl ?_
  intro p e s m args below meth c s₁ B hml hv
  obtain ⟨rfl, hsz, hK, hH⟩ := hv
  subst hsz
  have hx := B.exec
  have hb := B.bytes
  have hr := B.returns
  have hts := atoms_spec (ws := (wsG yX12_keepers cX12_keepers 5 (some .int))) B.pre
  have hG : ∀ w ∈ GW, w.before ([.ref h0, .int a0, .int a1] : List Value).toArray s = true := fun w h => hts w (List.mem_cons_of_mem _ h)
  have hown : s.vm.findClass RX12 = some m.cls := findClass_of_methodNamed B.named
  have hlocks := B.notSynchronized
  have hl := lv_entry [.ref h0, .int a0, .int a1] (n := 5) (Nat.le_of_ble_eq_true rfl)
  rw [lg_entry_eq]
  generalize (lg_sl [.ref h0, .int a0, .int a1] ++ List.replicate (5 - (lg_sl [.ref h0, .int a0, .int a1]).length) Slot.unset).toArray = ls at hl ⊢
  have hl : lv_has ls 5 [(0, .ref h0), (1, .int a0), (2, .int a1)] := hl
  have hmk : mdK g Ty := mdk_of hH k_h0
  have hS : va_S (AF Ty s.heap.size) s.heap s.heap [] := va_S.rf
  obtain ⟨⟨σ0, hTS0⟩, h10, hBB0⟩ := id hI.ti
  obtain ⟨ρ, hT⟩ := hTS0.1
  have L_57 : ∀ (n : Nat) (H : Heap) (locs : List Loc) (G_57 : Gh) (fl5_57 : Nat → Int32) (y3_57 : Int32) (y4_57 : Int32) (ls : Array Slot), rgI (0) (32) (G_57.1 104) → FR [104, 105] [(g.2.2 124)] [] G G_57 → G_57.2.1 (g.2.2 124) = fl5_57 → rgI (0) (23) a0 → rgI (0) (23) a1 → rgI (0) (24) y4_57 → thr (G.2.1 (g.2.2 100)) a0 → (24 - (y4_57).toInt).toNat < n → lv_has ls 5 [(0, .ref h0), (1, .int a0), (2, .int a1), (3, .int y3_57), (4, .int y4_57)] → HT g Ty G_57 H → va_S (AF Ty s.heap.size) s.heap H locs → Wm p l e (wsG yX12_keepers cX12_keepers 5 (some .int)) ({ frames := 5, cells := 0, slots := 0, locals := 111 }) s m [.ref h0, .int a0, .int a1] below meth c H locs (0) (0) (QwI g Ty s.heap.size (fun r u => u.1 = Ty ∧ FR [104, 105] [(g.2.2 124)] [] G u.2 ∧ OI g (Bd + 1000) u.2)) 0 0 (AF Ty s.heap.size) (F0 m 57 ls []) := by
    intro n
    induction n with
    | zero => intro H locs G_57 fl5_57 y3_57 y4_57 ls rg104_57 frL_57 efl5_57 ry1_57 ry2_57 ry4_57 hi0_57 hm; exact absurd hm (Nat.not_lt_zero _)
    | succ n ih_57 =>
      intro H locs G_57 fl5_57 y3_57 y4_57 ls rg104_57 frL_57 efl5_57 ry1_57 ry2_57 ry4_57 hi0_57 hm_57 hl hH hS
      refine lv_iload hx hb dX12_keepers_57 (lv_at hl 4 rfl) ?_
      refine lv_bipush (v := 24) hx hb dX12_keepers_59 (by decide) ?_
      refine lv_icmp_ge (tgt := 145) hx hb dX12_keepers_61 (by decide) (fun c_1 => ?_) (fun c_1 => ?_)
      · have r_2 : rgI (24) (24) y4_57 := rg_w (rg_leR rl_24 ry4_57 c_1) (by decide) (by decide)
        refine lv_aload_n hx hb dX12_keepers_145 rfl (lv_at hl 0 rfl) ?_
        refine lv_iload_n hx hb dX12_keepers_146 rfl (lv_at hl 3 rfl) ?_
        obtain ⟨_, ⟨rfl, t_4, hk_5⟩, o_c_3⟩ := hH h0 _ k_h0
        refine va_calli (va_runV (As := [.int y3_57]) (rest := []) ⟨hx, hb, hml, hown, hts⟩ (c_X12_tellBits l g Ty G_57 H.size h0 y3_57 k_h0) (cwV 1 hts (gwV mw_1704 mw_1706 mw_67 mw_88 mw_1707) rfl rfl rfl hv_X12_tellBits ⟨Nat.le_of_ble_eq_true rfl, Nat.le_of_ble_eq_true rfl⟩) ⟨PcT_blind, hg_recv hK o_c_3 rfl, PcT_pre hK hH⟩ rfl rfl hl.1 rfl (lv_room (Nat.le_of_ble_eq_true rfl)) dX12_keepers_147 ⟨Nat.zero_le _, Nat.zero_le _⟩) hS (fun q _ h => AF.mono hS.1 h) (fun q h => AF.mono hS.1 h) (fun x_6 ux_6 t H locs ht hvm hx_6 hB hz hk hS => ?_)
        obtain ⟨eTx_6, eGx_6⟩ := hx_6
        obtain ⟨G_7, eG_7⟩ : ∃ z, z = ux_6.2 := ⟨_, rfl⟩
        rw [← eG_7] at eGx_6
        obtain ⟨hfr_8, hex_9⟩ := eGx_6
        have fr_10 : FR [104, 105] [(g.2.2 124)] [] G G_7 := FR.tr frL_57 hfr_8 (by decide) (fun _ _ => trivial) (by decide)
        have u_11 : G_7.1 102 = (G.1 102) := (hfr_8.1 102 (by decide)).trans (frL_57.1 102 (by decide))
        have u_12 : G_7.1 113 = (G.1 113) := (hfr_8.1 113 (by decide)).trans (frL_57.1 113 (by decide))
        have u_13 : G_7.1 122 = (G.1 122) := (hfr_8.1 122 (by decide)).trans (frL_57.1 122 (by decide))
        have u_14 : G_7.1 133 = (G.1 133) := (hfr_8.1 133 (by decide)).trans (frL_57.1 133 (by decide))
        have u_15 : G_7.1 137 = (G.1 137) := (hfr_8.1 137 (by decide)).trans (frL_57.1 137 (by decide))
        have w_16 : G_7.2.1 (g.2.2 100) = (G.2.1 (g.2.2 100)) := (hfr_8.2.1 (g.2.2 100) trivial).trans (frL_57.2.1 (g.2.2 100) ⟨(hLD 100 (by decide) 124 (by decide) (by decide)), trivial⟩)
        have w_17 : G_7.2.1 (g.2.2 121) = (G.2.1 (g.2.2 121)) := (hfr_8.2.1 (g.2.2 121) trivial).trans (frL_57.2.1 (g.2.2 121) ⟨(ne_kd hmk.2.2.2.2.2.1 hmk.2.2.2.2.2.2.2.1 (by decide)), trivial⟩)
        have w_18 : G_7.2.1 (g.2.2 140) = (G.2.1 (g.2.2 140)) := (hfr_8.2.1 (g.2.2 140) trivial).trans (frL_57.2.1 (g.2.2 140) ⟨(ne_kd hmk.2.2.2.2.2.2.2.2.2.2.2.2.2.2.2.2.2.2.1 hmk.2.2.2.2.2.2.2.1 (by decide)), trivial⟩)
        have w_19 : G_7.2.1 (g.2.2 141) = (G.2.1 (g.2.2 141)) := (hfr_8.2.1 (g.2.2 141) trivial).trans (frL_57.2.1 (g.2.2 141) ⟨(ne_kd hmk.2.2.2.2.2.2.2.2.2.2.2.2.2.2.2.2.2.2.2.1 hmk.2.2.2.2.2.2.2.1 (by decide)), trivial⟩)
        have w_20 : G_7.2.1 (g.2.2 111) = (G.2.1 (g.2.2 111)) := (hfr_8.2.1 (g.2.2 111) trivial).trans (frL_57.2.1 (g.2.2 111) ⟨(ne_kd hmk.2.2.2.2.2.2.2.2.2.2.2.2.2.2.2.2.2.2.2.2.1 hmk.2.2.2.2.2.2.2.1 (by decide)), trivial⟩)
        have w_21 : G_7.2.1 (g.2.2 124) = fl5_57 := (hfr_8.2.1 (g.2.2 124) trivial).trans efl5_57
        have u_22 : G_7.2.2 111 = some (g.2.2 111) := (hfr_8.2.2 111 (by decide)).trans ((frL_57.2.2 111 (by decide)).trans hI.r111)
        have u_23 : G_7.2.2 112 = some (g.2.2 112) := (hfr_8.2.2 112 (by decide)).trans ((frL_57.2.2 112 (by decide)).trans hI.r112)
        have t4_24 : rgI (1) (1) (G_7.1 104) := hex_9
        have hH : HT g Ty G_7 H := by rw [← ht, ← eTx_6, eG_7]; exact hB
        exact W.iret hx hb hr (fun t ht hWm => ⟨⟨x_6, (Ty, G_7), rfl, ⟨rfl, ⟨fr_10, ⟨(by rw [u_11]; exact (rg_w hI.a102 (by decide) (by decide))), (rg_w t4_24 (by decide) (by decide)), (by rw [u_12]; exact (rg_w hI.a113 (by decide) (by decide))), (by rw [u_13]; exact (rg_w hI.a122 (by decide) (by decide))), (by rw [u_14]; exact (rg_w hI.a133 (by decide) (by decide))), (by rw [u_15]; exact (rg_w hI.a137 (by decide) (by decide))), u_22, u_23, (by rw [w_16]; exact (hI.ti.hi (show Bd ≤ Bd + 1000 by omega))), (hI.un2 (show Bd ≤ Bd + 1000 by omega) w_17 u_13), (hI.ke2 (show Bd ≤ Bd + 1000 by omega) w_18 w_19)⟩⟩⟩, by show HT g Ty G_7 t.heap; rw [ht]; exact hH⟩, hS.F ht⟩) hS.2.2 dX12_keepers_150
      · have r_25 : rgI (0) (23) y4_57 := rg_w (rg_ltL ry4_57 rl_24 (nle_lt c_1)) (by decide) (by decide)
        refine lv_aload_n hx hb dX12_keepers_64 rfl (lv_at hl 0 rfl) ?_
        obtain ⟨_, ⟨rfl, t_27, hk_28⟩, o_c_26⟩ := hH h0 _ k_h0
        refine hg_get hx hb hG igX12 hown hK o_c_26 rfl 0 (by decide) (hG _ mw_1284) rfl dX12_keepers_65 ?_
        refine lv_iload hx hb dX12_keepers_68 (lv_at hl 4 rfl) ?_
        refine vp_callSi (W.runS (As := [.ref (g.2.2 100), .int y4_57]) (rest := []) ⟨hx, hb, hml, hown, hts⟩ (c_X12_isThere l g Ty G_57 (g.2.2 100) y4_57 (hk_28.1)) (cwSx 2 hts hG (gwC mw_1520) mw_88 mw_1518 mw_1519 rfl rfl rfl hd_X12_isThere ⟨Nat.le_of_ble_eq_true rfl, Nat.le_of_ble_eq_true rfl⟩) ⟨PcH_blind, PcH_pre hK hH⟩ rfl rfl hl.1 rfl (lv_room (Nat.le_of_ble_eq_true rfl)) dX12_keepers_70 ⟨Nat.zero_le _, Nat.zero_le _⟩) (fun x_29 hx_29 => ?_)
        have rx_29 : rgI (0) (1) x_29 := hx_29.1
        have ex_30 : x_29 = F_X12_isThere (G.2.1 (g.2.2 100)) y4_57 := by rw [← (frL_57.2.1 (g.2.2 100) ⟨(hLD 100 (by decide) 124 (by decide) (by decide)), trivial⟩)]; exact hx_29.2.2
        refine lv_if_eq (tgt := 139) hx hb dX12_keepers_73 (by decide) (fun c_31 => ?_) (fun c_31 => ?_)
        · have r_32 : rgI (0) (0) x_29 := rg_w (rg_eq rl_0 c_31) (by decide) (by decide)
          obtain ⟨x_33, ex_33⟩ : ∃ y : Int32, y = y4_57 + 1 := ⟨_, rfl⟩
          have rx_33 : rgI (1) (24) x_33 := by rw [ex_33]; exact rg_w (rg_add r_25 rl_1 (by decide) (by decide)) (by decide) (by decide)
          have qx_33 : x_33.toInt = (y4_57 : Int32).toInt + 1 := by rw [ex_33]; exact rg_addE r_25 rl_1 (by decide) (by decide)
          refine lv_iinc (v := x_33) (lv' := [(4, .int x_33), (0, .ref h0), (1, .int a0), (2, .int a1), (3, .int y3_57)]) hx hb dX12_keepers_139 hl (k := 4) rfl (by rw [ex_33]; rfl) (by decide) rfl (fun ls hl => ?_)
          refine lv_goto (tgt := 57) hx hb dX12_keepers_142 (by decide) ?_
          exact ih_57 H locs G_57 fl5_57 y3_57 x_33 ls (rg_w rg104_57 (by decide) (by decide)) frL_57 efl5_57 ry1_57 ry2_57 (rg_w rx_33 (by decide) (by decide)) hi0_57 (by have h1 := qx_33; have h2 := r_25.1; have h3 := r_25.2; have h4 := hm_57; omega) (lv_sub hl [1, 2, 3, 4, 0] rfl) hH hS
        · have th_34 : thr (G.2.1 (g.2.2 100)) y4_57 := F_isThere_thr (by rw [← ex_30]; exact c_31)
          have r_35 : rgI (1) (1) x_29 := rg_w (rg_neL rx_29 rl_0 c_31) (by decide) (by decide)
          refine lv_iload hx hb dX12_keepers_76 (lv_at hl 4 rfl) ?_
          refine lv_iload_n hx hb dX12_keepers_78 rfl (lv_at hl 1 rfl) ?_
          refine lv_icmp_eq (tgt := 139) hx hb dX12_keepers_79 (by decide) (fun c_36 => ?_) (fun c_36 => ?_)
          · obtain ⟨x_37, ex_37⟩ : ∃ y : Int32, y = y4_57 + 1 := ⟨_, rfl⟩
            have rx_37 : rgI (1) (24) x_37 := by rw [ex_37]; exact rg_w (rg_add r_25 rl_1 (by decide) (by decide)) (by decide) (by decide)
            have qx_37 : x_37.toInt = (y4_57 : Int32).toInt + 1 := by rw [ex_37]; exact rg_addE r_25 rl_1 (by decide) (by decide)
            refine lv_iinc (v := x_37) (lv' := [(4, .int x_37), (0, .ref h0), (1, .int a0), (2, .int a1), (3, .int y3_57)]) hx hb dX12_keepers_139 hl (k := 4) rfl (by rw [ex_37]; rfl) (by decide) rfl (fun ls hl => ?_)
            refine lv_goto (tgt := 57) hx hb dX12_keepers_142 (by decide) ?_
            exact ih_57 H locs G_57 fl5_57 y3_57 x_37 ls (rg_w rg104_57 (by decide) (by decide)) frL_57 efl5_57 ry1_57 ry2_57 (rg_w rx_37 (by decide) (by decide)) hi0_57 (by have h1 := qx_37; have h2 := r_25.1; have h3 := r_25.2; have h4 := hm_57; omega) (lv_sub hl [1, 2, 3, 4, 0] rfl) hH hS
          · refine lv_iload hx hb dX12_keepers_82 (lv_at hl 4 rfl) ?_
            refine lv_iload_n hx hb dX12_keepers_84 rfl (lv_at hl 2 rfl) ?_
            refine lv_icmp_ne (tgt := 91) hx hb dX12_keepers_85 (by decide) (fun c_38 => ?_) (fun c_38 => ?_)
            · refine lv_aload_n hx hb dX12_keepers_91 rfl (lv_at hl 0 rfl) ?_
              refine hg_get hx hb hG igX12 hown hK o_c_26 rfl 0 (by decide) (hG _ mw_1284) rfl dX12_keepers_92 ?_
              refine lv_aload_n hx hb dX12_keepers_95 rfl (lv_at hl 0 rfl) ?_
              refine hg_get hx hb hG igX12 hown hK o_c_26 rfl 24 (by decide) (hG _ mw_1308) rfl dX12_keepers_96 ?_
              refine lv_iconst (v := 0) hx hb dX12_keepers_99 (by decide) ?_
              refine va_callv (va_runS (As := [.ref (g.2.2 100), .ref (g.2.2 124), .int 0]) (rest := []) ⟨hx, hb, hml, hown, hts⟩ (c_X12_lay_a l g Ty G_57 H.size (g.2.2 100) (g.2.2 124) 0 (hk_28.1) (hk_28.2.2.2.2.2.2.2.1) (rg_w rl_0 (by decide) (by decide)) (hLD 100 (by decide) 124 (by decide) (by decide))) (cwSx 3 hts hG (gwC mw_1583) mw_88 mw_1581 mw_1582 rfl rfl rfl hd_X12_lay ⟨Nat.le_of_ble_eq_true rfl, Nat.le_of_ble_eq_true rfl⟩) ⟨PcT_blind, PcT_pre hK hH⟩ rfl rfl hl.1 rfl (lv_room (Nat.le_of_ble_eq_true rfl)) dX12_keepers_100 ⟨Nat.zero_le _, Nat.zero_le _⟩) hS (fun q _ h => AF.mono hS.1 h) (fun q h => AF.mono hS.1 h) (fun ux_39 t H locs ht hvm hx_39 hB hz hk hS => ?_)
              obtain ⟨eTx_39, eGx_39⟩ := hx_39
              obtain ⟨G_40, eG_40⟩ : ∃ z, z = ux_39.2 := ⟨_, rfl⟩
              rw [← eG_40] at eGx_39
              obtain ⟨hfr_41, hex_42⟩ := eGx_39
              have fr_43 : FR [104, 105] [(g.2.2 124)] [] G G_40 := FR.tr frL_57 hfr_41 (by decide) (fun b h => ⟨h.1, trivial⟩) (by decide)
              have u_44 : G_40.1 104 = (G_57.1 104) := (hfr_41.1 104 (by decide))
              have u_45 : G_40.1 102 = (G.1 102) := (hfr_41.1 102 (by decide)).trans (frL_57.1 102 (by decide))
              have u_46 : G_40.1 113 = (G.1 113) := (hfr_41.1 113 (by decide)).trans (frL_57.1 113 (by decide))
              have u_47 : G_40.1 122 = (G.1 122) := (hfr_41.1 122 (by decide)).trans (frL_57.1 122 (by decide))
              have u_48 : G_40.1 133 = (G.1 133) := (hfr_41.1 133 (by decide)).trans (frL_57.1 133 (by decide))
              have u_49 : G_40.1 137 = (G.1 137) := (hfr_41.1 137 (by decide)).trans (frL_57.1 137 (by decide))
              have w_50 : G_40.2.1 (g.2.2 100) = (G.2.1 (g.2.2 100)) := (hfr_41.2.1 (g.2.2 100) ⟨(hLD 100 (by decide) 124 (by decide) (by decide)), trivial⟩).trans (frL_57.2.1 (g.2.2 100) ⟨(hLD 100 (by decide) 124 (by decide) (by decide)), trivial⟩)
              have w_51 : G_40.2.1 (g.2.2 121) = (G.2.1 (g.2.2 121)) := (hfr_41.2.1 (g.2.2 121) ⟨(ne_kd hmk.2.2.2.2.2.1 hmk.2.2.2.2.2.2.2.1 (by decide)), trivial⟩).trans (frL_57.2.1 (g.2.2 121) ⟨(ne_kd hmk.2.2.2.2.2.1 hmk.2.2.2.2.2.2.2.1 (by decide)), trivial⟩)
              have w_52 : G_40.2.1 (g.2.2 140) = (G.2.1 (g.2.2 140)) := (hfr_41.2.1 (g.2.2 140) ⟨(ne_kd hmk.2.2.2.2.2.2.2.2.2.2.2.2.2.2.2.2.2.2.1 hmk.2.2.2.2.2.2.2.1 (by decide)), trivial⟩).trans (frL_57.2.1 (g.2.2 140) ⟨(ne_kd hmk.2.2.2.2.2.2.2.2.2.2.2.2.2.2.2.2.2.2.1 hmk.2.2.2.2.2.2.2.1 (by decide)), trivial⟩)
              have w_53 : G_40.2.1 (g.2.2 141) = (G.2.1 (g.2.2 141)) := (hfr_41.2.1 (g.2.2 141) ⟨(ne_kd hmk.2.2.2.2.2.2.2.2.2.2.2.2.2.2.2.2.2.2.2.1 hmk.2.2.2.2.2.2.2.1 (by decide)), trivial⟩).trans (frL_57.2.1 (g.2.2 141) ⟨(ne_kd hmk.2.2.2.2.2.2.2.2.2.2.2.2.2.2.2.2.2.2.2.1 hmk.2.2.2.2.2.2.2.1 (by decide)), trivial⟩)
              have w_54 : G_40.2.1 (g.2.2 111) = (G.2.1 (g.2.2 111)) := (hfr_41.2.1 (g.2.2 111) ⟨(ne_kd hmk.2.2.2.2.2.2.2.2.2.2.2.2.2.2.2.2.2.2.2.2.1 hmk.2.2.2.2.2.2.2.1 (by decide)), trivial⟩).trans (frL_57.2.1 (g.2.2 111) ⟨(ne_kd hmk.2.2.2.2.2.2.2.2.2.2.2.2.2.2.2.2.2.2.2.2.1 hmk.2.2.2.2.2.2.2.1 (by decide)), trivial⟩)
              have u_55 : G_40.2.2 111 = some (g.2.2 111) := (hfr_41.2.2 111 (by decide)).trans ((frL_57.2.2 111 (by decide)).trans hI.r111)
              have u_56 : G_40.2.2 112 = some (g.2.2 112) := (hfr_41.2.2 112 (by decide)).trans ((frL_57.2.2 112 (by decide)).trans hI.r112)
              obtain ⟨f_57, ef_57⟩ : ∃ z : Nat → Int32, G_40.2.1 (g.2.2 124) = z := ⟨_, rfl⟩
              have ly_58 := hex_42
              rw [ef_57, (frL_57.2.1 (g.2.2 100) ⟨(hLD 100 (by decide) 124 (by decide) (by decide)), trivial⟩), efl5_57] at ly_58
              have hH : HT g Ty G_40 H := by rw [← ht, ← eTx_39, eG_40]; exact hB
              have sr_59 : SR (G.2.1 (g.2.2 100)) f_57 := LY_sr ly_58
              refine lv_aload_n hx hb dX12_keepers_103 rfl (lv_at hl 0 rfl) ?_
              obtain ⟨_, ⟨rfl, t_61, hk_62⟩, o_c_60⟩ := hH h0 _ k_h0
              refine hg_get hx hb hG igX12 hown hK o_c_60 rfl 24 (by decide) (hG _ mw_1308) rfl dX12_keepers_104 ?_
              refine lv_iload hx hb dX12_keepers_107 (lv_at hl 4 rfl) ?_
              refine lv_iconst (v := 0) hx hb dX12_keepers_109 (by decide) ?_
              refine va_callv (va_runS (As := [.ref (g.2.2 124), .int y4_57, .int 0]) (rest := []) ⟨hx, hb, hml, hown, hts⟩ (c_X12_goMake l g Ty G_40 H.size (g.2.2 124) y4_57 0 (hk_62.2.2.2.2.2.2.2.1) (rg_w r_25 (by decide) (by decide))) (cwSx 3 hts hG (gwC mw_1645) mw_88 mw_1643 mw_1644 rfl rfl rfl hd_X12_goMake ⟨Nat.le_of_ble_eq_true rfl, Nat.le_of_ble_eq_true rfl⟩) ⟨PcT_blind, PcT_pre hK hH⟩ rfl rfl hl.1 rfl (lv_room (Nat.le_of_ble_eq_true rfl)) dX12_keepers_110 ⟨Nat.zero_le _, Nat.zero_le _⟩) hS (fun q _ h => AF.mono hS.1 h) (fun q h => AF.mono hS.1 h) (fun ux_63 t H locs ht hvm hx_63 hB hz hk hS => ?_)
              obtain ⟨eTx_63, eGx_63⟩ := hx_63
              obtain ⟨G_64, eG_64⟩ : ∃ z, z = ux_63.2 := ⟨_, rfl⟩
              rw [← eG_64] at eGx_63
              have hg_66 := eGx_63
              rw [ef_57] at hg_66
              obtain ⟨f_65, ef_65⟩ : ∃ z : Nat → Int32, z = F_X12_goMake f_57 y4_57 0 := ⟨_, rfl⟩
              rw [← ef_65] at hg_66
              have fr_67 : FR [104, 105] [(g.2.2 124)] [] G G_64 := FR.a fr_43 hg_66 (fun b h => h.1)
              have u_68 : G_64.1 104 = (G_57.1 104) := by rw [hg_66]; exact u_44
              have u_69 : G_64.1 102 = (G.1 102) := by rw [hg_66]; exact u_45
              have u_70 : G_64.1 113 = (G.1 113) := by rw [hg_66]; exact u_46
              have u_71 : G_64.1 122 = (G.1 122) := by rw [hg_66]; exact u_47
              have u_72 : G_64.1 133 = (G.1 133) := by rw [hg_66]; exact u_48
              have u_73 : G_64.1 137 = (G.1 137) := by rw [hg_66]; exact u_49
              have w_74 : G_64.2.1 (g.2.2 100) = (G.2.1 (g.2.2 100)) := by rw [hg_66]; exact (aset_ne (hLD 100 (by decide) 124 (by decide) (by decide))).trans w_50
              have w_75 : G_64.2.1 (g.2.2 121) = (G.2.1 (g.2.2 121)) := by rw [hg_66]; exact (aset_ne (ne_kd hmk.2.2.2.2.2.1 hmk.2.2.2.2.2.2.2.1 (by decide))).trans w_51
              have w_76 : G_64.2.1 (g.2.2 140) = (G.2.1 (g.2.2 140)) := by rw [hg_66]; exact (aset_ne (ne_kd hmk.2.2.2.2.2.2.2.2.2.2.2.2.2.2.2.2.2.2.1 hmk.2.2.2.2.2.2.2.1 (by decide))).trans w_52
              have w_77 : G_64.2.1 (g.2.2 141) = (G.2.1 (g.2.2 141)) := by rw [hg_66]; exact (aset_ne (ne_kd hmk.2.2.2.2.2.2.2.2.2.2.2.2.2.2.2.2.2.2.2.1 hmk.2.2.2.2.2.2.2.1 (by decide))).trans w_53
              have w_78 : G_64.2.1 (g.2.2 111) = (G.2.1 (g.2.2 111)) := by rw [hg_66]; exact (aset_ne (ne_kd hmk.2.2.2.2.2.2.2.2.2.2.2.2.2.2.2.2.2.2.2.2.1 hmk.2.2.2.2.2.2.2.1 (by decide))).trans w_54
              have w_79 : G_64.2.1 (g.2.2 124) = f_65 := by rw [hg_66]; exact aset_eq
              have u_80 : G_64.2.2 111 = some (g.2.2 111) := by rw [hg_66]; exact u_55
              have u_81 : G_64.2.2 112 = some (g.2.2 112) := by rw [hg_66]; exact u_56
              have hH : HT g Ty G_64 H := by rw [← ht, ← eTx_63, eG_64]; exact hB
              have th_82 : thr f_65 a0 := by rw [ef_65]; exact (TI_make (SR_ti sr_59 hI.ti) (Int.le_trans hBd (by decide)) (sr_59.thr th_34)).2.thr (sr_59.thr hi0_57)
              refine lv_iload_n hx hb dX12_keepers_113 rfl (lv_at hl 3 rfl) ?_
              refine lv_aload_n hx hb dX12_keepers_114 rfl (lv_at hl 0 rfl) ?_
              obtain ⟨_, ⟨rfl, t_84, hk_85⟩, o_c_83⟩ := hH h0 _ k_h0
              refine hg_get hx hb hG igX12 hown hK o_c_83 rfl 24 (by decide) (hG _ mw_1308) rfl dX12_keepers_115 ?_
              refine lv_iload_n hx hb dX12_keepers_118 rfl (lv_at hl 1 rfl) ?_
              refine vp_callSi (W.runS (As := [.ref (g.2.2 124), .int a0]) (rest := [.int y3_57]) ⟨hx, hb, hml, hown, hts⟩ (c_X12_spreadOf l g Ty G_64 (g.2.2 124) a0 (hk_85.2.2.2.2.2.2.2.1) (by rw [w_79]; exact th_82)) (cwSx 2 hts hG (gwC mw_1560) mw_88 mw_1558 mw_1559 rfl rfl rfl hd_X12_spreadOf ⟨Nat.le_of_ble_eq_true rfl, Nat.le_of_ble_eq_true rfl⟩) ⟨PcH_blind, PcH_pre hK hH⟩ rfl rfl hl.1 rfl (lv_room (Nat.le_of_ble_eq_true rfl)) dX12_keepers_119 ⟨Nat.zero_le _, Nat.zero_le _⟩) (fun x_86 hx_86 => ?_)
              have ex_87 : x_86 = F_X12_spreadOf f_65 a0 := by rw [← w_79]; exact hx_86.2
              have tx_88 := hx_86.1
              try rw [w_79] at tx_88
              try rw [w_78] at tx_88
              try rw [u_70] at tx_88
              try rw [w_74] at tx_88
              refine lv_iload_n hx hb dX12_keepers_122 rfl (lv_at hl 2 rfl) ?_
              refine vp_callSi (W.runS (As := [.int x_86, .int a1]) (rest := [.int y3_57]) ⟨hx, hb, hml, hown, hts⟩ (c_X12_has l g Ty G_64 x_86 a1 ) (cwSx 2 hts hG (gwC mw_1563) mw_88 mw_1561 mw_1562 rfl rfl rfl hd_X12_has ⟨Nat.le_of_ble_eq_true rfl, Nat.le_of_ble_eq_true rfl⟩) ⟨PcH_blind, PcH_pre hK hH⟩ rfl rfl hl.1 rfl (lv_room (Nat.le_of_ble_eq_true rfl)) dX12_keepers_123 ⟨Nat.zero_le _, Nat.zero_le _⟩) (fun x_89 hx_89 => ?_)
              have rx_89 : rgI (0) (1) x_89 := hx_89.1
              refine lv_if_eq (tgt := 133) hx hb dX12_keepers_126 (by decide) (fun c_90 => ?_) (fun c_90 => ?_)
              · have r_91 : rgI (0) (0) x_89 := rg_w (rg_eq rl_0 c_90) (by decide) (by decide)
                have hb_92 : bt x_86 (a1 : Int32).toNatClampNeg = false := has_0 (rg_w ry2_57 (by decide) (by decide)) (by rw [← hx_89.2]; exact c_90)
                refine lv_iconst (v := 1) hx hb dX12_keepers_133 (by decide) ?_
                refine lv_iload hx hb dX12_keepers_134 (lv_at hl 4 rfl) ?_
                refine lv_ishl hx hb dX12_keepers_136 ?_
                refine lv_topi (fun x_93 ex_93 => ?_)
                refine lv_ior hx hb dX12_keepers_137 ?_
                refine lv_topi (fun x_94 ex_94 => ?_)
                refine lv_istore_n (lv' := [(3, .int x_94), (0, .ref h0), (1, .int a0), (2, .int a1), (4, .int y4_57)]) hx hb dX12_keepers_138 rfl hl (by decide) rfl (fun ls hl => ?_)
                obtain ⟨x_95, ex_95⟩ : ∃ y : Int32, y = y4_57 + 1 := ⟨_, rfl⟩
                have rx_95 : rgI (1) (24) x_95 := by rw [ex_95]; exact rg_w (rg_add r_25 rl_1 (by decide) (by decide)) (by decide) (by decide)
                have qx_95 : x_95.toInt = (y4_57 : Int32).toInt + 1 := by rw [ex_95]; exact rg_addE r_25 rl_1 (by decide) (by decide)
                refine lv_iinc (v := x_95) (lv' := [(4, .int x_95), (3, .int x_94), (0, .ref h0), (1, .int a0), (2, .int a1)]) hx hb dX12_keepers_139 hl (k := 4) rfl (by rw [ex_95]; rfl) (by decide) rfl (fun ls hl => ?_)
                refine lv_goto (tgt := 57) hx hb dX12_keepers_142 (by decide) ?_
                exact ih_57 H locs G_64 f_65 x_94 x_95 ls (by rw [u_68]; exact rg_w rg104_57 (by decide) (by decide)) fr_67 w_79 ry1_57 ry2_57 (rg_w rx_95 (by decide) (by decide)) hi0_57 (by have h1 := qx_95; have h2 := r_25.1; have h3 := r_25.2; have h4 := hm_57; omega) (lv_sub hl [2, 3, 4, 1, 0] rfl) hH hS
              · have r_96 : rgI (1) (1) x_89 := rg_w (rg_neL rx_89 rl_0 c_90) (by decide) (by decide)
                have hb_97 : bt x_86 (a1 : Int32).toNatClampNeg = true := has_1 (rg_w ry2_57 (by decide) (by decide)) (by rw [← hx_89.2]; exact c_90)
                refine lv_iconst (v := 0) hx hb dX12_keepers_129 (by decide) ?_
                refine lv_goto (tgt := 137) hx hb dX12_keepers_130 (by decide) ?_
                refine lv_ior hx hb dX12_keepers_137 ?_
                refine lv_topi (fun x_98 ex_98 => ?_)
                refine lv_istore_n (lv' := [(3, .int x_98), (0, .ref h0), (1, .int a0), (2, .int a1), (4, .int y4_57)]) hx hb dX12_keepers_138 rfl hl (by decide) rfl (fun ls hl => ?_)
                obtain ⟨x_99, ex_99⟩ : ∃ y : Int32, y = y4_57 + 1 := ⟨_, rfl⟩
                have rx_99 : rgI (1) (24) x_99 := by rw [ex_99]; exact rg_w (rg_add r_25 rl_1 (by decide) (by decide)) (by decide) (by decide)
                have qx_99 : x_99.toInt = (y4_57 : Int32).toInt + 1 := by rw [ex_99]; exact rg_addE r_25 rl_1 (by decide) (by decide)
                refine lv_iinc (v := x_99) (lv' := [(4, .int x_99), (3, .int x_98), (0, .ref h0), (1, .int a0), (2, .int a1)]) hx hb dX12_keepers_139 hl (k := 4) rfl (by rw [ex_99]; rfl) (by decide) rfl (fun ls hl => ?_)
                refine lv_goto (tgt := 57) hx hb dX12_keepers_142 (by decide) ?_
                exact ih_57 H locs G_64 f_65 x_98 x_99 ls (by rw [u_68]; exact rg_w rg104_57 (by decide) (by decide)) fr_67 w_79 ry1_57 ry2_57 (rg_w rx_99 (by decide) (by decide)) hi0_57 (by have h1 := qx_99; have h2 := r_25.1; have h3 := r_25.2; have h4 := hm_57; omega) (lv_sub hl [2, 3, 4, 1, 0] rfl) hH hS
            · refine lv_goto (tgt := 139) hx hb dX12_keepers_88 (by decide) ?_
              obtain ⟨x_100, ex_100⟩ : ∃ y : Int32, y = y4_57 + 1 := ⟨_, rfl⟩
              have rx_100 : rgI (1) (24) x_100 := by rw [ex_100]; exact rg_w (rg_add r_25 rl_1 (by decide) (by decide)) (by decide) (by decide)
              have qx_100 : x_100.toInt = (y4_57 : Int32).toInt + 1 := by rw [ex_100]; exact rg_addE r_25 rl_1 (by decide) (by decide)
              refine lv_iinc (v := x_100) (lv' := [(4, .int x_100), (0, .ref h0), (1, .int a0), (2, .int a1), (3, .int y3_57)]) hx hb dX12_keepers_139 hl (k := 4) rfl (by rw [ex_100]; rfl) (by decide) rfl (fun ls hl => ?_)
              refine lv_goto (tgt := 57) hx hb dX12_keepers_142 (by decide) ?_
              exact ih_57 H locs G_57 fl5_57 y3_57 x_100 ls (rg_w rg104_57 (by decide) (by decide)) frL_57 efl5_57 ry1_57 ry2_57 (rg_w rx_100 (by decide) (by decide)) hi0_57 (by have h1 := qx_100; have h2 := r_25.1; have h3 := r_25.2; have h4 := hm_57; omega) (lv_sub hl [1, 2, 3, 4, 0] rfl) hH hS
  refine lv_aload_n hx hb dX12_keepers_0 rfl (lv_at hl 0 rfl) ?_
  refine lv_iconst (v := 0) hx hb dX12_keepers_1 (by decide) ?_
  obtain ⟨_, ⟨rfl, t_102, hk_103⟩, o_c_101⟩ := hH h0 _ k_h0
  refine hg_put (ty := .int) hx hb hG igX12 tyX12 tyX12_ok nmX12 hown hK hS o_c_101 (AF.of k_h0) rfl 5 (by decide) (hG _ mw_1289) rfl (by decide +kernel) rfl rfl (Nat.le_of_ble_eq_true rfl) dX12_keepers_2 (fun H locs o_c_101 hz oq hS => ?_)
  obtain ⟨G_104, eG_104⟩ : ∃ z : Gh, z = gset G 105 0 := ⟨_, rfl⟩
  have hH : HT g Ty G_104 H := by rw [eG_104]; exact HT.putN 105 0 hH k_h0 ⟨rfl, t_102, hk_103⟩ o_c_101 oq (Or.inr (Or.inr (Or.inr (Or.inr (Or.inr ⟨by decide, t_102⟩)))))
  have fr_105 : FR [104, 105] [(g.2.2 124)] [] G G_104 := FR.n FR.rf eG_104 (by decide)
  have u_106 : G_104.1 102 = (G.1 102) := by rw [eG_104]; exact (gs_ne (by decide))
  have u_107 : G_104.1 104 = (G.1 104) := by rw [eG_104]; exact (gs_ne (by decide))
  have u_108 : G_104.1 113 = (G.1 113) := by rw [eG_104]; exact (gs_ne (by decide))
  have u_109 : G_104.1 122 = (G.1 122) := by rw [eG_104]; exact (gs_ne (by decide))
  have u_110 : G_104.1 133 = (G.1 133) := by rw [eG_104]; exact (gs_ne (by decide))
  have u_111 : G_104.1 137 = (G.1 137) := by rw [eG_104]; exact (gs_ne (by decide))
  have u_112 : G_104.1 105 = 0 := by rw [eG_104]; exact gs_eq
  have w_113 : G_104.2.1 (g.2.2 100) = (G.2.1 (g.2.2 100)) := by rw [eG_104]; exact rfl
  have w_114 : G_104.2.1 (g.2.2 121) = (G.2.1 (g.2.2 121)) := by rw [eG_104]; exact rfl
  have w_115 : G_104.2.1 (g.2.2 140) = (G.2.1 (g.2.2 140)) := by rw [eG_104]; exact rfl
  have w_116 : G_104.2.1 (g.2.2 141) = (G.2.1 (g.2.2 141)) := by rw [eG_104]; exact rfl
  have w_117 : G_104.2.1 (g.2.2 111) = (G.2.1 (g.2.2 111)) := by rw [eG_104]; exact rfl
  have w_118 : G_104.2.1 (g.2.2 124) = (G.2.1 (g.2.2 124)) := by rw [eG_104]; exact rfl
  have u_119 : G_104.2.2 111 = some (g.2.2 111) := by rw [eG_104]; exact hI.r111
  have u_120 : G_104.2.2 112 = some (g.2.2 112) := by rw [eG_104]; exact hI.r112
  clear oq hz
  refine lv_aload_n hx hb dX12_keepers_5 rfl (lv_at hl 0 rfl) ?_
  obtain ⟨_, ⟨rfl, t_122, hk_123⟩, o_c_121⟩ := hH h0 _ k_h0
  refine hg_get hx hb hG igX12 hown hK o_c_121 rfl 0 (by decide) (hG _ mw_1284) rfl dX12_keepers_6 ?_
  refine lv_iload_n hx hb dX12_keepers_9 rfl (lv_at hl 1 rfl) ?_
  refine vp_callSi (W.runS (As := [.ref (g.2.2 100), .int a0]) (rest := []) ⟨hx, hb, hml, hown, hts⟩ (c_X12_isThere l g Ty G_104 (g.2.2 100) a0 (hk_123.1)) (cwSx 2 hts hG (gwC mw_1520) mw_88 mw_1518 mw_1519 rfl rfl rfl hd_X12_isThere ⟨Nat.le_of_ble_eq_true rfl, Nat.le_of_ble_eq_true rfl⟩) ⟨PcH_blind, PcH_pre hK hH⟩ rfl rfl hl.1 rfl (lv_room (Nat.le_of_ble_eq_true rfl)) dX12_keepers_10 ⟨Nat.zero_le _, Nat.zero_le _⟩) (fun x_124 hx_124 => ?_)
  have rx_124 : rgI (0) (1) x_124 := hx_124.1
  have ex_125 : x_124 = F_X12_isThere (G.2.1 (g.2.2 100)) a0 := by rw [← w_113]; exact hx_124.2.2
  refine lv_if_eq (tgt := 27) hx hb dX12_keepers_13 (by decide) (fun c_126 => ?_) (fun c_126 => ?_)
  · have r_127 : rgI (0) (0) x_124 := rg_w (rg_eq rl_0 c_126) (by decide) (by decide)
    refine lv_iconst (v := (-1)) hx hb dX12_keepers_27 (by decide) ?_
    exact W.iret hx hb hr (fun t ht hWm => ⟨⟨(-1), (Ty, G_104), rfl, ⟨rfl, ⟨fr_105, ⟨(by rw [u_106]; exact (rg_w hI.a102 (by decide) (by decide))), (by rw [u_107]; exact (rg_w hI.a104 (by decide) (by decide))), (by rw [u_108]; exact (rg_w hI.a113 (by decide) (by decide))), (by rw [u_109]; exact (rg_w hI.a122 (by decide) (by decide))), (by rw [u_110]; exact (rg_w hI.a133 (by decide) (by decide))), (by rw [u_111]; exact (rg_w hI.a137 (by decide) (by decide))), u_119, u_120, (by rw [w_113]; exact (hI.ti.hi (show Bd ≤ Bd + 1000 by omega))), (hI.un2 (show Bd ≤ Bd + 1000 by omega) w_114 u_109), (hI.ke2 (show Bd ≤ Bd + 1000 by omega) w_115 w_116)⟩⟩⟩, by show HT g Ty G_104 t.heap; rw [ht]; exact hH⟩, hS.F ht⟩) hS.2.2 dX12_keepers_28
  · have th_128 : thr (G.2.1 (g.2.2 100)) a0 := F_isThere_thr (by rw [← ex_125]; exact c_126)
    have r_129 : rgI (1) (1) x_124 := rg_w (rg_neL rx_124 rl_0 c_126) (by decide) (by decide)
    have r_130 : rgI (0) (23) a0 := rg_w (hx_124.2.1.resolve_left c_126) (by decide) (by decide)
    refine lv_aload_n hx hb dX12_keepers_16 rfl (lv_at hl 0 rfl) ?_
    refine hg_get hx hb hG igX12 hown hK o_c_121 rfl 0 (by decide) (hG _ mw_1284) rfl dX12_keepers_17 ?_
    refine lv_iload_n hx hb dX12_keepers_20 rfl (lv_at hl 2 rfl) ?_
    refine vp_callSi (W.runS (As := [.ref (g.2.2 100), .int a1]) (rest := []) ⟨hx, hb, hml, hown, hts⟩ (c_X12_isThere l g Ty G_104 (g.2.2 100) a1 (hk_123.1)) (cwSx 2 hts hG (gwC mw_1520) mw_88 mw_1518 mw_1519 rfl rfl rfl hd_X12_isThere ⟨Nat.le_of_ble_eq_true rfl, Nat.le_of_ble_eq_true rfl⟩) ⟨PcH_blind, PcH_pre hK hH⟩ rfl rfl hl.1 rfl (lv_room (Nat.le_of_ble_eq_true rfl)) dX12_keepers_21 ⟨Nat.zero_le _, Nat.zero_le _⟩) (fun x_131 hx_131 => ?_)
    have rx_131 : rgI (0) (1) x_131 := hx_131.1
    have ex_132 : x_131 = F_X12_isThere (G.2.1 (g.2.2 100)) a1 := by rw [← w_113]; exact hx_131.2.2
    refine lv_if_ne (tgt := 29) hx hb dX12_keepers_24 (by decide) (fun c_133 => ?_) (fun c_133 => ?_)
    · have th_134 : thr (G.2.1 (g.2.2 100)) a1 := F_isThere_thr (by rw [← ex_132]; exact c_133)
      have r_135 : rgI (1) (1) x_131 := rg_w (rg_neL rx_131 rl_0 c_133) (by decide) (by decide)
      have r_136 : rgI (0) (23) a1 := rg_w (hx_131.2.1.resolve_left c_133) (by decide) (by decide)
      refine lv_iload_n hx hb dX12_keepers_29 rfl (lv_at hl 1 rfl) ?_
      refine lv_iload_n hx hb dX12_keepers_30 rfl (lv_at hl 2 rfl) ?_
      refine lv_icmp_eq (tgt := 49) hx hb dX12_keepers_31 (by decide) (fun c_137 => ?_) (fun c_137 => ?_)
      · refine lv_bipush (v := (-2)) hx hb dX12_keepers_49 (by decide) ?_
        exact W.iret hx hb hr (fun t ht hWm => ⟨⟨(-2), (Ty, G_104), rfl, ⟨rfl, ⟨fr_105, ⟨(by rw [u_106]; exact (rg_w hI.a102 (by decide) (by decide))), (by rw [u_107]; exact (rg_w hI.a104 (by decide) (by decide))), (by rw [u_108]; exact (rg_w hI.a113 (by decide) (by decide))), (by rw [u_109]; exact (rg_w hI.a122 (by decide) (by decide))), (by rw [u_110]; exact (rg_w hI.a133 (by decide) (by decide))), (by rw [u_111]; exact (rg_w hI.a137 (by decide) (by decide))), u_119, u_120, (by rw [w_113]; exact (hI.ti.hi (show Bd ≤ Bd + 1000 by omega))), (hI.un2 (show Bd ≤ Bd + 1000 by omega) w_114 u_109), (hI.ke2 (show Bd ≤ Bd + 1000 by omega) w_115 w_116)⟩⟩⟩, by show HT g Ty G_104 t.heap; rw [ht]; exact hH⟩, hS.F ht⟩) hS.2.2 dX12_keepers_51
      · refine lv_aload_n hx hb dX12_keepers_34 rfl (lv_at hl 0 rfl) ?_
        refine hg_get hx hb hG igX12 hown hK o_c_121 rfl 0 (by decide) (hG _ mw_1284) rfl dX12_keepers_35 ?_
        refine lv_iload_n hx hb dX12_keepers_38 rfl (lv_at hl 1 rfl) ?_
        refine vp_callSi (W.runS (As := [.ref (g.2.2 100), .int a0]) (rest := []) ⟨hx, hb, hml, hown, hts⟩ (c_X12_spreadOf l g Ty G_104 (g.2.2 100) a0 (hk_123.1) (by rw [w_113]; exact th_128)) (cwSx 2 hts hG (gwC mw_1560) mw_88 mw_1558 mw_1559 rfl rfl rfl hd_X12_spreadOf ⟨Nat.le_of_ble_eq_true rfl, Nat.le_of_ble_eq_true rfl⟩) ⟨PcH_blind, PcH_pre hK hH⟩ rfl rfl hl.1 rfl (lv_room (Nat.le_of_ble_eq_true rfl)) dX12_keepers_39 ⟨Nat.zero_le _, Nat.zero_le _⟩) (fun x_138 hx_138 => ?_)
        have ex_139 : x_138 = F_X12_spreadOf (G.2.1 (g.2.2 100)) a0 := by rw [← w_113]; exact hx_138.2
        have tx_140 := hx_138.1
        try rw [w_113] at tx_140
        try rw [w_117] at tx_140
        try rw [u_108] at tx_140
        refine lv_iload_n hx hb dX12_keepers_42 rfl (lv_at hl 2 rfl) ?_
        refine vp_callSi (W.runS (As := [.int x_138, .int a1]) (rest := []) ⟨hx, hb, hml, hown, hts⟩ (c_X12_has l g Ty G_104 x_138 a1 ) (cwSx 2 hts hG (gwC mw_1563) mw_88 mw_1561 mw_1562 rfl rfl rfl hd_X12_has ⟨Nat.le_of_ble_eq_true rfl, Nat.le_of_ble_eq_true rfl⟩) ⟨PcH_blind, PcH_pre hK hH⟩ rfl rfl hl.1 rfl (lv_room (Nat.le_of_ble_eq_true rfl)) dX12_keepers_43 ⟨Nat.zero_le _, Nat.zero_le _⟩) (fun x_141 hx_141 => ?_)
        have rx_141 : rgI (0) (1) x_141 := hx_141.1
        refine lv_if_ne (tgt := 52) hx hb dX12_keepers_46 (by decide) (fun c_142 => ?_) (fun c_142 => ?_)
        · have r_143 : rgI (1) (1) x_141 := rg_w (rg_neL rx_141 rl_0 c_142) (by decide) (by decide)
          have hb_144 : bt x_138 (a1 : Int32).toNatClampNeg = true := has_1 (rg_w r_136 (by decide) (by decide)) (by rw [← hx_141.2]; exact c_142)
          refine lv_iconst (v := 0) hx hb dX12_keepers_52 (by decide) ?_
          refine lv_istore_n (lv' := [(3, .int 0), (0, .ref h0), (1, .int a0), (2, .int a1)]) hx hb dX12_keepers_53 rfl hl (by decide) rfl (fun ls hl => ?_)
          refine lv_iconst (v := 0) hx hb dX12_keepers_54 (by decide) ?_
          refine lv_istore (lv' := [(4, .int 0), (3, .int 0), (0, .ref h0), (1, .int a0), (2, .int a1)]) hx hb dX12_keepers_55 hl (by decide) rfl (fun ls hl => ?_)
          exact L_57 _ H locs G_104 (G.2.1 (g.2.2 124)) 0 0 ls (by rw [u_107]; exact rg_w hI.a104 (by decide) (by decide)) fr_105 w_118 r_130 r_136 (rg_w rl_0 (by decide) (by decide)) th_128 (Nat.lt_succ_self _) (lv_sub hl [2, 3, 4, 1, 0] rfl) hH hS
        · have r_145 : rgI (0) (0) x_141 := rg_w (rg_eq rl_0 c_142) (by decide) (by decide)
          have hb_146 : bt x_138 (a1 : Int32).toNatClampNeg = false := has_0 (rg_w r_136 (by decide) (by decide)) (by rw [← hx_141.2]; exact c_142)
          refine lv_bipush (v := (-2)) hx hb dX12_keepers_49 (by decide) ?_
          exact W.iret hx hb hr (fun t ht hWm => ⟨⟨(-2), (Ty, G_104), rfl, ⟨rfl, ⟨fr_105, ⟨(by rw [u_106]; exact (rg_w hI.a102 (by decide) (by decide))), (by rw [u_107]; exact (rg_w hI.a104 (by decide) (by decide))), (by rw [u_108]; exact (rg_w hI.a113 (by decide) (by decide))), (by rw [u_109]; exact (rg_w hI.a122 (by decide) (by decide))), (by rw [u_110]; exact (rg_w hI.a133 (by decide) (by decide))), (by rw [u_111]; exact (rg_w hI.a137 (by decide) (by decide))), u_119, u_120, (by rw [w_113]; exact (hI.ti.hi (show Bd ≤ Bd + 1000 by omega))), (hI.un2 (show Bd ≤ Bd + 1000 by omega) w_114 u_109), (hI.ke2 (show Bd ≤ Bd + 1000 by omega) w_115 w_116)⟩⟩⟩, by show HT g Ty G_104 t.heap; rw [ht]; exact hH⟩, hS.F ht⟩) hS.2.2 dX12_keepers_51
    · have r_147 : rgI (0) (0) x_131 := rg_w (rg_eq rl_0 c_133) (by decide) (by decide)
      refine lv_iconst (v := (-1)) hx hb dX12_keepers_27 (by decide) ?_
      exact W.iret hx hb hr (fun t ht hWm => ⟨⟨(-1), (Ty, G_104), rfl, ⟨rfl, ⟨fr_105, ⟨(by rw [u_106]; exact (rg_w hI.a102 (by decide) (by decide))), (by rw [u_107]; exact (rg_w hI.a104 (by decide) (by decide))), (by rw [u_108]; exact (rg_w hI.a113 (by decide) (by decide))), (by rw [u_109]; exact (rg_w hI.a122 (by decide) (by decide))), (by rw [u_110]; exact (rg_w hI.a133 (by decide) (by decide))), (by rw [u_111]; exact (rg_w hI.a137 (by decide) (by decide))), u_119, u_120, (by rw [w_113]; exact (hI.ti.hi (show Bd ≤ Bd + 1000 by omega))), (hI.un2 (show Bd ≤ Bd + 1000 by omega) w_114 u_109), (hI.ke2 (show Bd ≤ Bd + 1000 by omega) w_115 w_116)⟩⟩⟩, by show HT g Ty G_104 t.heap; rw [ht]; exact hH⟩, hS.F ht⟩) hS.2.2 dX12_keepers_28

set_option maxHeartbeats 4000000 in
set_option maxRecDepth 100000 in
theorem c_X12_areAlike (l : Launch) (g : Gx) : ∀ (nr : Nat) (Ty : TyM) (G : Gh) (sz : Nat) (h0 : Nat) (a0 : Int32) (a1 : Int32) (a2 : Int32) (k_h0 : Ty h0 = some (22, 0)) (pr2 : rgI (0) (23) a2) (ρ : Nat → Nat) (hT : P1 (G.2.1 (g.2.2 100)) ρ) (hm0 : thr (G.2.1 (g.2.2 100)) a0) (hmn : a2.toInt ≤ (ρ a0.toNatClampNeg : Int)) (h4 : rgI 0 32 (G.1 104)) (hm : 24 - ρ a0.toNatClampNeg < nr), Met l yX12_areAlike (wsG yX12_areAlike cX12_areAlike 7 (some .boolean)) ({ frames := 1 + nr, cells := 0, slots := 0, locals := 23 + 26 * nr }) (PcT g Ty G sz [.ref h0, .int a0, .int a1, .int a2]) (QwI g Ty sz (fun r u => (rgI (0) (1) r) ∧ u.1 = Ty ∧ FR [104] [] [] G u.2 ∧ rgI 0 32 (u.2.1 104))) 0 0 (AF Ty sz) := by
  intro nr
  induction nr with
  | zero => intro Ty G sz h0 a0 a1 a2 k_h0 pr2 ρ hT hm0 hmn h4 hm; exact absurd hm (Nat.not_lt_zero _)
  | succ nr ihr =>
  intro Ty G sz h0 a0 a1 a2 k_h0 pr2 ρ hT hm0 hmn h4 hm
  refine Met.ofW (cc := cX12_areAlike) (maxL := 7) (ret := (some .boolean)) (by decide) rfl ?_
  intro p e s m args below meth c s₁ B hml hv
  obtain ⟨rfl, hsz, hK, hH⟩ := hv
  subst hsz
  have hx := B.exec
  have hb := B.bytes
  have hr := B.returns
  have hts := atoms_spec (ws := (wsG yX12_areAlike cX12_areAlike 7 (some .boolean))) B.pre
  have hG : ∀ w ∈ GW, w.before ([.ref h0, .int a0, .int a1, .int a2] : List Value).toArray s = true := fun w h => hts w (List.mem_cons_of_mem _ h)
  have hown : s.vm.findClass RX12 = some m.cls := findClass_of_methodNamed B.named
  have hlocks := B.notSynchronized
  have hl := lv_entry [.ref h0, .int a0, .int a1, .int a2] (n := 7) (Nat.le_of_ble_eq_true rfl)
  rw [lg_entry_eq]
  generalize (lg_sl [.ref h0, .int a0, .int a1, .int a2] ++ List.replicate (7 - (lg_sl [.ref h0, .int a0, .int a1, .int a2]).length) Slot.unset).toArray = ls at hl ⊢
  have hl : lv_has ls 7 [(0, .ref h0), (1, .int a0), (2, .int a1), (3, .int a2)] := hl
  have hmk : mdK g Ty := mdk_of hH k_h0
  have hS : va_S (AF Ty s.heap.size) s.heap s.heap [] := va_S.rf
  have L_3 : ∀ (n : Nat) (H : Heap) (locs : List Loc) (G_3 : Gh) (y4_3 : Int32) (ls : Array Slot), rgI (0) (32) (G_3.1 104) → FR [104] [] [] G G_3 → rgI (0) (23) a2 → rgI (0) (4) y4_3 → (4 - (y4_3).toInt).toNat < n → lv_has ls 7 [(0, .ref h0), (1, .int a0), (2, .int a1), (3, .int a2), (4, .int y4_3)] → HT g Ty G_3 H → va_S (AF Ty s.heap.size) s.heap H locs → Wm p l e (wsG yX12_areAlike cX12_areAlike 7 (some .boolean)) ({ frames := 1 + (nr + 1), cells := 0, slots := 0, locals := 23 + 26 * (nr + 1) }) s m [.ref h0, .int a0, .int a1, .int a2] below meth c H locs (0) (0) (QwI g Ty s.heap.size (fun r u => (rgI (0) (1) r) ∧ u.1 = Ty ∧ FR [104] [] [] G u.2 ∧ rgI 0 32 (u.2.1 104))) 0 0 (AF Ty s.heap.size) (F0 m 3 ls []) := by
    intro n
    induction n with
    | zero => intro H locs G_3 y4_3 ls rg104_3 frL_3 ry3_3 ry4_3 hm; exact absurd hm (Nat.not_lt_zero _)
    | succ n ih_3 =>
      intro H locs G_3 y4_3 ls rg104_3 frL_3 ry3_3 ry4_3 hm_3 hl hH hS
      refine lv_iload hx hb dX12_areAlike_3 (lv_at hl 4 rfl) ?_
      refine lv_iconst (v := 4) hx hb dX12_areAlike_5 (by decide) ?_
      refine lv_icmp_ge (tgt := 104) hx hb dX12_areAlike_6 (by decide) (fun c_1 => ?_) (fun c_1 => ?_)
      · have r_2 : rgI (4) (4) y4_3 := rg_w (rg_leR rl_4 ry4_3 c_1) (by decide) (by decide)
        refine lv_iconst (v := 1) hx hb dX12_areAlike_104 (by decide) ?_
        exact W.zret hx hb hr rfl (fun t ht hWm => ⟨⟨1, (Ty, G_3), rfl, ⟨rg_w rl_1 (by decide) (by decide), ⟨rfl, ⟨frL_3, (rg_w rg104_3 (by decide) (by decide))⟩⟩⟩, by show HT g Ty G_3 t.heap; rw [ht]; exact hH⟩, hS.F ht⟩) hS.2.2 dX12_areAlike_105
      · have r_3 : rgI (0) (3) y4_3 := rg_w (rg_ltL ry4_3 rl_4 (nle_lt c_1)) (by decide) (by decide)
        refine lv_aload_n hx hb dX12_areAlike_9 rfl (lv_at hl 0 rfl) ?_
        obtain ⟨_, ⟨rfl, t_5, hk_6⟩, o_c_4⟩ := hH h0 _ k_h0
        refine hg_get hx hb hG igX12 hown hK o_c_4 rfl 0 (by decide) (hG _ mw_1284) rfl dX12_areAlike_10 ?_
        refine lv_iload_n hx hb dX12_areAlike_13 rfl (lv_at hl 1 rfl) ?_
        refine lv_iload hx hb dX12_areAlike_14 (lv_at hl 4 rfl) ?_
        refine vp_callSi (W.runS (As := [.ref (g.2.2 100), .int a0, .int y4_3]) (rest := []) ⟨hx, hb, hml, hown, hts⟩ (c_X12_atOf l g Ty G_3 (g.2.2 100) a0 y4_3 (hk_6.1)) (cwSx 3 hts hG (gwC mw_1509) mw_88 mw_1507 mw_1508 rfl rfl rfl hd_X12_atOf ⟨Nat.le_trans (Nat.le_of_ble_eq_true rfl) (Nat.le_add_right 1 _), Nat.le_trans (Nat.le_of_ble_eq_true rfl) (Nat.le_add_right 23 _)⟩) ⟨PcH_blind, PcH_pre hK hH⟩ rfl rfl hl.1 rfl (lv_room (Nat.le_of_ble_eq_true rfl)) dX12_areAlike_16 ⟨Nat.zero_le _, Nat.zero_le _⟩) (fun x_7 hx_7 => ?_)
        have rx_7 : rgI (1) (24) x_7 := hx_7.1
        have ex_8 : x_7 = F_X12_atOf (G.2.1 (g.2.2 100)) a0 y4_3 := by rw [← (frL_3.2.1 (g.2.2 100) trivial)]; exact hx_7.2
        refine lv_istore (lv' := [(5, .int x_7), (0, .ref h0), (1, .int a0), (2, .int a1), (3, .int a2), (4, .int y4_3)]) hx hb dX12_areAlike_19 hl (by decide) rfl (fun ls hl => ?_)
        refine lv_aload_n hx hb dX12_areAlike_21 rfl (lv_at hl 1 rfl) ?_
        refine hg_get hx hb hG igX12 hown hK o_c_4 rfl 0 (by decide) (hG _ mw_1284) rfl dX12_areAlike_22 ?_
        refine lv_iload_n hx hb dX12_areAlike_25 rfl (lv_at hl 3 rfl) ?_
        refine lv_iload hx hb dX12_areAlike_26 (lv_at hl 5 rfl) ?_
        refine vp_callSi (W.runS (As := [.ref (g.2.2 100), .int a1, .int y4_3]) (rest := []) ⟨hx, hb, hml, hown, hts⟩ (c_X12_atOf l g Ty G_3 (g.2.2 100) a1 y4_3 (hk_6.1)) (cwSx 3 hts hG (gwC mw_1509) mw_88 mw_1507 mw_1508 rfl rfl rfl hd_X12_atOf ⟨Nat.le_trans (Nat.le_of_ble_eq_true rfl) (Nat.le_add_right 1 _), Nat.le_trans (Nat.le_of_ble_eq_true rfl) (Nat.le_add_right 23 _)⟩) ⟨PcH_blind, PcH_pre hK hH⟩ rfl rfl hl.1 rfl (lv_room (Nat.le_of_ble_eq_true rfl)) dX12_areAlike_28 ⟨Nat.zero_le _, Nat.zero_le _⟩) (fun x_9 hx_9 => ?_)
        have rx_9 : rgI (1) (24) x_9 := hx_9.1
        have ex_10 : x_9 = F_X12_atOf (G.2.1 (g.2.2 100)) a1 y4_3 := by rw [← (frL_3.2.1 (g.2.2 100) trivial)]; exact hx_9.2
        refine lv_istore (lv' := [(6, .int x_9), (5, .int x_7), (0, .ref h0), (1, .int a0), (2, .int a1), (3, .int a2), (4, .int y4_3)]) hx hb dX12_areAlike_31 hl (by decide) rfl (fun ls hl => ?_)
        refine lv_iload hx hb dX12_areAlike_33 (lv_at hl 1 rfl) ?_
        refine lv_bipush (v := 24) hx hb dX12_areAlike_35 (by decide) ?_
        refine lv_icmp_ne (tgt := 50) hx hb dX12_areAlike_37 (by decide) (fun c_11 => ?_) (fun c_11 => ?_)
        · have r_12 : rgI (1) (23) x_7 := rg_w (rg_neR rx_7 rl_24 c_11) (by decide) (by decide)
          refine lv_aload_n hx hb dX12_areAlike_50 rfl (lv_at hl 2 rfl) ?_
          refine hg_get hx hb hG igX12 hown hK o_c_4 rfl 3 (by decide) (hG _ mw_1287) rfl dX12_areAlike_51 ?_
          refine lv_iload_n hx hb dX12_areAlike_54 rfl (lv_at hl 5 rfl) ?_
          refine lv_iload hx hb dX12_areAlike_55 (lv_at hl 6 rfl) ?_
          refine lv_i2l hx hb dX12_areAlike_57 rfl ?_
          refine lv_topl (fun u_13 eu_13 => ?_)
          obtain ⟨_, ⟨f_15, rfl⟩, o_c_14⟩ := hH (g.2.2 103) _ hk_6.2.2.1
          refine hg_last hx hb hK hS o_c_14 (AF.of hk_6.2.2.1) (rg_in (n := 32) ry3_3 (by decide) (by decide)) dX12_areAlike_58 (fun H locs o_c_14 hz oq hS => ?_)
          generalize hff_16 : vp_updL f_15 _ u_13 = f_16 at o_c_14
          have hH : HT g Ty G_3 H := hH.put hk_6.2.2.1 ⟨_, rfl⟩ o_c_14 oq
          have o_c_4 := o_c_4.kept (oq _ (ne_kd k_h0 hk_6.2.2.1 (by decide)))
          clear oq hz
          refine lv_iload hx hb dX12_areAlike_59 (lv_at hl 1 rfl) ?_
          refine lv_bipush (v := 24) hx hb dX12_areAlike_61 (by decide) ?_
          refine lv_icmp_eq (tgt := 73) hx hb dX12_areAlike_63 (by decide) (fun c_17 => ?_) (fun c_17 => ?_)
          · exact rg_noE r_12 rl_24 c_17 (by decide)
          · refine lv_iload hx hb dX12_areAlike_66 (lv_at hl 0 rfl) ?_
            refine lv_bipush (v := 24) hx hb dX12_areAlike_68 (by decide) ?_
            refine lv_icmp_ne (tgt := 82) hx hb dX12_areAlike_70 (by decide) (fun c_18 => ?_) (fun c_18 => ?_)
            · have r_19 : rgI (1) (23) x_9 := rg_w (rg_neR rx_9 rl_24 c_18) (by decide) (by decide)
              refine lv_aload_n hx hb dX12_areAlike_82 rfl (lv_at hl 2 rfl) ?_
              refine lv_iload hx hb dX12_areAlike_83 (lv_at hl 1 rfl) ?_
              refine lv_iload hx hb dX12_areAlike_85 (lv_at hl 0 rfl) ?_
              refine lv_iload_n hx hb dX12_areAlike_87 rfl (lv_at hl 5 rfl) ?_
              refine lv_iconst (v := 1) hx hb dX12_areAlike_88 (by decide) ?_
              refine lv_iadd hx hb dX12_areAlike_89 ?_
              refine lv_topi (fun x_20 ex_20 => ?_)
              have rx_20 : rgI (1) (24) x_20 := by rw [ex_20]; exact rg_w (rg_add ry3_3 rl_1 (by decide) (by decide)) (by decide) (by decide)
              have qx_20 : x_20.toInt = (a2 : Int32).toInt + 1 := by rw [ex_20]; exact rg_addE ry3_3 rl_1 (by decide) (by decide)
              have ch_21 := chd hT hm0 ex_8 c_17
              have rr_22 : rgI 0 23 x_20 := aa_r hT hmn pr2 ch_21.2.1 ex_20
              refine va_calli (va_runV (As := [.int x_7, .int x_9, .int x_20]) (rest := []) ⟨hx, hb, hml, hown, hts⟩ (ihr Ty G_3 H.size h0 x_7 x_9 x_20 k_h0 (rg_w rr_22 (by decide) (by decide)) ρ (by rw [(frL_3.2.1 (g.2.2 100) trivial)]; exact hT) (by rw [(frL_3.2.1 (g.2.2 100) trivial)]; exact ch_21.1) (aa_m hmn pr2 ch_21.2.1 ex_20) (rg_w rg104_3 (by decide) (by decide)) (by have q1 := ch_21.2.1; have q2 := hT.2.2 (x_7 : Int32).toNatClampNeg; omega)) (cwV 3 hts (gwV mw_1750 mw_1752 mw_68 mw_88 mw_1753) rfl rfl rfl hv_X12_areAlike ⟨Nat.le_refl _, by show 26 + (23 + 26 * nr) ≤ 23 + 26 * (nr + 1); omega⟩) ⟨PcT_blind, hg_recv hK o_c_4 rfl, PcT_pre hK hH⟩ rfl rfl hl.1 rfl (lv_room (Nat.le_of_ble_eq_true rfl)) dX12_areAlike_90 ⟨Nat.zero_le _, Nat.zero_le _⟩) hS (fun q _ h => AF.mono hS.1 h) (fun q h => AF.mono hS.1 h) (fun x_23 ux_23 t H locs ht hvm hx_23 hB hz hk hS => ?_)
              obtain ⟨hx_23, fx_23⟩ := hx_23
              obtain ⟨eTx_23, eGx_23⟩ := fx_23
              obtain ⟨G_24, eG_24⟩ : ∃ z, z = ux_23.2 := ⟨_, rfl⟩
              rw [← eG_24] at eGx_23
              obtain ⟨hfr_25, hex_26⟩ := eGx_23
              have fr_27 : FR [104] [] [] G G_24 := FR.tr frL_3 hfr_25 (by decide) (fun _ _ => trivial) (by decide)
              have w_28 : G_24.2.1 (g.2.2 100) = (G.2.1 (g.2.2 100)) := (hfr_25.2.1 (g.2.2 100) trivial).trans (frL_3.2.1 (g.2.2 100) trivial)
              have t4_29 : rgI 0 32 (G_24.1 104) := hex_26
              have hH : HT g Ty G_24 H := by rw [← ht, ← eTx_23, eG_24]; exact hB
              have rx_23 : rgI (0) (1) x_23 := hx_23
              refine lv_if_ne (tgt := 98) hx hb dX12_areAlike_93 (by decide) (fun c_30 => ?_) (fun c_30 => ?_)
              · have r_31 : rgI (1) (1) x_23 := rg_w (rg_neL rx_23 rl_0 c_30) (by decide) (by decide)
                obtain ⟨x_32, ex_32⟩ : ∃ y : Int32, y = y4_3 + 1 := ⟨_, rfl⟩
                have rx_32 : rgI (1) (4) x_32 := by rw [ex_32]; exact rg_w (rg_add r_3 rl_1 (by decide) (by decide)) (by decide) (by decide)
                have qx_32 : x_32.toInt = (y4_3 : Int32).toInt + 1 := by rw [ex_32]; exact rg_addE r_3 rl_1 (by decide) (by decide)
                refine lv_iinc (v := x_32) (lv' := [(4, .int x_32), (6, .int x_9), (5, .int x_7), (0, .ref h0), (1, .int a0), (2, .int a1), (3, .int a2)]) hx hb dX12_areAlike_98 hl (k := 6) rfl (by rw [ex_32]; rfl) (by decide) rfl (fun ls hl => ?_)
                refine lv_goto (tgt := 3) hx hb dX12_areAlike_101 (by decide) ?_
                exact ih_3 H locs G_24 x_32 ls (rg_w t4_29 (by decide) (by decide)) fr_27 ry3_3 (rg_w rx_32 (by decide) (by decide)) (by have h1 := qx_32; have h2 := r_3.1; have h3 := r_3.2; have h4 := hm_3; omega) (lv_sub hl [3, 4, 5, 6, 0] rfl) hH hS
              · have r_33 : rgI (0) (0) x_23 := rg_w (rg_eq rl_0 c_30) (by decide) (by decide)
                refine lv_iconst (v := 0) hx hb dX12_areAlike_96 (by decide) ?_
                exact W.zret hx hb hr rfl (fun t ht hWm => ⟨⟨0, (Ty, G_24), rfl, ⟨rg_w rl_0 (by decide) (by decide), ⟨rfl, ⟨fr_27, (rg_w t4_29 (by decide) (by decide))⟩⟩⟩, by show HT g Ty G_24 t.heap; rw [ht]; exact hH⟩, hS.F ht⟩) hS.2.2 dX12_areAlike_97
            · have r_34 : rgI (24) (24) x_9 := rg_w (rg_eq rl_24 c_18) (by decide) (by decide)
              refine lv_aload_n hx hb dX12_areAlike_73 rfl (lv_at hl 2 rfl) ?_
              refine lv_iload_n hx hb dX12_areAlike_74 rfl (lv_at hl 5 rfl) ?_
              refine lv_iconst (v := 1) hx hb dX12_areAlike_75 (by decide) ?_
              refine lv_iadd hx hb dX12_areAlike_76 ?_
              refine lv_topi (fun x_35 ex_35 => ?_)
              have rx_35 : rgI (1) (24) x_35 := by rw [ex_35]; exact rg_w (rg_add ry3_3 rl_1 (by decide) (by decide)) (by decide) (by decide)
              have qx_35 : x_35.toInt = (a2 : Int32).toInt + 1 := by rw [ex_35]; exact rg_addE ry3_3 rl_1 (by decide) (by decide)
              refine hg_put (ty := .int) hx hb hG igX12 tyX12 tyX12_ok nmX12 hown hK hS o_c_4 (AF.of k_h0) rfl 4 (by decide) (hG _ mw_1288) rfl (by decide +kernel) rfl rfl (Nat.le_of_ble_eq_true rfl) dX12_areAlike_77 (fun H locs o_c_4 hz oq hS => ?_)
              obtain ⟨G_36, eG_36⟩ : ∃ z : Gh, z = gset G_3 104 x_35 := ⟨_, rfl⟩
              have hH : HT g Ty G_36 H := by rw [eG_36]; exact HT.putN 104 x_35 hH k_h0 ⟨rfl, t_5, hk_6⟩ o_c_4 oq (Or.inr (Or.inr (Or.inr (Or.inr (Or.inr ⟨by decide, t_5⟩)))))
              have fr_37 : FR [104] [] [] G G_36 := FR.n frL_3 eG_36 (by decide)
              have u_38 : G_36.1 104 = x_35 := by rw [eG_36]; exact gs_eq
              have w_39 : G_36.2.1 (g.2.2 100) = (G.2.1 (g.2.2 100)) := by rw [eG_36]; exact (frL_3.2.1 (g.2.2 100) trivial)
              clear oq hz
              refine lv_iconst (v := 0) hx hb dX12_areAlike_80 (by decide) ?_
              exact W.zret hx hb hr rfl (fun t ht hWm => ⟨⟨0, (Ty, G_36), rfl, ⟨rg_w rl_0 (by decide) (by decide), ⟨rfl, ⟨fr_37, (by rw [u_38]; exact (rg_w rx_35 (by decide) (by decide)))⟩⟩⟩, by show HT g Ty G_36 t.heap; rw [ht]; exact hH⟩, hS.F ht⟩) hS.2.2 dX12_areAlike_81
        · have r_40 : rgI (24) (24) x_7 := rg_w (rg_eq rl_24 c_11) (by decide) (by decide)
          refine lv_iload hx hb dX12_areAlike_40 (lv_at hl 0 rfl) ?_
          refine lv_bipush (v := 24) hx hb dX12_areAlike_42 (by decide) ?_
          refine lv_icmp_ne (tgt := 50) hx hb dX12_areAlike_44 (by decide) (fun c_41 => ?_) (fun c_41 => ?_)
          · have r_42 : rgI (1) (23) x_9 := rg_w (rg_neR rx_9 rl_24 c_41) (by decide) (by decide)
            refine lv_aload_n hx hb dX12_areAlike_50 rfl (lv_at hl 2 rfl) ?_
            refine hg_get hx hb hG igX12 hown hK o_c_4 rfl 3 (by decide) (hG _ mw_1287) rfl dX12_areAlike_51 ?_
            refine lv_iload_n hx hb dX12_areAlike_54 rfl (lv_at hl 5 rfl) ?_
            refine lv_iload hx hb dX12_areAlike_55 (lv_at hl 6 rfl) ?_
            refine lv_i2l hx hb dX12_areAlike_57 rfl ?_
            refine lv_topl (fun u_43 eu_43 => ?_)
            obtain ⟨_, ⟨f_45, rfl⟩, o_c_44⟩ := hH (g.2.2 103) _ hk_6.2.2.1
            refine hg_last hx hb hK hS o_c_44 (AF.of hk_6.2.2.1) (rg_in (n := 32) ry3_3 (by decide) (by decide)) dX12_areAlike_58 (fun H locs o_c_44 hz oq hS => ?_)
            generalize hff_46 : vp_updL f_45 _ u_43 = f_46 at o_c_44
            have hH : HT g Ty G_3 H := hH.put hk_6.2.2.1 ⟨_, rfl⟩ o_c_44 oq
            have o_c_4 := o_c_4.kept (oq _ (ne_kd k_h0 hk_6.2.2.1 (by decide)))
            clear oq hz
            refine lv_iload hx hb dX12_areAlike_59 (lv_at hl 1 rfl) ?_
            refine lv_bipush (v := 24) hx hb dX12_areAlike_61 (by decide) ?_
            refine lv_icmp_eq (tgt := 73) hx hb dX12_areAlike_63 (by decide) (fun c_47 => ?_) (fun c_47 => ?_)
            · refine lv_aload_n hx hb dX12_areAlike_73 rfl (lv_at hl 2 rfl) ?_
              refine lv_iload_n hx hb dX12_areAlike_74 rfl (lv_at hl 5 rfl) ?_
              refine lv_iconst (v := 1) hx hb dX12_areAlike_75 (by decide) ?_
              refine lv_iadd hx hb dX12_areAlike_76 ?_
              refine lv_topi (fun x_48 ex_48 => ?_)
              have rx_48 : rgI (1) (24) x_48 := by rw [ex_48]; exact rg_w (rg_add ry3_3 rl_1 (by decide) (by decide)) (by decide) (by decide)
              have qx_48 : x_48.toInt = (a2 : Int32).toInt + 1 := by rw [ex_48]; exact rg_addE ry3_3 rl_1 (by decide) (by decide)
              refine hg_put (ty := .int) hx hb hG igX12 tyX12 tyX12_ok nmX12 hown hK hS o_c_4 (AF.of k_h0) rfl 4 (by decide) (hG _ mw_1288) rfl (by decide +kernel) rfl rfl (Nat.le_of_ble_eq_true rfl) dX12_areAlike_77 (fun H locs o_c_4 hz oq hS => ?_)
              obtain ⟨G_49, eG_49⟩ : ∃ z : Gh, z = gset G_3 104 x_48 := ⟨_, rfl⟩
              have hH : HT g Ty G_49 H := by rw [eG_49]; exact HT.putN 104 x_48 hH k_h0 ⟨rfl, t_5, hk_6⟩ o_c_4 oq (Or.inr (Or.inr (Or.inr (Or.inr (Or.inr ⟨by decide, t_5⟩)))))
              have fr_50 : FR [104] [] [] G G_49 := FR.n frL_3 eG_49 (by decide)
              have u_51 : G_49.1 104 = x_48 := by rw [eG_49]; exact gs_eq
              have w_52 : G_49.2.1 (g.2.2 100) = (G.2.1 (g.2.2 100)) := by rw [eG_49]; exact (frL_3.2.1 (g.2.2 100) trivial)
              clear oq hz
              refine lv_iconst (v := 0) hx hb dX12_areAlike_80 (by decide) ?_
              exact W.zret hx hb hr rfl (fun t ht hWm => ⟨⟨0, (Ty, G_49), rfl, ⟨rg_w rl_0 (by decide) (by decide), ⟨rfl, ⟨fr_50, (by rw [u_51]; exact (rg_w rx_48 (by decide) (by decide)))⟩⟩⟩, by show HT g Ty G_49 t.heap; rw [ht]; exact hH⟩, hS.F ht⟩) hS.2.2 dX12_areAlike_81
            · exact rg_clash (rg_neL r_40 rl_24 c_47) (r_40) (by decide)
          · have r_53 : rgI (24) (24) x_9 := rg_w (rg_eq rl_24 c_41) (by decide) (by decide)
            refine lv_goto (tgt := 98) hx hb dX12_areAlike_47 (by decide) ?_
            obtain ⟨x_54, ex_54⟩ : ∃ y : Int32, y = y4_3 + 1 := ⟨_, rfl⟩
            have rx_54 : rgI (1) (4) x_54 := by rw [ex_54]; exact rg_w (rg_add r_3 rl_1 (by decide) (by decide)) (by decide) (by decide)
            have qx_54 : x_54.toInt = (y4_3 : Int32).toInt + 1 := by rw [ex_54]; exact rg_addE r_3 rl_1 (by decide) (by decide)
            refine lv_iinc (v := x_54) (lv' := [(4, .int x_54), (6, .int x_9), (5, .int x_7), (0, .ref h0), (1, .int a0), (2, .int a1), (3, .int a2)]) hx hb dX12_areAlike_98 hl (k := 6) rfl (by rw [ex_54]; rfl) (by decide) rfl (fun ls hl => ?_)
            refine lv_goto (tgt := 3) hx hb dX12_areAlike_101 (by decide) ?_
            exact ih_3 H locs G_3 x_54 ls (rg_w rg104_3 (by decide) (by decide)) frL_3 ry3_3 (rg_w rx_54 (by decide) (by decide)) (by have h1 := qx_54; have h2 := r_3.1; have h3 := r_3.2; have h4 := hm_3; omega) (lv_sub hl [3, 4, 5, 6, 0] rfl) hH hS
  refine lv_iconst (v := 0) hx hb dX12_areAlike_0 (by decide) ?_
  refine lv_istore (lv' := [(4, .int 0), (0, .ref h0), (1, .int a0), (2, .int a1), (3, .int a2)]) hx hb dX12_areAlike_1 hl (by decide) rfl (fun ls hl => ?_)
  exact L_3 _ s.heap [] G 0 ls (rg_w h4 (by decide) (by decide)) FR.rf pr2 (rg_w rl_0 (by decide) (by decide)) (Nat.lt_succ_self _) (lv_sub hl [1, 2, 3, 4, 0] rfl) hH hS

set_option maxHeartbeats 4000000 in
set_option maxRecDepth 100000 in
theorem c_X12_alike (l : Launch) (g : Gx) (Ty : TyM) (G : Gh) (sz : Nat) (h0 : Nat) (a0 : Int32) (a1 : Int32) (k_h0 : Ty h0 = some (22, 0)) (Bd : Int) (hI : OI g Bd G) (hBd : Bd ≤ 1900000) (hLD : LD g) : Met l yX12_alike (wsG yX12_alike cX12_alike 3 (some .int)) ({ frames := 27, cells := 0, slots := 0, locals := 699 }) (PcT g Ty G sz [.ref h0, .int a0, .int a1]) (QwI g Ty sz (fun r u => u.1 = Ty ∧ FR [104, 105] [] [] G u.2 ∧ OI g (Bd + 1000) u.2)) 0 0 (AF Ty sz) := by
  refine Met.ofW (cc := cX12_alike) (maxL := 3) (ret := (some .int)) (by decide) rfl ?_
  intro p e s m args below meth c s₁ B hml hv
  obtain ⟨rfl, hsz, hK, hH⟩ := hv
  subst hsz
  have hx := B.exec
  have hb := B.bytes
  have hr := B.returns
  have hts := atoms_spec (ws := (wsG yX12_alike cX12_alike 3 (some .int))) B.pre
  have hG : ∀ w ∈ GW, w.before ([.ref h0, .int a0, .int a1] : List Value).toArray s = true := fun w h => hts w (List.mem_cons_of_mem _ h)
  have hown : s.vm.findClass RX12 = some m.cls := findClass_of_methodNamed B.named
  have hlocks := B.notSynchronized
  have hl := lv_entry [.ref h0, .int a0, .int a1] (n := 3) (Nat.le_of_ble_eq_true rfl)
  rw [lg_entry_eq]
  generalize (lg_sl [.ref h0, .int a0, .int a1] ++ List.replicate (3 - (lg_sl [.ref h0, .int a0, .int a1]).length) Slot.unset).toArray = ls at hl ⊢
  have hl : lv_has ls 3 [(0, .ref h0), (1, .int a0), (2, .int a1)] := hl
  have hmk : mdK g Ty := mdk_of hH k_h0
  have hS : va_S (AF Ty s.heap.size) s.heap s.heap [] := va_S.rf
  obtain ⟨⟨σ0, hTS0⟩, h10, hBB0⟩ := id hI.ti
  obtain ⟨ρ, hT⟩ := hTS0.1
  refine lv_aload_n hx hb dX12_alike_0 rfl (lv_at hl 0 rfl) ?_
  refine lv_iconst (v := 0) hx hb dX12_alike_1 (by decide) ?_
  obtain ⟨_, ⟨rfl, t_2, hk_3⟩, o_c_1⟩ := hH h0 _ k_h0
  refine hg_put (ty := .int) hx hb hG igX12 tyX12 tyX12_ok nmX12 hown hK hS o_c_1 (AF.of k_h0) rfl 5 (by decide) (hG _ mw_1289) rfl (by decide +kernel) rfl rfl (Nat.le_of_ble_eq_true rfl) dX12_alike_2 (fun H locs o_c_1 hz oq hS => ?_)
  obtain ⟨G_4, eG_4⟩ : ∃ z : Gh, z = gset G 105 0 := ⟨_, rfl⟩
  have hH : HT g Ty G_4 H := by rw [eG_4]; exact HT.putN 105 0 hH k_h0 ⟨rfl, t_2, hk_3⟩ o_c_1 oq (Or.inr (Or.inr (Or.inr (Or.inr (Or.inr ⟨by decide, t_2⟩)))))
  have fr_5 : FR [104, 105] [] [] G G_4 := FR.n FR.rf eG_4 (by decide)
  have u_6 : G_4.1 102 = (G.1 102) := by rw [eG_4]; exact (gs_ne (by decide))
  have u_7 : G_4.1 104 = (G.1 104) := by rw [eG_4]; exact (gs_ne (by decide))
  have u_8 : G_4.1 113 = (G.1 113) := by rw [eG_4]; exact (gs_ne (by decide))
  have u_9 : G_4.1 122 = (G.1 122) := by rw [eG_4]; exact (gs_ne (by decide))
  have u_10 : G_4.1 133 = (G.1 133) := by rw [eG_4]; exact (gs_ne (by decide))
  have u_11 : G_4.1 137 = (G.1 137) := by rw [eG_4]; exact (gs_ne (by decide))
  have u_12 : G_4.1 105 = 0 := by rw [eG_4]; exact gs_eq
  have w_13 : G_4.2.1 (g.2.2 100) = (G.2.1 (g.2.2 100)) := by rw [eG_4]; exact rfl
  have w_14 : G_4.2.1 (g.2.2 121) = (G.2.1 (g.2.2 121)) := by rw [eG_4]; exact rfl
  have w_15 : G_4.2.1 (g.2.2 140) = (G.2.1 (g.2.2 140)) := by rw [eG_4]; exact rfl
  have w_16 : G_4.2.1 (g.2.2 141) = (G.2.1 (g.2.2 141)) := by rw [eG_4]; exact rfl
  have w_17 : G_4.2.1 (g.2.2 111) = (G.2.1 (g.2.2 111)) := by rw [eG_4]; exact rfl
  have u_18 : G_4.2.2 111 = some (g.2.2 111) := by rw [eG_4]; exact hI.r111
  have u_19 : G_4.2.2 112 = some (g.2.2 112) := by rw [eG_4]; exact hI.r112
  clear oq hz
  refine lv_aload_n hx hb dX12_alike_5 rfl (lv_at hl 0 rfl) ?_
  obtain ⟨_, ⟨rfl, t_21, hk_22⟩, o_c_20⟩ := hH h0 _ k_h0
  refine hg_get hx hb hG igX12 hown hK o_c_20 rfl 0 (by decide) (hG _ mw_1284) rfl dX12_alike_6 ?_
  refine lv_iload_n hx hb dX12_alike_9 rfl (lv_at hl 1 rfl) ?_
  refine vp_callSi (W.runS (As := [.ref (g.2.2 100), .int a0]) (rest := []) ⟨hx, hb, hml, hown, hts⟩ (c_X12_isThere l g Ty G_4 (g.2.2 100) a0 (hk_22.1)) (cwSx 2 hts hG (gwC mw_1520) mw_88 mw_1518 mw_1519 rfl rfl rfl hd_X12_isThere ⟨Nat.le_of_ble_eq_true rfl, Nat.le_of_ble_eq_true rfl⟩) ⟨PcH_blind, PcH_pre hK hH⟩ rfl rfl hl.1 rfl (lv_room (Nat.le_of_ble_eq_true rfl)) dX12_alike_10 ⟨Nat.zero_le _, Nat.zero_le _⟩) (fun x_23 hx_23 => ?_)
  have rx_23 : rgI (0) (1) x_23 := hx_23.1
  have ex_24 : x_23 = F_X12_isThere (G.2.1 (g.2.2 100)) a0 := by rw [← w_13]; exact hx_23.2.2
  refine lv_if_eq (tgt := 27) hx hb dX12_alike_13 (by decide) (fun c_25 => ?_) (fun c_25 => ?_)
  · have r_26 : rgI (0) (0) x_23 := rg_w (rg_eq rl_0 c_25) (by decide) (by decide)
    refine lv_iconst (v := (-1)) hx hb dX12_alike_27 (by decide) ?_
    exact W.iret hx hb hr (fun t ht hWm => ⟨⟨(-1), (Ty, G_4), rfl, ⟨rfl, ⟨fr_5, ⟨(by rw [u_6]; exact (rg_w hI.a102 (by decide) (by decide))), (by rw [u_7]; exact (rg_w hI.a104 (by decide) (by decide))), (by rw [u_8]; exact (rg_w hI.a113 (by decide) (by decide))), (by rw [u_9]; exact (rg_w hI.a122 (by decide) (by decide))), (by rw [u_10]; exact (rg_w hI.a133 (by decide) (by decide))), (by rw [u_11]; exact (rg_w hI.a137 (by decide) (by decide))), u_18, u_19, (by rw [w_13]; exact (hI.ti.hi (show Bd ≤ Bd + 1000 by omega))), (hI.un2 (show Bd ≤ Bd + 1000 by omega) w_14 u_9), (hI.ke2 (show Bd ≤ Bd + 1000 by omega) w_15 w_16)⟩⟩⟩, by show HT g Ty G_4 t.heap; rw [ht]; exact hH⟩, hS.F ht⟩) hS.2.2 dX12_alike_28
  · have th_27 : thr (G.2.1 (g.2.2 100)) a0 := F_isThere_thr (by rw [← ex_24]; exact c_25)
    have r_28 : rgI (1) (1) x_23 := rg_w (rg_neL rx_23 rl_0 c_25) (by decide) (by decide)
    have r_29 : rgI (0) (23) a0 := rg_w (hx_23.2.1.resolve_left c_25) (by decide) (by decide)
    refine lv_aload_n hx hb dX12_alike_16 rfl (lv_at hl 0 rfl) ?_
    refine hg_get hx hb hG igX12 hown hK o_c_20 rfl 0 (by decide) (hG _ mw_1284) rfl dX12_alike_17 ?_
    refine lv_iload_n hx hb dX12_alike_20 rfl (lv_at hl 2 rfl) ?_
    refine vp_callSi (W.runS (As := [.ref (g.2.2 100), .int a1]) (rest := []) ⟨hx, hb, hml, hown, hts⟩ (c_X12_isThere l g Ty G_4 (g.2.2 100) a1 (hk_22.1)) (cwSx 2 hts hG (gwC mw_1520) mw_88 mw_1518 mw_1519 rfl rfl rfl hd_X12_isThere ⟨Nat.le_of_ble_eq_true rfl, Nat.le_of_ble_eq_true rfl⟩) ⟨PcH_blind, PcH_pre hK hH⟩ rfl rfl hl.1 rfl (lv_room (Nat.le_of_ble_eq_true rfl)) dX12_alike_21 ⟨Nat.zero_le _, Nat.zero_le _⟩) (fun x_30 hx_30 => ?_)
    have rx_30 : rgI (0) (1) x_30 := hx_30.1
    have ex_31 : x_30 = F_X12_isThere (G.2.1 (g.2.2 100)) a1 := by rw [← w_13]; exact hx_30.2.2
    refine lv_if_ne (tgt := 29) hx hb dX12_alike_24 (by decide) (fun c_32 => ?_) (fun c_32 => ?_)
    · have th_33 : thr (G.2.1 (g.2.2 100)) a1 := F_isThere_thr (by rw [← ex_31]; exact c_32)
      have r_34 : rgI (1) (1) x_30 := rg_w (rg_neL rx_30 rl_0 c_32) (by decide) (by decide)
      have r_35 : rgI (0) (23) a1 := rg_w (hx_30.2.1.resolve_left c_32) (by decide) (by decide)
      refine lv_aload_n hx hb dX12_alike_29 rfl (lv_at hl 0 rfl) ?_
      refine lv_iconst (v := 0) hx hb dX12_alike_30 (by decide) ?_
      refine hg_put (ty := .int) hx hb hG igX12 tyX12 tyX12_ok nmX12 hown hK hS o_c_20 (AF.of k_h0) rfl 4 (by decide) (hG _ mw_1288) rfl (by decide +kernel) rfl rfl (Nat.le_of_ble_eq_true rfl) dX12_alike_31 (fun H locs o_c_20 hz oq hS => ?_)
      obtain ⟨G_36, eG_36⟩ : ∃ z : Gh, z = gset G_4 104 0 := ⟨_, rfl⟩
      have hH : HT g Ty G_36 H := by rw [eG_36]; exact HT.putN 104 0 hH k_h0 ⟨rfl, t_21, hk_22⟩ o_c_20 oq (Or.inr (Or.inr (Or.inr (Or.inr (Or.inr ⟨by decide, t_21⟩)))))
      have fr_37 : FR [104, 105] [] [] G G_36 := FR.n fr_5 eG_36 (by decide)
      have u_38 : G_36.1 102 = (G.1 102) := by rw [eG_36]; exact (gs_ne (by decide)).trans u_6
      have u_39 : G_36.1 113 = (G.1 113) := by rw [eG_36]; exact (gs_ne (by decide)).trans u_8
      have u_40 : G_36.1 122 = (G.1 122) := by rw [eG_36]; exact (gs_ne (by decide)).trans u_9
      have u_41 : G_36.1 133 = (G.1 133) := by rw [eG_36]; exact (gs_ne (by decide)).trans u_10
      have u_42 : G_36.1 137 = (G.1 137) := by rw [eG_36]; exact (gs_ne (by decide)).trans u_11
      have u_43 : G_36.1 105 = 0 := by rw [eG_36]; exact (gs_ne (by decide)).trans u_12
      have u_44 : G_36.1 104 = 0 := by rw [eG_36]; exact gs_eq
      have w_45 : G_36.2.1 (g.2.2 100) = (G.2.1 (g.2.2 100)) := by rw [eG_36]; exact w_13
      have w_46 : G_36.2.1 (g.2.2 121) = (G.2.1 (g.2.2 121)) := by rw [eG_36]; exact w_14
      have w_47 : G_36.2.1 (g.2.2 140) = (G.2.1 (g.2.2 140)) := by rw [eG_36]; exact w_15
      have w_48 : G_36.2.1 (g.2.2 141) = (G.2.1 (g.2.2 141)) := by rw [eG_36]; exact w_16
      have w_49 : G_36.2.1 (g.2.2 111) = (G.2.1 (g.2.2 111)) := by rw [eG_36]; exact w_17
      have u_50 : G_36.2.2 111 = some (g.2.2 111) := by rw [eG_36]; exact u_18
      have u_51 : G_36.2.2 112 = some (g.2.2 112) := by rw [eG_36]; exact u_19
      clear oq hz
      refine lv_aload_n hx hb dX12_alike_34 rfl (lv_at hl 0 rfl) ?_
      refine lv_iload_n hx hb dX12_alike_35 rfl (lv_at hl 1 rfl) ?_
      refine lv_iload_n hx hb dX12_alike_36 rfl (lv_at hl 2 rfl) ?_
      refine lv_iconst (v := 0) hx hb dX12_alike_37 (by decide) ?_
      obtain ⟨_, ⟨rfl, t_53, hk_54⟩, o_c_52⟩ := hH h0 _ k_h0
      refine va_calli (va_runV (As := [.int a0, .int a1, .int 0]) (rest := []) ⟨hx, hb, hml, hown, hts⟩ (c_X12_areAlike l g 25 Ty G_36 H.size h0 a0 a1 0 k_h0 (rg_w rl_0 (by decide) (by decide)) ρ (by rw [w_45]; exact hT) (by rw [w_45]; exact th_27) (by show (0 : Int) ≤ _; omega) (by rw [u_44]; exact (rg_w rl_0 (by decide) (by decide))) (by omega)) (cwV 3 hts (gwV mw_1750 mw_1752 mw_68 mw_88 mw_1753) rfl rfl rfl hv_X12_areAlike ⟨Nat.le_of_ble_eq_true rfl, Nat.le_of_ble_eq_true rfl⟩) ⟨PcT_blind, hg_recv hK o_c_52 rfl, PcT_pre hK hH⟩ rfl rfl hl.1 rfl (lv_room (Nat.le_of_ble_eq_true rfl)) dX12_alike_38 ⟨Nat.zero_le _, Nat.zero_le _⟩) hS (fun q _ h => AF.mono hS.1 h) (fun q h => AF.mono hS.1 h) (fun x_55 ux_55 t H locs ht hvm hx_55 hB hz hk hS => ?_)
      obtain ⟨hx_55, fx_55⟩ := hx_55
      obtain ⟨eTx_55, eGx_55⟩ := fx_55
      obtain ⟨G_56, eG_56⟩ : ∃ z, z = ux_55.2 := ⟨_, rfl⟩
      rw [← eG_56] at eGx_55
      obtain ⟨hfr_57, hex_58⟩ := eGx_55
      have fr_59 : FR [104, 105] [] [] G G_56 := FR.tr fr_37 hfr_57 (by decide) (fun _ _ => trivial) (by decide)
      have u_60 : G_56.1 102 = (G.1 102) := (hfr_57.1 102 (by decide)).trans u_38
      have u_61 : G_56.1 113 = (G.1 113) := (hfr_57.1 113 (by decide)).trans u_39
      have u_62 : G_56.1 122 = (G.1 122) := (hfr_57.1 122 (by decide)).trans u_40
      have u_63 : G_56.1 133 = (G.1 133) := (hfr_57.1 133 (by decide)).trans u_41
      have u_64 : G_56.1 137 = (G.1 137) := (hfr_57.1 137 (by decide)).trans u_42
      have u_65 : G_56.1 105 = 0 := (hfr_57.1 105 (by decide)).trans u_43
      have w_66 : G_56.2.1 (g.2.2 100) = (G.2.1 (g.2.2 100)) := (hfr_57.2.1 (g.2.2 100) trivial).trans w_45
      have w_67 : G_56.2.1 (g.2.2 121) = (G.2.1 (g.2.2 121)) := (hfr_57.2.1 (g.2.2 121) trivial).trans w_46
      have w_68 : G_56.2.1 (g.2.2 140) = (G.2.1 (g.2.2 140)) := (hfr_57.2.1 (g.2.2 140) trivial).trans w_47
      have w_69 : G_56.2.1 (g.2.2 141) = (G.2.1 (g.2.2 141)) := (hfr_57.2.1 (g.2.2 141) trivial).trans w_48
      have w_70 : G_56.2.1 (g.2.2 111) = (G.2.1 (g.2.2 111)) := (hfr_57.2.1 (g.2.2 111) trivial).trans w_49
      have u_71 : G_56.2.2 111 = some (g.2.2 111) := (hfr_57.2.2 111 (by decide)).trans u_50
      have u_72 : G_56.2.2 112 = some (g.2.2 112) := (hfr_57.2.2 112 (by decide)).trans u_51
      have t4_73 : rgI 0 32 (G_56.1 104) := hex_58
      have hH : HT g Ty G_56 H := by rw [← ht, ← eTx_55, eG_56]; exact hB
      have rx_55 : rgI (0) (1) x_55 := hx_55
      refine lv_if_eq (tgt := 48) hx hb dX12_alike_41 (by decide) (fun c_74 => ?_) (fun c_74 => ?_)
      · have r_75 : rgI (0) (0) x_55 := rg_w (rg_eq rl_0 c_74) (by decide) (by decide)
        refine lv_iconst (v := 0) hx hb dX12_alike_48 (by decide) ?_
        exact W.iret hx hb hr (fun t ht hWm => ⟨⟨0, (Ty, G_56), rfl, ⟨rfl, ⟨fr_59, ⟨(by rw [u_60]; exact (rg_w hI.a102 (by decide) (by decide))), (rg_w t4_73 (by decide) (by decide)), (by rw [u_61]; exact (rg_w hI.a113 (by decide) (by decide))), (by rw [u_62]; exact (rg_w hI.a122 (by decide) (by decide))), (by rw [u_63]; exact (rg_w hI.a133 (by decide) (by decide))), (by rw [u_64]; exact (rg_w hI.a137 (by decide) (by decide))), u_71, u_72, (by rw [w_66]; exact (hI.ti.hi (show Bd ≤ Bd + 1000 by omega))), (hI.un2 (show Bd ≤ Bd + 1000 by omega) w_67 u_62), (hI.ke2 (show Bd ≤ Bd + 1000 by omega) w_68 w_69)⟩⟩⟩, by show HT g Ty G_56 t.heap; rw [ht]; exact hH⟩, hS.F ht⟩) hS.2.2 dX12_alike_49
      · have r_76 : rgI (1) (1) x_55 := rg_w (rg_neL rx_55 rl_0 c_74) (by decide) (by decide)
        refine lv_iconst (v := 1) hx hb dX12_alike_44 (by decide) ?_
        refine lv_goto (tgt := 49) hx hb dX12_alike_45 (by decide) ?_
        exact W.iret hx hb hr (fun t ht hWm => ⟨⟨1, (Ty, G_56), rfl, ⟨rfl, ⟨fr_59, ⟨(by rw [u_60]; exact (rg_w hI.a102 (by decide) (by decide))), (rg_w t4_73 (by decide) (by decide)), (by rw [u_61]; exact (rg_w hI.a113 (by decide) (by decide))), (by rw [u_62]; exact (rg_w hI.a122 (by decide) (by decide))), (by rw [u_63]; exact (rg_w hI.a133 (by decide) (by decide))), (by rw [u_64]; exact (rg_w hI.a137 (by decide) (by decide))), u_71, u_72, (by rw [w_66]; exact (hI.ti.hi (show Bd ≤ Bd + 1000 by omega))), (hI.un2 (show Bd ≤ Bd + 1000 by omega) w_67 u_62), (hI.ke2 (show Bd ≤ Bd + 1000 by omega) w_68 w_69)⟩⟩⟩, by show HT g Ty G_56 t.heap; rw [ht]; exact hH⟩, hS.F ht⟩) hS.2.2 dX12_alike_49
    · have r_77 : rgI (0) (0) x_30 := rg_w (rg_eq rl_0 c_32) (by decide) (by decide)
      refine lv_iconst (v := (-1)) hx hb dX12_alike_27 (by decide) ?_
      exact W.iret hx hb hr (fun t ht hWm => ⟨⟨(-1), (Ty, G_4), rfl, ⟨rfl, ⟨fr_5, ⟨(by rw [u_6]; exact (rg_w hI.a102 (by decide) (by decide))), (by rw [u_7]; exact (rg_w hI.a104 (by decide) (by decide))), (by rw [u_8]; exact (rg_w hI.a113 (by decide) (by decide))), (by rw [u_9]; exact (rg_w hI.a122 (by decide) (by decide))), (by rw [u_10]; exact (rg_w hI.a133 (by decide) (by decide))), (by rw [u_11]; exact (rg_w hI.a137 (by decide) (by decide))), u_18, u_19, (by rw [w_13]; exact (hI.ti.hi (show Bd ≤ Bd + 1000 by omega))), (hI.un2 (show Bd ≤ Bd + 1000 by omega) w_14 u_9), (hI.ke2 (show Bd ≤ Bd + 1000 by omega) w_15 w_16)⟩⟩⟩, by show HT g Ty G_4 t.heap; rw [ht]; exact hH⟩, hS.F ht⟩) hS.2.2 dX12_alike_28

set_option maxHeartbeats 4000000 in
set_option maxRecDepth 100000 in
theorem c_X12_worthOf (l : Launch) (g : Gx) : ∀ (nr : Nat) (Ty : TyM) (G : Gh) (b0 : Nat) (a1 : Int32) (k_b0 : Ty b0 = some (30, 122)) (pr1 : rgI (0) (23) a1) (ρ : Nat → Nat) (hW : W1 (G.2.1 b0) ρ) (hm : 24 - ρ a1.toNatClampNeg < nr), Met l yX12_worthOf (wsG yX12_worthOf cX12_worthOf 4 (some .int)) ({ frames := 0 + nr, cells := 0, slots := 0, locals := 0 + 23 * nr }) (PcH g Ty G [.ref b0, .int a1]) (vp_Si (fun r => True)) 0 0 (fun _ => False) := by
  intro nr
  induction nr with
  | zero => intro Ty G b0 a1 k_b0 pr1 ρ hW hm; exact absurd hm (Nat.not_lt_zero _)
  | succ nr ihr =>
  intro Ty G b0 a1 k_b0 pr1 ρ hW hm
  refine Met.ofW (cc := cX12_worthOf) (maxL := 4) (ret := (some .int)) (by decide) rfl ?_
  intro p e s m args below meth c s₁ B hml hv
  obtain ⟨rfl, hK, hH⟩ := hv
  have hx := B.exec
  have hb := B.bytes
  have hr := B.returns
  have hts := atoms_spec (ws := (wsG yX12_worthOf cX12_worthOf 4 (some .int))) B.pre
  have hG : ∀ w ∈ GW, w.before ([.ref b0, .int a1] : List Value).toArray s = true := fun w h => hts w (List.mem_cons_of_mem _ h)
  have hown : s.vm.findClass RX12 = some m.cls := findClass_of_methodNamed B.named
  have hlocks := B.notSynchronized
  have hl := lv_entry [.ref b0, .int a1] (n := 4) (Nat.le_of_ble_eq_true rfl)
  rw [lg_entry_eq]
  generalize (lg_sl [.ref b0, .int a1] ++ List.replicate (4 - (lg_sl [.ref b0, .int a1]).length) Slot.unset).toArray = ls at hl ⊢
  have hl : lv_has ls 4 [(0, .ref b0), (1, .int a1)] := hl
  have L_4 : ∀ (n : Nat) (y2_4 : Int32) (y3_4 : Int32) (ls : Array Slot), rgI (0) (23) a1 → rgI (1) (24) y3_4 → (24 - (y3_4).toInt).toNat < n → lv_has ls 4 [(0, .ref b0), (1, .int a1), (2, .int y2_4), (3, .int y3_4)] → Wm p l e (wsG yX12_worthOf cX12_worthOf 4 (some .int)) ({ frames := 0 + (nr + 1), cells := 0, slots := 0, locals := 0 + 23 * (nr + 1) }) s m [.ref b0, .int a1] below meth c s.heap [] (0) (0) (vp_Si (fun r => True)) 0 0 (fun _ => False) (F0 m 4 ls []) := by
    intro n
    induction n with
    | zero => intro y2_4 y3_4 ls ry1_4 ry3_4 hm; exact absurd hm (Nat.not_lt_zero _)
    | succ n ih_4 =>
      intro y2_4 y3_4 ls ry1_4 ry3_4 hm_4 hl
      refine lv_iload_n hx hb dX12_worthOf_4 rfl (lv_at hl 3 rfl) ?_
      refine lv_bipush (v := 24) hx hb dX12_worthOf_5 (by decide) ?_
      refine lv_icmp_ge (tgt := 33) hx hb dX12_worthOf_7 (by decide) (fun c_1 => ?_) (fun c_1 => ?_)
      · have r_2 : rgI (24) (24) y3_4 := rg_w (rg_leR rl_24 ry3_4 c_1) (by decide) (by decide)
        refine lv_iload_n hx hb dX12_worthOf_33 rfl (lv_at hl 2 rfl) ?_
        exact W.iret hx hb hr (fun t ht hW => ⟨y2_4, rfl, trivial, ht⟩) (fun q h => by cases h) dX12_worthOf_34
      · have r_3 : rgI (1) (23) y3_4 := rg_w (rg_ltL ry3_4 rl_24 (nle_lt c_1)) (by decide) (by decide)
        refine lv_aload_n hx hb dX12_worthOf_10 rfl (lv_at hl 0 rfl) ?_
        refine lv_iload_n hx hb dX12_worthOf_11 rfl (lv_at hl 3 rfl) ?_
        obtain ⟨_, rfl, o_c_4⟩ := hH b0 _ k_b0
        have o_c_4 : va_at g.1 vwCl (b0, .inl (g.2.1 1, 122, .inl (G.2.1 b0))) s.heap := o_c_4
        refine hg_iald hx hb hK o_c_4 (rg_in (n := 122) r_3 (by decide) (by decide)) dX12_worthOf_12 ?_
        refine lv_topi (fun x_5 ex_5 => ?_)
        refine lv_iload_n hx hb dX12_worthOf_13 rfl (lv_at hl 1 rfl) ?_
        refine lv_icmp_ne (tgt := 27) hx hb dX12_worthOf_14 (by decide) (fun c_6 => ?_) (fun c_6 => ?_)
        · obtain ⟨x_7, ex_7⟩ : ∃ y : Int32, y = y3_4 + 1 := ⟨_, rfl⟩
          have rx_7 : rgI (2) (24) x_7 := by rw [ex_7]; exact rg_w (rg_add r_3 rl_1 (by decide) (by decide)) (by decide) (by decide)
          have qx_7 : x_7.toInt = (y3_4 : Int32).toInt + 1 := by rw [ex_7]; exact rg_addE r_3 rl_1 (by decide) (by decide)
          refine lv_iinc (v := x_7) (lv' := [(3, .int x_7), (0, .ref b0), (1, .int a1), (2, .int y2_4)]) hx hb dX12_worthOf_27 hl (k := 3) rfl (by rw [ex_7]; rfl) (by decide) rfl (fun ls hl => ?_)
          refine lv_goto (tgt := 4) hx hb dX12_worthOf_30 (by decide) ?_
          exact ih_4 y2_4 x_7 ls ry1_4 (rg_w rx_7 (by decide) (by decide)) (by have h1 := qx_7; have h2 := r_3.1; have h3 := r_3.2; have h4 := hm_4; omega) (lv_sub hl [1, 2, 3, 0] rfl)
        · have r_8 : rgI (0) (23) x_5 := rg_w (rg_eq ry1_4 c_6) (by decide) (by decide)
          refine lv_iload_n hx hb dX12_worthOf_17 rfl (lv_at hl 2 rfl) ?_
          refine lv_aload_n hx hb dX12_worthOf_18 rfl (lv_at hl 0 rfl) ?_
          refine lv_iload_n hx hb dX12_worthOf_19 rfl (lv_at hl 3 rfl) ?_
          refine vp_callSi (W.runS (As := [.ref b0, .int y3_4]) (rest := [.int y2_4]) ⟨hx, hb, hml, hown, hts⟩ (ihr Ty G b0 y3_4 k_b0 (rg_w r_3 (by decide) (by decide)) ρ hW (w1_d hW r_3 (by have q := pr1.1; omega) ex_5 c_6 hm)) (cwSx 2 hts hG (gwC mw_1838) mw_88 mw_1836 mw_1837 rfl rfl rfl hd_X12_worthOf ⟨Nat.le_refl _, by show 23 + (0 + 23 * nr) ≤ 0 + 23 * (nr + 1); omega⟩) ⟨PcH_blind, PcH_pre hK hH⟩ rfl rfl hl.1 rfl (lv_room (Nat.le_of_ble_eq_true rfl)) dX12_worthOf_20 ⟨Nat.zero_le _, Nat.zero_le _⟩) (fun x_9 hx_9 => ?_)
          refine lv_iconst (v := 1) hx hb dX12_worthOf_23 (by decide) ?_
          refine lv_iadd hx hb dX12_worthOf_24 ?_
          refine lv_topi (fun x_10 ex_10 => ?_)
          refine lv_ixor hx hb dX12_worthOf_25 ?_
          refine lv_topi (fun x_11 ex_11 => ?_)
          refine lv_istore_n (lv' := [(2, .int x_11), (0, .ref b0), (1, .int a1), (3, .int y3_4)]) hx hb dX12_worthOf_26 rfl hl (by decide) rfl (fun ls hl => ?_)
          obtain ⟨x_12, ex_12⟩ : ∃ y : Int32, y = y3_4 + 1 := ⟨_, rfl⟩
          have rx_12 : rgI (2) (24) x_12 := by rw [ex_12]; exact rg_w (rg_add r_3 rl_1 (by decide) (by decide)) (by decide) (by decide)
          have qx_12 : x_12.toInt = (y3_4 : Int32).toInt + 1 := by rw [ex_12]; exact rg_addE r_3 rl_1 (by decide) (by decide)
          refine lv_iinc (v := x_12) (lv' := [(3, .int x_12), (2, .int x_11), (0, .ref b0), (1, .int a1)]) hx hb dX12_worthOf_27 hl (k := 3) rfl (by rw [ex_12]; rfl) (by decide) rfl (fun ls hl => ?_)
          refine lv_goto (tgt := 4) hx hb dX12_worthOf_30 (by decide) ?_
          exact ih_4 x_11 x_12 ls ry1_4 (rg_w rx_12 (by decide) (by decide)) (by have h1 := qx_12; have h2 := r_3.1; have h3 := r_3.2; have h4 := hm_4; omega) (lv_sub hl [2, 3, 1, 0] rfl)
  refine lv_iconst (v := 0) hx hb dX12_worthOf_0 (by decide) ?_
  refine lv_istore_n (lv' := [(2, .int 0), (0, .ref b0), (1, .int a1)]) hx hb dX12_worthOf_1 rfl hl (by decide) rfl (fun ls hl => ?_)
  refine lv_iconst (v := 1) hx hb dX12_worthOf_2 (by decide) ?_
  refine lv_istore_n (lv' := [(3, .int 1), (2, .int 0), (0, .ref b0), (1, .int a1)]) hx hb dX12_worthOf_3 rfl hl (by decide) rfl (fun ls hl => ?_)
  exact L_4 _ 0 1 ls pr1 (rg_w rl_1 (by decide) (by decide)) (Nat.lt_succ_self _) (lv_sub hl [2, 3, 1, 0] rfl)

set_option maxHeartbeats 4000000 in
set_option maxRecDepth 100000 in
theorem c_X12_goCut (l : Launch) (g : Gx) (Ty : TyM) (G : Gh) (sz : Nat) (b0 : Nat) (a1 : Int32) (k_b0 : Ty b0 = some (30, 122)) (pr1 : rgI (0) (23) a1) (ρ : Nat → Nat) (hT : P1 (G.2.1 b0) ρ) : Met l yX12_goCut (wsG yX12_goCut cX12_goCut 4 none) ({ frames := 3, cells := 0, slots := 0, locals := 66 }) (PcT g Ty G sz [.ref b0, .int a1]) (QwV g Ty sz (fun u => u.1 = Ty ∧ FR [] [b0] [] G u.2 ∧ W1 (u.2.2.1 b0) ρ)) 0 0 (AF Ty sz) := by
  refine Met.ofW (cc := cX12_goCut) (maxL := 4) (ret := none) (by decide) rfl ?_
  intro p e s m args below meth c s₁ B hml hv
  obtain ⟨rfl, hsz, hK, hH⟩ := hv
  subst hsz
  have hx := B.exec
  have hb := B.bytes
  have hr := B.returns
  have hts := atoms_spec (ws := (wsG yX12_goCut cX12_goCut 4 none)) B.pre
  have hG : ∀ w ∈ GW, w.before ([.ref b0, .int a1] : List Value).toArray s = true := fun w h => hts w (List.mem_cons_of_mem _ h)
  have hown : s.vm.findClass RX12 = some m.cls := findClass_of_methodNamed B.named
  have hlocks := B.notSynchronized
  have hl := lv_entry [.ref b0, .int a1] (n := 4) (Nat.le_of_ble_eq_true rfl)
  rw [lg_entry_eq]
  generalize (lg_sl [.ref b0, .int a1] ++ List.replicate (4 - (lg_sl [.ref b0, .int a1]).length) Slot.unset).toArray = ls at hl ⊢
  have hl : lv_has ls 4 [(0, .ref b0), (1, .int a1)] := hl
  have hS : va_S (AF Ty s.heap.size) s.heap s.heap [] := va_S.rf
  have L_12 : ∀ (n : Nat) (H : Heap) (locs : List Loc) (G_12 : Gh) (fl0_12 : Nat → Int32) (y2_12 : Int32) (y3_12 : Int32) (ls : Array Slot), FR [] [b0] [] G G_12 → G_12.2.1 b0 = fl0_12 → rgI (0) (24) y3_12 → W1 fl0_12 ρ → (24 - (y3_12).toInt).toNat < n → lv_has ls 4 [(0, .ref b0), (2, .int y2_12), (3, .int y3_12)] → HT g Ty G_12 H → va_S (AF Ty s.heap.size) s.heap H locs → Wm p l e (wsG yX12_goCut cX12_goCut 4 none) ({ frames := 3, cells := 0, slots := 0, locals := 66 }) s m [.ref b0, .int a1] below meth c H locs (0) (0) (QwV g Ty s.heap.size (fun u => u.1 = Ty ∧ FR [] [b0] [] G u.2 ∧ W1 (u.2.2.1 b0) ρ)) 0 0 (AF Ty s.heap.size) (F0 m 12 ls []) := by
    intro n
    induction n with
    | zero => intro H locs G_12 fl0_12 y2_12 y3_12 ls frL_12 efl0_12 ry3_12 hi0_12 hm; exact absurd hm (Nat.not_lt_zero _)
    | succ n ih_12 =>
      intro H locs G_12 fl0_12 y2_12 y3_12 ls frL_12 efl0_12 ry3_12 hi0_12 hm_12 hl hH hS
      refine lv_iload_n hx hb dX12_goCut_12 rfl (lv_at hl 2 rfl) ?_
      refine lv_bipush (v := 24) hx hb dX12_goCut_13 (by decide) ?_
      refine lv_icmp_ge (tgt := 37) hx hb dX12_goCut_15 (by decide) (fun c_1 => ?_) (fun c_1 => ?_)
      · have r_2 : rgI (24) (24) y3_12 := rg_w (rg_leR rl_24 ry3_12 c_1) (by decide) (by decide)
        exact W.vret hx hb hr (fun t ht hWm => ⟨⟨(Ty, G_12), rfl, ⟨rfl, ⟨frL_12, (by rw [efl0_12]; exact hi0_12)⟩⟩, by show HT g Ty G_12 t.heap; rw [ht]; exact hH⟩, hS.F ht⟩) hS.2.2 dX12_goCut_37
      · have r_3 : rgI (0) (23) y3_12 := rg_w (rg_ltL ry3_12 rl_24 (nle_lt c_1)) (by decide) (by decide)
        refine lv_iload_n hx hb dX12_goCut_18 rfl (lv_at hl 1 rfl) ?_
        refine lv_iload_n hx hb dX12_goCut_19 rfl (lv_at hl 2 rfl) ?_
        refine vp_callSi (W.runS (As := [.int y2_12, .int y3_12]) (rest := []) ⟨hx, hb, hml, hown, hts⟩ (c_X12_has l g Ty G_12 y2_12 y3_12 ) (cwSx 2 hts hG (gwC mw_1563) mw_88 mw_1561 mw_1562 rfl rfl rfl hd_X12_has ⟨Nat.le_of_ble_eq_true rfl, Nat.le_of_ble_eq_true rfl⟩) ⟨PcH_blind, PcH_pre hK hH⟩ rfl rfl hl.1 rfl (lv_room (Nat.le_of_ble_eq_true rfl)) dX12_goCut_20 ⟨Nat.zero_le _, Nat.zero_le _⟩) (fun x_4 hx_4 => ?_)
        have rx_4 : rgI (0) (1) x_4 := hx_4.1
        refine lv_if_eq (tgt := 31) hx hb dX12_goCut_23 (by decide) (fun c_5 => ?_) (fun c_5 => ?_)
        · have r_6 : rgI (0) (0) x_4 := rg_w (rg_eq rl_0 c_5) (by decide) (by decide)
          have hb_7 : bt y2_12 (y3_12 : Int32).toNatClampNeg = false := has_0 (rg_w r_3 (by decide) (by decide)) (by rw [← hx_4.2]; exact c_5)
          obtain ⟨x_8, ex_8⟩ : ∃ y : Int32, y = y3_12 + 1 := ⟨_, rfl⟩
          have rx_8 : rgI (1) (24) x_8 := by rw [ex_8]; exact rg_w (rg_add r_3 rl_1 (by decide) (by decide)) (by decide) (by decide)
          have qx_8 : x_8.toInt = (y3_12 : Int32).toInt + 1 := by rw [ex_8]; exact rg_addE r_3 rl_1 (by decide) (by decide)
          refine lv_iinc (v := x_8) (lv' := [(3, .int x_8), (0, .ref b0), (2, .int y2_12)]) hx hb dX12_goCut_31 hl (k := 2) rfl (by rw [ex_8]; rfl) (by decide) rfl (fun ls hl => ?_)
          refine lv_goto (tgt := 12) hx hb dX12_goCut_34 (by decide) ?_
          exact ih_12 H locs G_12 fl0_12 y2_12 x_8 ls frL_12 efl0_12 (rg_w rx_8 (by decide) (by decide)) hi0_12 (by have h1 := qx_8; have h2 := r_3.1; have h3 := r_3.2; have h4 := hm_12; omega) (lv_sub hl [1, 2, 0] rfl) hH hS
        · have r_9 : rgI (1) (1) x_4 := rg_w (rg_neL rx_4 rl_0 c_5) (by decide) (by decide)
          have hb_10 : bt y2_12 (y3_12 : Int32).toNatClampNeg = true := has_1 (rg_w r_3 (by decide) (by decide)) (by rw [← hx_4.2]; exact c_5)
          refine lv_aload_n hx hb dX12_goCut_26 rfl (lv_at hl 0 rfl) ?_
          refine lv_iload_n hx hb dX12_goCut_27 rfl (lv_at hl 2 rfl) ?_
          refine va_callv (va_runS (As := [.ref b0, .int y3_12]) (rest := []) ⟨hx, hb, hml, hown, hts⟩ (c_X12_clear l g Ty G_12 H.size b0 y3_12 k_b0 (rg_w r_3 (by decide) (by decide))) (cwSx 2 hts hG (gwC mw_1666) mw_88 mw_1664 mw_1665 rfl rfl rfl hd_X12_clear ⟨Nat.le_of_ble_eq_true rfl, Nat.le_of_ble_eq_true rfl⟩) ⟨PcT_blind, PcT_pre hK hH⟩ rfl rfl hl.1 rfl (lv_room (Nat.le_of_ble_eq_true rfl)) dX12_goCut_28 ⟨Nat.zero_le _, Nat.zero_le _⟩) hS (fun q _ h => AF.mono hS.1 h) (fun q h => AF.mono hS.1 h) (fun ux_11 t H locs ht hvm hx_11 hB hz hk hS => ?_)
          obtain ⟨eTx_11, eGx_11⟩ := hx_11
          obtain ⟨G_12, eG_12⟩ : ∃ z, z = ux_11.2 := ⟨_, rfl⟩
          rw [← eG_12] at eGx_11
          have hg_14 := eGx_11
          rw [efl0_12] at hg_14
          obtain ⟨f_13, ef_13⟩ : ∃ z : Nat → Int32, z = F_X12_clear fl0_12 y3_12 := ⟨_, rfl⟩
          rw [← ef_13] at hg_14
          have fr_15 : FR [] [b0] [] G G_12 := FR.a frL_12 hg_14 (fun b h => h.1)
          have w_16 : G_12.2.1 b0 = f_13 := by rw [hg_14]; exact aset_eq
          have hH : HT g Ty G_12 H := by rw [← ht, ← eTx_11, eG_12]; exact hB
          obtain ⟨x_17, ex_17⟩ : ∃ y : Int32, y = y3_12 + 1 := ⟨_, rfl⟩
          have rx_17 : rgI (1) (24) x_17 := by rw [ex_17]; exact rg_w (rg_add r_3 rl_1 (by decide) (by decide)) (by decide) (by decide)
          have qx_17 : x_17.toInt = (y3_12 : Int32).toInt + 1 := by rw [ex_17]; exact rg_addE r_3 rl_1 (by decide) (by decide)
          refine lv_iinc (v := x_17) (lv' := [(3, .int x_17), (0, .ref b0), (2, .int y2_12)]) hx hb dX12_goCut_31 hl (k := 2) rfl (by rw [ex_17]; rfl) (by decide) rfl (fun ls hl => ?_)
          refine lv_goto (tgt := 12) hx hb dX12_goCut_34 (by decide) ?_
          exact ih_12 H locs G_12 f_13 y2_12 x_17 ls fr_15 w_16 (rg_w rx_17 (by decide) (by decide)) (by rw [ef_13]; exact W1_clear hi0_12 r_3) (by have h1 := qx_17; have h2 := r_3.1; have h3 := r_3.2; have h4 := hm_12; omega) (lv_sub hl [1, 2, 0] rfl) hH hS
  refine lv_aload_n hx hb dX12_goCut_0 rfl (lv_at hl 0 rfl) ?_
  refine lv_iload_n hx hb dX12_goCut_1 rfl (lv_at hl 1 rfl) ?_
  refine vp_callSi (W.runS (As := [.ref b0, .int a1]) (rest := []) ⟨hx, hb, hml, hown, hts⟩ (c_X12_insideOf l g Ty G b0 a1 k_b0 ρ hT) (cwSx 2 hts hG (gwC mw_1740) mw_88 mw_1738 mw_1739 rfl rfl rfl hd_X12_insideOf ⟨Nat.le_of_ble_eq_true rfl, Nat.le_of_ble_eq_true rfl⟩) ⟨PcH_blind, PcH_pre hK hH⟩ rfl rfl hl.1 rfl (lv_room (Nat.le_of_ble_eq_true rfl)) dX12_goCut_2 ⟨Nat.zero_le _, Nat.zero_le _⟩) (fun x_18 hx_18 => ?_)
  refine lv_iconst (v := 1) hx hb dX12_goCut_5 (by decide) ?_
  refine lv_iload_n hx hb dX12_goCut_6 rfl (lv_at hl 1 rfl) ?_
  refine lv_ishl hx hb dX12_goCut_7 ?_
  refine lv_topi (fun x_19 ex_19 => ?_)
  refine lv_ior hx hb dX12_goCut_8 ?_
  refine lv_topi (fun x_20 ex_20 => ?_)
  refine lv_istore_n (lv' := [(2, .int x_20), (0, .ref b0), (1, .int a1)]) hx hb dX12_goCut_9 rfl hl (by decide) rfl (fun ls hl => ?_)
  refine lv_iconst (v := 0) hx hb dX12_goCut_10 (by decide) ?_
  refine lv_istore_n (lv' := [(3, .int 0), (2, .int x_20), (0, .ref b0), (1, .int a1)]) hx hb dX12_goCut_11 rfl hl (by decide) rfl (fun ls hl => ?_)
  exact L_12 _ s.heap [] G (G.2.1 b0) x_20 0 ls FR.rf rfl (rg_w rl_0 (by decide) (by decide)) (W1_of hT) (Nat.lt_succ_self _) (lv_sub hl [2, 1, 0] rfl) hH hS

set_option maxHeartbeats 4000000 in
set_option maxRecDepth 100000 in
theorem c_X12_hacks (l : Launch) (g : Gx) (Ty : TyM) (G : Gh) (sz : Nat) (h0 : Nat) (a0 : Int32) (k_h0 : Ty h0 = some (22, 0)) (Bd : Int) (hI : OI g Bd G) (hBd : Bd ≤ 1900000) (hLD : LD g) : Met l yX12_hacks (wsG yX12_hacks cX12_hacks 4 (some .int)) ({ frames := 26, cells := 0, slots := 0, locals := 598 }) (PcT g Ty G sz [.ref h0, .int a0]) (QwI g Ty sz (fun r u => u.1 = Ty ∧ FR [104, 105] [(g.2.2 124)] [] G u.2 ∧ OI g (Bd + 1000) u.2)) 0 0 (AF Ty sz) := by
  refine Met.ofW (cc := cX12_hacks) (maxL := 4) (ret := (some .int)) (by decide) rfl ?_
  intro p e s m args below meth c s₁ B hml hv
  obtain ⟨rfl, hsz, hK, hH⟩ := hv
  subst hsz
  have hx := B.exec
  have hb := B.bytes
  have hr := B.returns
  have hts := atoms_spec (ws := (wsG yX12_hacks cX12_hacks 4 (some .int))) B.pre
  have hG : ∀ w ∈ GW, w.before ([.ref h0, .int a0] : List Value).toArray s = true := fun w h => hts w (List.mem_cons_of_mem _ h)
  have hown : s.vm.findClass RX12 = some m.cls := findClass_of_methodNamed B.named
  have hlocks := B.notSynchronized
  have hl := lv_entry [.ref h0, .int a0] (n := 4) (Nat.le_of_ble_eq_true rfl)
  rw [lg_entry_eq]
  generalize (lg_sl [.ref h0, .int a0] ++ List.replicate (4 - (lg_sl [.ref h0, .int a0]).length) Slot.unset).toArray = ls at hl ⊢
  have hl : lv_has ls 4 [(0, .ref h0), (1, .int a0)] := hl
  have hmk : mdK g Ty := mdk_of hH k_h0
  have hS : va_S (AF Ty s.heap.size) s.heap s.heap [] := va_S.rf
  obtain ⟨⟨σ0, hTS0⟩, h10, hBB0⟩ := id hI.ti
  obtain ⟨ρ, hT⟩ := hTS0.1
  have L_34 : ∀ (n : Nat) (H : Heap) (locs : List Loc) (G_34 : Gh) (fl5_34 : Nat → Int32) (y2_34 : Int32) (y3_34 : Int32) (ls : Array Slot), rgI (0) (1) (G_34.1 104) → FR [104, 105] [(g.2.2 124)] [] G G_34 → G_34.2.1 (g.2.2 124) = fl5_34 → rgI (0) (23) a0 → rgI (0) (24) y3_34 → thr (G.2.1 (g.2.2 100)) a0 → (24 - (y3_34).toInt).toNat < n → lv_has ls 4 [(0, .ref h0), (1, .int a0), (2, .int y2_34), (3, .int y3_34)] → HT g Ty G_34 H → va_S (AF Ty s.heap.size) s.heap H locs → Wm p l e (wsG yX12_hacks cX12_hacks 4 (some .int)) ({ frames := 26, cells := 0, slots := 0, locals := 598 }) s m [.ref h0, .int a0] below meth c H locs (0) (0) (QwI g Ty s.heap.size (fun r u => u.1 = Ty ∧ FR [104, 105] [(g.2.2 124)] [] G u.2 ∧ OI g (Bd + 1000) u.2)) 0 0 (AF Ty s.heap.size) (F0 m 34 ls []) := by
    intro n
    induction n with
    | zero => intro H locs G_34 fl5_34 y2_34 y3_34 ls rg104_34 frL_34 efl5_34 ry1_34 ry3_34 hi0_34 hm; exact absurd hm (Nat.not_lt_zero _)
    | succ n ih_34 =>
      intro H locs G_34 fl5_34 y2_34 y3_34 ls rg104_34 frL_34 efl5_34 ry1_34 ry3_34 hi0_34 hm_34 hl hH hS
      refine lv_iload_n hx hb dX12_hacks_34 rfl (lv_at hl 3 rfl) ?_
      refine lv_bipush (v := 24) hx hb dX12_hacks_35 (by decide) ?_
      refine lv_icmp_ge (tgt := 101) hx hb dX12_hacks_37 (by decide) (fun c_1 => ?_) (fun c_1 => ?_)
      · have r_2 : rgI (24) (24) y3_34 := rg_w (rg_leR rl_24 ry3_34 c_1) (by decide) (by decide)
        refine lv_aload_n hx hb dX12_hacks_101 rfl (lv_at hl 0 rfl) ?_
        obtain ⟨_, ⟨rfl, t_4, hk_5⟩, o_c_3⟩ := hH h0 _ k_h0
        refine hg_get hx hb hG igX12 hown hK o_c_3 rfl 4 (by decide) (hG _ mw_1288) rfl dX12_hacks_102 ?_
        exact W.iret hx hb hr (fun t ht hWm => ⟨⟨(G_34.1 104), (Ty, G_34), rfl, ⟨rfl, ⟨frL_34, ⟨(by rw [(frL_34.1 102 (by decide))]; exact (rg_w hI.a102 (by decide) (by decide))), (rg_w rg104_34 (by decide) (by decide)), (by rw [(frL_34.1 113 (by decide))]; exact (rg_w hI.a113 (by decide) (by decide))), (by rw [(frL_34.1 122 (by decide))]; exact (rg_w hI.a122 (by decide) (by decide))), (by rw [(frL_34.1 133 (by decide))]; exact (rg_w hI.a133 (by decide) (by decide))), (by rw [(frL_34.1 137 (by decide))]; exact (rg_w hI.a137 (by decide) (by decide))), ((frL_34.2.2 111 (by decide)).trans hI.r111), ((frL_34.2.2 112 (by decide)).trans hI.r112), (by rw [(frL_34.2.1 (g.2.2 100) ⟨(hLD 100 (by decide) 124 (by decide) (by decide)), trivial⟩)]; exact (hI.ti.hi (show Bd ≤ Bd + 1000 by omega))), (hI.un2 (show Bd ≤ Bd + 1000 by omega) (frL_34.2.1 (g.2.2 121) ⟨(ne_kd hmk.2.2.2.2.2.1 hmk.2.2.2.2.2.2.2.1 (by decide)), trivial⟩) (frL_34.1 122 (by decide))), (hI.ke2 (show Bd ≤ Bd + 1000 by omega) (frL_34.2.1 (g.2.2 140) ⟨(ne_kd hmk.2.2.2.2.2.2.2.2.2.2.2.2.2.2.2.2.2.2.1 hmk.2.2.2.2.2.2.2.1 (by decide)), trivial⟩) (frL_34.2.1 (g.2.2 141) ⟨(ne_kd hmk.2.2.2.2.2.2.2.2.2.2.2.2.2.2.2.2.2.2.2.1 hmk.2.2.2.2.2.2.2.1 (by decide)), trivial⟩))⟩⟩⟩, by show HT g Ty G_34 t.heap; rw [ht]; exact hH⟩, hS.F ht⟩) hS.2.2 dX12_hacks_105
      · have r_6 : rgI (0) (23) y3_34 := rg_w (rg_ltL ry3_34 rl_24 (nle_lt c_1)) (by decide) (by decide)
        refine lv_aload_n hx hb dX12_hacks_40 rfl (lv_at hl 0 rfl) ?_
        obtain ⟨_, ⟨rfl, t_8, hk_9⟩, o_c_7⟩ := hH h0 _ k_h0
        refine hg_get hx hb hG igX12 hown hK o_c_7 rfl 4 (by decide) (hG _ mw_1288) rfl dX12_hacks_41 ?_
        refine lv_if_ne (tgt := 101) hx hb dX12_hacks_44 (by decide) (fun c_10 => ?_) (fun c_10 => ?_)
        · have r_11 : rgI (1) (1) (G_34.1 104) := rg_w (rg_neL rg104_34 rl_0 c_10) (by decide) (by decide)
          refine lv_aload_n hx hb dX12_hacks_101 rfl (lv_at hl 0 rfl) ?_
          refine hg_get hx hb hG igX12 hown hK o_c_7 rfl 4 (by decide) (hG _ mw_1288) rfl dX12_hacks_102 ?_
          exact W.iret hx hb hr (fun t ht hWm => ⟨⟨(G_34.1 104), (Ty, G_34), rfl, ⟨rfl, ⟨frL_34, ⟨(by rw [(frL_34.1 102 (by decide))]; exact (rg_w hI.a102 (by decide) (by decide))), (rg_w r_11 (by decide) (by decide)), (by rw [(frL_34.1 113 (by decide))]; exact (rg_w hI.a113 (by decide) (by decide))), (by rw [(frL_34.1 122 (by decide))]; exact (rg_w hI.a122 (by decide) (by decide))), (by rw [(frL_34.1 133 (by decide))]; exact (rg_w hI.a133 (by decide) (by decide))), (by rw [(frL_34.1 137 (by decide))]; exact (rg_w hI.a137 (by decide) (by decide))), ((frL_34.2.2 111 (by decide)).trans hI.r111), ((frL_34.2.2 112 (by decide)).trans hI.r112), (by rw [(frL_34.2.1 (g.2.2 100) ⟨(hLD 100 (by decide) 124 (by decide) (by decide)), trivial⟩)]; exact (hI.ti.hi (show Bd ≤ Bd + 1000 by omega))), (hI.un2 (show Bd ≤ Bd + 1000 by omega) (frL_34.2.1 (g.2.2 121) ⟨(ne_kd hmk.2.2.2.2.2.1 hmk.2.2.2.2.2.2.2.1 (by decide)), trivial⟩) (frL_34.1 122 (by decide))), (hI.ke2 (show Bd ≤ Bd + 1000 by omega) (frL_34.2.1 (g.2.2 140) ⟨(ne_kd hmk.2.2.2.2.2.2.2.2.2.2.2.2.2.2.2.2.2.2.1 hmk.2.2.2.2.2.2.2.1 (by decide)), trivial⟩) (frL_34.2.1 (g.2.2 141) ⟨(ne_kd hmk.2.2.2.2.2.2.2.2.2.2.2.2.2.2.2.2.2.2.2.1 hmk.2.2.2.2.2.2.2.1 (by decide)), trivial⟩))⟩⟩⟩, by show HT g Ty G_34 t.heap; rw [ht]; exact hH⟩, hS.F ht⟩) hS.2.2 dX12_hacks_105
        · have r_12 : rgI (0) (0) (G_34.1 104) := rg_w (rg_eq rl_0 c_10) (by decide) (by decide)
          refine lv_iload_n hx hb dX12_hacks_47 rfl (lv_at hl 2 rfl) ?_
          refine lv_iload_n hx hb dX12_hacks_48 rfl (lv_at hl 3 rfl) ?_
          refine vp_callSi (W.runS (As := [.int y2_34, .int y3_34]) (rest := []) ⟨hx, hb, hml, hown, hts⟩ (c_X12_has l g Ty G_34 y2_34 y3_34 ) (cwSx 2 hts hG (gwC mw_1563) mw_88 mw_1561 mw_1562 rfl rfl rfl hd_X12_has ⟨Nat.le_of_ble_eq_true rfl, Nat.le_of_ble_eq_true rfl⟩) ⟨PcH_blind, PcH_pre hK hH⟩ rfl rfl hl.1 rfl (lv_room (Nat.le_of_ble_eq_true rfl)) dX12_hacks_49 ⟨Nat.zero_le _, Nat.zero_le _⟩) (fun x_13 hx_13 => ?_)
          have rx_13 : rgI (0) (1) x_13 := hx_13.1
          refine lv_if_ne (tgt := 58) hx hb dX12_hacks_52 (by decide) (fun c_14 => ?_) (fun c_14 => ?_)
          · have r_15 : rgI (1) (1) x_13 := rg_w (rg_neL rx_13 rl_0 c_14) (by decide) (by decide)
            have hb_16 : bt y2_34 (y3_34 : Int32).toNatClampNeg = true := has_1 (rg_w r_6 (by decide) (by decide)) (by rw [← hx_13.2]; exact c_14)
            refine lv_aload_n hx hb dX12_hacks_58 rfl (lv_at hl 0 rfl) ?_
            refine hg_get hx hb hG igX12 hown hK o_c_7 rfl 0 (by decide) (hG _ mw_1284) rfl dX12_hacks_59 ?_
            refine lv_aload_n hx hb dX12_hacks_62 rfl (lv_at hl 0 rfl) ?_
            refine hg_get hx hb hG igX12 hown hK o_c_7 rfl 24 (by decide) (hG _ mw_1308) rfl dX12_hacks_63 ?_
            refine lv_iconst (v := 0) hx hb dX12_hacks_66 (by decide) ?_
            refine va_callv (va_runS (As := [.ref (g.2.2 100), .ref (g.2.2 124), .int 0]) (rest := []) ⟨hx, hb, hml, hown, hts⟩ (c_X12_lay_a l g Ty G_34 H.size (g.2.2 100) (g.2.2 124) 0 (hk_9.1) (hk_9.2.2.2.2.2.2.2.1) (rg_w rl_0 (by decide) (by decide)) (hLD 100 (by decide) 124 (by decide) (by decide))) (cwSx 3 hts hG (gwC mw_1583) mw_88 mw_1581 mw_1582 rfl rfl rfl hd_X12_lay ⟨Nat.le_of_ble_eq_true rfl, Nat.le_of_ble_eq_true rfl⟩) ⟨PcT_blind, PcT_pre hK hH⟩ rfl rfl hl.1 rfl (lv_room (Nat.le_of_ble_eq_true rfl)) dX12_hacks_67 ⟨Nat.zero_le _, Nat.zero_le _⟩) hS (fun q _ h => AF.mono hS.1 h) (fun q h => AF.mono hS.1 h) (fun ux_17 t H locs ht hvm hx_17 hB hz hk hS => ?_)
            obtain ⟨eTx_17, eGx_17⟩ := hx_17
            obtain ⟨G_18, eG_18⟩ : ∃ z, z = ux_17.2 := ⟨_, rfl⟩
            rw [← eG_18] at eGx_17
            obtain ⟨hfr_19, hex_20⟩ := eGx_17
            have fr_21 : FR [104, 105] [(g.2.2 124)] [] G G_18 := FR.tr frL_34 hfr_19 (by decide) (fun b h => ⟨h.1, trivial⟩) (by decide)
            have u_22 : G_18.1 104 = (G_34.1 104) := (hfr_19.1 104 (by decide))
            have u_23 : G_18.1 102 = (G.1 102) := (hfr_19.1 102 (by decide)).trans (frL_34.1 102 (by decide))
            have u_24 : G_18.1 113 = (G.1 113) := (hfr_19.1 113 (by decide)).trans (frL_34.1 113 (by decide))
            have u_25 : G_18.1 122 = (G.1 122) := (hfr_19.1 122 (by decide)).trans (frL_34.1 122 (by decide))
            have u_26 : G_18.1 133 = (G.1 133) := (hfr_19.1 133 (by decide)).trans (frL_34.1 133 (by decide))
            have u_27 : G_18.1 137 = (G.1 137) := (hfr_19.1 137 (by decide)).trans (frL_34.1 137 (by decide))
            have w_28 : G_18.2.1 (g.2.2 100) = (G.2.1 (g.2.2 100)) := (hfr_19.2.1 (g.2.2 100) ⟨(hLD 100 (by decide) 124 (by decide) (by decide)), trivial⟩).trans (frL_34.2.1 (g.2.2 100) ⟨(hLD 100 (by decide) 124 (by decide) (by decide)), trivial⟩)
            have w_29 : G_18.2.1 (g.2.2 121) = (G.2.1 (g.2.2 121)) := (hfr_19.2.1 (g.2.2 121) ⟨(ne_kd hmk.2.2.2.2.2.1 hmk.2.2.2.2.2.2.2.1 (by decide)), trivial⟩).trans (frL_34.2.1 (g.2.2 121) ⟨(ne_kd hmk.2.2.2.2.2.1 hmk.2.2.2.2.2.2.2.1 (by decide)), trivial⟩)
            have w_30 : G_18.2.1 (g.2.2 140) = (G.2.1 (g.2.2 140)) := (hfr_19.2.1 (g.2.2 140) ⟨(ne_kd hmk.2.2.2.2.2.2.2.2.2.2.2.2.2.2.2.2.2.2.1 hmk.2.2.2.2.2.2.2.1 (by decide)), trivial⟩).trans (frL_34.2.1 (g.2.2 140) ⟨(ne_kd hmk.2.2.2.2.2.2.2.2.2.2.2.2.2.2.2.2.2.2.1 hmk.2.2.2.2.2.2.2.1 (by decide)), trivial⟩)
            have w_31 : G_18.2.1 (g.2.2 141) = (G.2.1 (g.2.2 141)) := (hfr_19.2.1 (g.2.2 141) ⟨(ne_kd hmk.2.2.2.2.2.2.2.2.2.2.2.2.2.2.2.2.2.2.2.1 hmk.2.2.2.2.2.2.2.1 (by decide)), trivial⟩).trans (frL_34.2.1 (g.2.2 141) ⟨(ne_kd hmk.2.2.2.2.2.2.2.2.2.2.2.2.2.2.2.2.2.2.2.1 hmk.2.2.2.2.2.2.2.1 (by decide)), trivial⟩)
            have w_32 : G_18.2.1 (g.2.2 111) = (G.2.1 (g.2.2 111)) := (hfr_19.2.1 (g.2.2 111) ⟨(ne_kd hmk.2.2.2.2.2.2.2.2.2.2.2.2.2.2.2.2.2.2.2.2.1 hmk.2.2.2.2.2.2.2.1 (by decide)), trivial⟩).trans (frL_34.2.1 (g.2.2 111) ⟨(ne_kd hmk.2.2.2.2.2.2.2.2.2.2.2.2.2.2.2.2.2.2.2.2.1 hmk.2.2.2.2.2.2.2.1 (by decide)), trivial⟩)
            have u_33 : G_18.2.2 111 = some (g.2.2 111) := (hfr_19.2.2 111 (by decide)).trans ((frL_34.2.2 111 (by decide)).trans hI.r111)
            have u_34 : G_18.2.2 112 = some (g.2.2 112) := (hfr_19.2.2 112 (by decide)).trans ((frL_34.2.2 112 (by decide)).trans hI.r112)
            obtain ⟨f_35, ef_35⟩ : ∃ z : Nat → Int32, G_18.2.1 (g.2.2 124) = z := ⟨_, rfl⟩
            have ly_36 := hex_20
            rw [ef_35, (frL_34.2.1 (g.2.2 100) ⟨(hLD 100 (by decide) 124 (by decide) (by decide)), trivial⟩), efl5_34] at ly_36
            have hH : HT g Ty G_18 H := by rw [← ht, ← eTx_17, eG_18]; exact hB
            have sr_37 : SR (G.2.1 (g.2.2 100)) f_35 := LY_sr ly_36
            refine lv_aload_n hx hb dX12_hacks_70 rfl (lv_at hl 0 rfl) ?_
            obtain ⟨_, ⟨rfl, t_39, hk_40⟩, o_c_38⟩ := hH h0 _ k_h0
            refine hg_get hx hb hG igX12 hown hK o_c_38 rfl 24 (by decide) (hG _ mw_1308) rfl dX12_hacks_71 ?_
            refine lv_iload_n hx hb dX12_hacks_74 rfl (lv_at hl 3 rfl) ?_
            refine va_callv (va_runS (As := [.ref (g.2.2 124), .int y3_34]) (rest := []) ⟨hx, hb, hml, hown, hts⟩ (c_X12_goCut l g Ty G_18 H.size (g.2.2 124) y3_34 (hk_40.2.2.2.2.2.2.2.1) (rg_w r_6 (by decide) (by decide)) ρ (by rw [ef_35]; exact (SR_p1 sr_37 hT))) (cwSx 2 hts hG (gwC mw_1835) mw_88 mw_1833 mw_1834 rfl rfl rfl hd_X12_goCut ⟨Nat.le_of_ble_eq_true rfl, Nat.le_of_ble_eq_true rfl⟩) ⟨PcT_blind, PcT_pre hK hH⟩ rfl rfl hl.1 rfl (lv_room (Nat.le_of_ble_eq_true rfl)) dX12_hacks_75 ⟨Nat.zero_le _, Nat.zero_le _⟩) hS (fun q _ h => AF.mono hS.1 h) (fun q h => AF.mono hS.1 h) (fun ux_41 t H locs ht hvm hx_41 hB hz hk hS => ?_)
            obtain ⟨eTx_41, eGx_41⟩ := hx_41
            obtain ⟨G_42, eG_42⟩ : ∃ z, z = ux_41.2 := ⟨_, rfl⟩
            rw [← eG_42] at eGx_41
            obtain ⟨hfr_43, hex_44⟩ := eGx_41
            have fr_45 : FR [104, 105] [(g.2.2 124)] [] G G_42 := FR.tr fr_21 hfr_43 (by decide) (fun b h => ⟨h.1, trivial⟩) (by decide)
            have u_46 : G_42.1 104 = (G_34.1 104) := (hfr_43.1 104 (by decide)).trans u_22
            have u_47 : G_42.1 102 = (G.1 102) := (hfr_43.1 102 (by decide)).trans u_23
            have u_48 : G_42.1 113 = (G.1 113) := (hfr_43.1 113 (by decide)).trans u_24
            have u_49 : G_42.1 122 = (G.1 122) := (hfr_43.1 122 (by decide)).trans u_25
            have u_50 : G_42.1 133 = (G.1 133) := (hfr_43.1 133 (by decide)).trans u_26
            have u_51 : G_42.1 137 = (G.1 137) := (hfr_43.1 137 (by decide)).trans u_27
            have w_52 : G_42.2.1 (g.2.2 100) = (G.2.1 (g.2.2 100)) := (hfr_43.2.1 (g.2.2 100) ⟨(hLD 100 (by decide) 124 (by decide) (by decide)), trivial⟩).trans w_28
            have w_53 : G_42.2.1 (g.2.2 121) = (G.2.1 (g.2.2 121)) := (hfr_43.2.1 (g.2.2 121) ⟨(ne_kd hmk.2.2.2.2.2.1 hmk.2.2.2.2.2.2.2.1 (by decide)), trivial⟩).trans w_29
            have w_54 : G_42.2.1 (g.2.2 140) = (G.2.1 (g.2.2 140)) := (hfr_43.2.1 (g.2.2 140) ⟨(ne_kd hmk.2.2.2.2.2.2.2.2.2.2.2.2.2.2.2.2.2.2.1 hmk.2.2.2.2.2.2.2.1 (by decide)), trivial⟩).trans w_30
            have w_55 : G_42.2.1 (g.2.2 141) = (G.2.1 (g.2.2 141)) := (hfr_43.2.1 (g.2.2 141) ⟨(ne_kd hmk.2.2.2.2.2.2.2.2.2.2.2.2.2.2.2.2.2.2.2.1 hmk.2.2.2.2.2.2.2.1 (by decide)), trivial⟩).trans w_31
            have w_56 : G_42.2.1 (g.2.2 111) = (G.2.1 (g.2.2 111)) := (hfr_43.2.1 (g.2.2 111) ⟨(ne_kd hmk.2.2.2.2.2.2.2.2.2.2.2.2.2.2.2.2.2.2.2.2.1 hmk.2.2.2.2.2.2.2.1 (by decide)), trivial⟩).trans w_32
            have u_57 : G_42.2.2 111 = some (g.2.2 111) := (hfr_43.2.2 111 (by decide)).trans u_33
            have u_58 : G_42.2.2 112 = some (g.2.2 112) := (hfr_43.2.2 112 (by decide)).trans u_34
            obtain ⟨f_59, ef_59⟩ : ∃ z : Nat → Int32, G_42.2.1 (g.2.2 124) = z := ⟨_, rfl⟩
            have w1_60 := hex_44
            rw [ef_59] at w1_60
            have hH : HT g Ty G_42 H := by rw [← ht, ← eTx_41, eG_42]; exact hB
            refine lv_aload_n hx hb dX12_hacks_78 rfl (lv_at hl 0 rfl) ?_
            obtain ⟨_, ⟨rfl, t_62, hk_63⟩, o_c_61⟩ := hH h0 _ k_h0
            refine hg_get hx hb hG igX12 hown hK o_c_61 rfl 24 (by decide) (hG _ mw_1308) rfl dX12_hacks_79 ?_
            refine lv_iload_n hx hb dX12_hacks_82 rfl (lv_at hl 1 rfl) ?_
            refine vp_callSi (W.runS (As := [.ref (g.2.2 124), .int a0]) (rest := []) ⟨hx, hb, hml, hown, hts⟩ (c_X12_worthOf l g 25 Ty G_42 (g.2.2 124) a0 (hk_63.2.2.2.2.2.2.2.1) (rg_w ry1_34 (by decide) (by decide)) ρ (by rw [ef_59]; exact w1_60) (by omega)) (cwSx 2 hts hG (gwC mw_1838) mw_88 mw_1836 mw_1837 rfl rfl rfl hd_X12_worthOf ⟨Nat.le_of_ble_eq_true rfl, Nat.le_of_ble_eq_true rfl⟩) ⟨PcH_blind, PcH_pre hK hH⟩ rfl rfl hl.1 rfl (lv_room (Nat.le_of_ble_eq_true rfl)) dX12_hacks_83 ⟨Nat.zero_le _, Nat.zero_le _⟩) (fun x_64 hx_64 => ?_)
            refine lv_if_ne (tgt := 95) hx hb dX12_hacks_86 (by decide) (fun c_65 => ?_) (fun c_65 => ?_)
            · obtain ⟨x_66, ex_66⟩ : ∃ y : Int32, y = y3_34 + 1 := ⟨_, rfl⟩
              have rx_66 : rgI (1) (24) x_66 := by rw [ex_66]; exact rg_w (rg_add r_6 rl_1 (by decide) (by decide)) (by decide) (by decide)
              have qx_66 : x_66.toInt = (y3_34 : Int32).toInt + 1 := by rw [ex_66]; exact rg_addE r_6 rl_1 (by decide) (by decide)
              refine lv_iinc (v := x_66) (lv' := [(3, .int x_66), (0, .ref h0), (1, .int a0), (2, .int y2_34)]) hx hb dX12_hacks_95 hl (k := 3) rfl (by rw [ex_66]; rfl) (by decide) rfl (fun ls hl => ?_)
              refine lv_goto (tgt := 34) hx hb dX12_hacks_98 (by decide) ?_
              exact ih_34 H locs G_42 f_59 y2_34 x_66 ls (by rw [u_46]; exact rg_w r_12 (by decide) (by decide)) fr_45 ef_59 ry1_34 (rg_w rx_66 (by decide) (by decide)) hi0_34 (by have h1 := qx_66; have h2 := r_6.1; have h3 := r_6.2; have h4 := hm_34; omega) (lv_sub hl [1, 2, 3, 0] rfl) hH hS
            · have r_67 : rgI (0) (0) x_64 := rg_w (rg_eq rl_0 c_65) (by decide) (by decide)
              refine lv_aload_n hx hb dX12_hacks_89 rfl (lv_at hl 0 rfl) ?_
              refine lv_iload_n hx hb dX12_hacks_90 rfl (lv_at hl 3 rfl) ?_
              refine lv_i2l hx hb dX12_hacks_91 rfl ?_
              refine lv_topl (fun u_68 eu_68 => ?_)
              refine va_callv (va_runV (As := [.long u_68]) (rest := []) ⟨hx, hb, hml, hown, hts⟩ (c_X12_tell l g Ty G_42 H.size h0 u_68 k_h0 (by rw [u_46]; exact rg_w r_12 (by decide) (by decide))) (cwV 1 hts (gwV mw_1510 mw_1512 mw_48 mw_88 mw_1513) rfl rfl rfl hv_X12_tell ⟨Nat.le_of_ble_eq_true rfl, Nat.le_of_ble_eq_true rfl⟩) ⟨PcT_blind, hg_recv hK o_c_61 rfl, PcT_pre hK hH⟩ rfl rfl hl.1 rfl (lv_room (Nat.le_of_ble_eq_true rfl)) dX12_hacks_92 ⟨Nat.zero_le _, Nat.zero_le _⟩) hS (fun q _ h => AF.mono hS.1 h) (fun q h => AF.mono hS.1 h) (fun ux_69 t H locs ht hvm hx_69 hB hz hk hS => ?_)
              obtain ⟨eTx_69, eGx_69⟩ := hx_69
              obtain ⟨G_70, eG_70⟩ : ∃ z, z = ux_69.2 := ⟨_, rfl⟩
              rw [← eG_70] at eGx_69
              obtain ⟨x_71, ex_71⟩ : ∃ z : Int32, z = (G_34.1 104) + 1 := ⟨_, rfl⟩
              have e_72 : G_70 = gset G_42 104 x_71 := by rw [ex_71, ← u_46]; exact eGx_69
              have rx_71 : rgI (1) (1) x_71 := by rw [ex_71]; exact rg_w (rg_add r_12 rl_1 (by decide) (by decide)) (by decide) (by decide)
              have fr_73 : FR [104, 105] [(g.2.2 124)] [] G G_70 := FR.n fr_45 e_72 (by decide)
              have u_74 : G_70.1 102 = (G.1 102) := by rw [e_72]; exact (gs_ne (by decide)).trans u_47
              have u_75 : G_70.1 113 = (G.1 113) := by rw [e_72]; exact (gs_ne (by decide)).trans u_48
              have u_76 : G_70.1 122 = (G.1 122) := by rw [e_72]; exact (gs_ne (by decide)).trans u_49
              have u_77 : G_70.1 133 = (G.1 133) := by rw [e_72]; exact (gs_ne (by decide)).trans u_50
              have u_78 : G_70.1 137 = (G.1 137) := by rw [e_72]; exact (gs_ne (by decide)).trans u_51
              have u_79 : G_70.1 104 = x_71 := by rw [e_72]; exact gs_eq
              have w_80 : G_70.2.1 (g.2.2 100) = (G.2.1 (g.2.2 100)) := by rw [e_72]; exact w_52
              have w_81 : G_70.2.1 (g.2.2 121) = (G.2.1 (g.2.2 121)) := by rw [e_72]; exact w_53
              have w_82 : G_70.2.1 (g.2.2 140) = (G.2.1 (g.2.2 140)) := by rw [e_72]; exact w_54
              have w_83 : G_70.2.1 (g.2.2 141) = (G.2.1 (g.2.2 141)) := by rw [e_72]; exact w_55
              have w_84 : G_70.2.1 (g.2.2 111) = (G.2.1 (g.2.2 111)) := by rw [e_72]; exact w_56
              have w_85 : G_70.2.1 (g.2.2 124) = f_59 := by rw [e_72]; exact ef_59
              have u_86 : G_70.2.2 111 = some (g.2.2 111) := by rw [e_72]; exact u_57
              have u_87 : G_70.2.2 112 = some (g.2.2 112) := by rw [e_72]; exact u_58
              have hH : HT g Ty G_70 H := by rw [← ht, ← eTx_69, eG_70]; exact hB
              obtain ⟨x_88, ex_88⟩ : ∃ y : Int32, y = y3_34 + 1 := ⟨_, rfl⟩
              have rx_88 : rgI (1) (24) x_88 := by rw [ex_88]; exact rg_w (rg_add r_6 rl_1 (by decide) (by decide)) (by decide) (by decide)
              have qx_88 : x_88.toInt = (y3_34 : Int32).toInt + 1 := by rw [ex_88]; exact rg_addE r_6 rl_1 (by decide) (by decide)
              refine lv_iinc (v := x_88) (lv' := [(3, .int x_88), (0, .ref h0), (1, .int a0), (2, .int y2_34)]) hx hb dX12_hacks_95 hl (k := 3) rfl (by rw [ex_88]; rfl) (by decide) rfl (fun ls hl => ?_)
              refine lv_goto (tgt := 34) hx hb dX12_hacks_98 (by decide) ?_
              exact ih_34 H locs G_70 f_59 y2_34 x_88 ls (by rw [u_79]; exact rg_w rx_71 (by decide) (by decide)) fr_73 w_85 ry1_34 (rg_w rx_88 (by decide) (by decide)) hi0_34 (by have h1 := qx_88; have h2 := r_6.1; have h3 := r_6.2; have h4 := hm_34; omega) (lv_sub hl [1, 2, 3, 0] rfl) hH hS
          · have r_89 : rgI (0) (0) x_13 := rg_w (rg_eq rl_0 c_14) (by decide) (by decide)
            have hb_90 : bt y2_34 (y3_34 : Int32).toNatClampNeg = false := has_0 (rg_w r_6 (by decide) (by decide)) (by rw [← hx_13.2]; exact c_14)
            refine lv_goto (tgt := 95) hx hb dX12_hacks_55 (by decide) ?_
            obtain ⟨x_91, ex_91⟩ : ∃ y : Int32, y = y3_34 + 1 := ⟨_, rfl⟩
            have rx_91 : rgI (1) (24) x_91 := by rw [ex_91]; exact rg_w (rg_add r_6 rl_1 (by decide) (by decide)) (by decide) (by decide)
            have qx_91 : x_91.toInt = (y3_34 : Int32).toInt + 1 := by rw [ex_91]; exact rg_addE r_6 rl_1 (by decide) (by decide)
            refine lv_iinc (v := x_91) (lv' := [(3, .int x_91), (0, .ref h0), (1, .int a0), (2, .int y2_34)]) hx hb dX12_hacks_95 hl (k := 3) rfl (by rw [ex_91]; rfl) (by decide) rfl (fun ls hl => ?_)
            refine lv_goto (tgt := 34) hx hb dX12_hacks_98 (by decide) ?_
            exact ih_34 H locs G_34 fl5_34 y2_34 x_91 ls (rg_w r_12 (by decide) (by decide)) frL_34 efl5_34 ry1_34 (rg_w rx_91 (by decide) (by decide)) hi0_34 (by have h1 := qx_91; have h2 := r_6.1; have h3 := r_6.2; have h4 := hm_34; omega) (lv_sub hl [1, 2, 3, 0] rfl) hH hS
  refine lv_aload_n hx hb dX12_hacks_0 rfl (lv_at hl 0 rfl) ?_
  refine lv_iconst (v := 0) hx hb dX12_hacks_1 (by decide) ?_
  obtain ⟨_, ⟨rfl, t_93, hk_94⟩, o_c_92⟩ := hH h0 _ k_h0
  refine hg_put (ty := .int) hx hb hG igX12 tyX12 tyX12_ok nmX12 hown hK hS o_c_92 (AF.of k_h0) rfl 5 (by decide) (hG _ mw_1289) rfl (by decide +kernel) rfl rfl (Nat.le_of_ble_eq_true rfl) dX12_hacks_2 (fun H locs o_c_92 hz oq hS => ?_)
  obtain ⟨G_95, eG_95⟩ : ∃ z : Gh, z = gset G 105 0 := ⟨_, rfl⟩
  have hH : HT g Ty G_95 H := by rw [eG_95]; exact HT.putN 105 0 hH k_h0 ⟨rfl, t_93, hk_94⟩ o_c_92 oq (Or.inr (Or.inr (Or.inr (Or.inr (Or.inr ⟨by decide, t_93⟩)))))
  have fr_96 : FR [104, 105] [(g.2.2 124)] [] G G_95 := FR.n FR.rf eG_95 (by decide)
  have u_97 : G_95.1 102 = (G.1 102) := by rw [eG_95]; exact (gs_ne (by decide))
  have u_98 : G_95.1 104 = (G.1 104) := by rw [eG_95]; exact (gs_ne (by decide))
  have u_99 : G_95.1 113 = (G.1 113) := by rw [eG_95]; exact (gs_ne (by decide))
  have u_100 : G_95.1 122 = (G.1 122) := by rw [eG_95]; exact (gs_ne (by decide))
  have u_101 : G_95.1 133 = (G.1 133) := by rw [eG_95]; exact (gs_ne (by decide))
  have u_102 : G_95.1 137 = (G.1 137) := by rw [eG_95]; exact (gs_ne (by decide))
  have u_103 : G_95.1 105 = 0 := by rw [eG_95]; exact gs_eq
  have w_104 : G_95.2.1 (g.2.2 100) = (G.2.1 (g.2.2 100)) := by rw [eG_95]; exact rfl
  have w_105 : G_95.2.1 (g.2.2 121) = (G.2.1 (g.2.2 121)) := by rw [eG_95]; exact rfl
  have w_106 : G_95.2.1 (g.2.2 140) = (G.2.1 (g.2.2 140)) := by rw [eG_95]; exact rfl
  have w_107 : G_95.2.1 (g.2.2 141) = (G.2.1 (g.2.2 141)) := by rw [eG_95]; exact rfl
  have w_108 : G_95.2.1 (g.2.2 111) = (G.2.1 (g.2.2 111)) := by rw [eG_95]; exact rfl
  have w_109 : G_95.2.1 (g.2.2 124) = (G.2.1 (g.2.2 124)) := by rw [eG_95]; exact rfl
  have u_110 : G_95.2.2 111 = some (g.2.2 111) := by rw [eG_95]; exact hI.r111
  have u_111 : G_95.2.2 112 = some (g.2.2 112) := by rw [eG_95]; exact hI.r112
  clear oq hz
  refine lv_aload_n hx hb dX12_hacks_5 rfl (lv_at hl 0 rfl) ?_
  obtain ⟨_, ⟨rfl, t_113, hk_114⟩, o_c_112⟩ := hH h0 _ k_h0
  refine hg_get hx hb hG igX12 hown hK o_c_112 rfl 0 (by decide) (hG _ mw_1284) rfl dX12_hacks_6 ?_
  refine lv_iload_n hx hb dX12_hacks_9 rfl (lv_at hl 1 rfl) ?_
  refine vp_callSi (W.runS (As := [.ref (g.2.2 100), .int a0]) (rest := []) ⟨hx, hb, hml, hown, hts⟩ (c_X12_isThere l g Ty G_95 (g.2.2 100) a0 (hk_114.1)) (cwSx 2 hts hG (gwC mw_1520) mw_88 mw_1518 mw_1519 rfl rfl rfl hd_X12_isThere ⟨Nat.le_of_ble_eq_true rfl, Nat.le_of_ble_eq_true rfl⟩) ⟨PcH_blind, PcH_pre hK hH⟩ rfl rfl hl.1 rfl (lv_room (Nat.le_of_ble_eq_true rfl)) dX12_hacks_10 ⟨Nat.zero_le _, Nat.zero_le _⟩) (fun x_115 hx_115 => ?_)
  have rx_115 : rgI (0) (1) x_115 := hx_115.1
  have ex_116 : x_115 = F_X12_isThere (G.2.1 (g.2.2 100)) a0 := by rw [← w_104]; exact hx_115.2.2
  refine lv_if_ne (tgt := 18) hx hb dX12_hacks_13 (by decide) (fun c_117 => ?_) (fun c_117 => ?_)
  · have th_118 : thr (G.2.1 (g.2.2 100)) a0 := F_isThere_thr (by rw [← ex_116]; exact c_117)
    have r_119 : rgI (1) (1) x_115 := rg_w (rg_neL rx_115 rl_0 c_117) (by decide) (by decide)
    have r_120 : rgI (0) (23) a0 := rg_w (hx_115.2.1.resolve_left c_117) (by decide) (by decide)
    refine lv_aload_n hx hb dX12_hacks_18 rfl (lv_at hl 0 rfl) ?_
    refine hg_get hx hb hG igX12 hown hK o_c_112 rfl 0 (by decide) (hG _ mw_1284) rfl dX12_hacks_19 ?_
    refine lv_iload_n hx hb dX12_hacks_22 rfl (lv_at hl 1 rfl) ?_
    refine vp_callSi (W.runS (As := [.ref (g.2.2 100), .int a0]) (rest := []) ⟨hx, hb, hml, hown, hts⟩ (c_X12_insideOf l g Ty G_95 (g.2.2 100) a0 (hk_114.1) ρ (by rw [w_104]; exact hT)) (cwSx 2 hts hG (gwC mw_1740) mw_88 mw_1738 mw_1739 rfl rfl rfl hd_X12_insideOf ⟨Nat.le_of_ble_eq_true rfl, Nat.le_of_ble_eq_true rfl⟩) ⟨PcH_blind, PcH_pre hK hH⟩ rfl rfl hl.1 rfl (lv_room (Nat.le_of_ble_eq_true rfl)) dX12_hacks_23 ⟨Nat.zero_le _, Nat.zero_le _⟩) (fun x_121 hx_121 => ?_)
    have tx_122 := hx_121
    try rw [w_104] at tx_122
    try rw [w_108] at tx_122
    try rw [u_99] at tx_122
    refine lv_istore_n (lv' := [(2, .int x_121), (0, .ref h0), (1, .int a0)]) hx hb dX12_hacks_26 rfl hl (by decide) rfl (fun ls hl => ?_)
    refine lv_aload_n hx hb dX12_hacks_27 rfl (lv_at hl 1 rfl) ?_
    refine lv_iconst (v := 0) hx hb dX12_hacks_28 (by decide) ?_
    refine hg_put (ty := .int) hx hb hG igX12 tyX12 tyX12_ok nmX12 hown hK hS o_c_112 (AF.of k_h0) rfl 4 (by decide) (hG _ mw_1288) rfl (by decide +kernel) rfl rfl (Nat.le_of_ble_eq_true rfl) dX12_hacks_29 (fun H locs o_c_112 hz oq hS => ?_)
    obtain ⟨G_123, eG_123⟩ : ∃ z : Gh, z = gset G_95 104 0 := ⟨_, rfl⟩
    have hH : HT g Ty G_123 H := by rw [eG_123]; exact HT.putN 104 0 hH k_h0 ⟨rfl, t_113, hk_114⟩ o_c_112 oq (Or.inr (Or.inr (Or.inr (Or.inr (Or.inr ⟨by decide, t_113⟩)))))
    have fr_124 : FR [104, 105] [(g.2.2 124)] [] G G_123 := FR.n fr_96 eG_123 (by decide)
    have u_125 : G_123.1 102 = (G.1 102) := by rw [eG_123]; exact (gs_ne (by decide)).trans u_97
    have u_126 : G_123.1 113 = (G.1 113) := by rw [eG_123]; exact (gs_ne (by decide)).trans u_99
    have u_127 : G_123.1 122 = (G.1 122) := by rw [eG_123]; exact (gs_ne (by decide)).trans u_100
    have u_128 : G_123.1 133 = (G.1 133) := by rw [eG_123]; exact (gs_ne (by decide)).trans u_101
    have u_129 : G_123.1 137 = (G.1 137) := by rw [eG_123]; exact (gs_ne (by decide)).trans u_102
    have u_130 : G_123.1 105 = 0 := by rw [eG_123]; exact (gs_ne (by decide)).trans u_103
    have u_131 : G_123.1 104 = 0 := by rw [eG_123]; exact gs_eq
    have w_132 : G_123.2.1 (g.2.2 100) = (G.2.1 (g.2.2 100)) := by rw [eG_123]; exact w_104
    have w_133 : G_123.2.1 (g.2.2 121) = (G.2.1 (g.2.2 121)) := by rw [eG_123]; exact w_105
    have w_134 : G_123.2.1 (g.2.2 140) = (G.2.1 (g.2.2 140)) := by rw [eG_123]; exact w_106
    have w_135 : G_123.2.1 (g.2.2 141) = (G.2.1 (g.2.2 141)) := by rw [eG_123]; exact w_107
    have w_136 : G_123.2.1 (g.2.2 111) = (G.2.1 (g.2.2 111)) := by rw [eG_123]; exact w_108
    have w_137 : G_123.2.1 (g.2.2 124) = (G.2.1 (g.2.2 124)) := by rw [eG_123]; exact w_109
    have u_138 : G_123.2.2 111 = some (g.2.2 111) := by rw [eG_123]; exact u_110
    have u_139 : G_123.2.2 112 = some (g.2.2 112) := by rw [eG_123]; exact u_111
    clear oq hz
    refine lv_iconst (v := 0) hx hb dX12_hacks_32 (by decide) ?_
    refine lv_istore_n (lv' := [(3, .int 0), (2, .int x_121), (0, .ref h0), (1, .int a0)]) hx hb dX12_hacks_33 rfl hl (by decide) rfl (fun ls hl => ?_)
    exact L_34 _ H locs G_123 (G.2.1 (g.2.2 124)) x_121 0 ls (by rw [u_131]; exact rg_w rl_0 (by decide) (by decide)) fr_124 w_137 r_120 (rg_w rl_0 (by decide) (by decide)) th_118 (Nat.lt_succ_self _) (lv_sub hl [2, 3, 1, 0] rfl) hH hS
  · have r_140 : rgI (0) (0) x_115 := rg_w (rg_eq rl_0 c_117) (by decide) (by decide)
    refine lv_iconst (v := (-1)) hx hb dX12_hacks_16 (by decide) ?_
    exact W.iret hx hb hr (fun t ht hWm => ⟨⟨(-1), (Ty, G_95), rfl, ⟨rfl, ⟨fr_96, ⟨(by rw [u_97]; exact (rg_w hI.a102 (by decide) (by decide))), (by rw [u_98]; exact (rg_w hI.a104 (by decide) (by decide))), (by rw [u_99]; exact (rg_w hI.a113 (by decide) (by decide))), (by rw [u_100]; exact (rg_w hI.a122 (by decide) (by decide))), (by rw [u_101]; exact (rg_w hI.a133 (by decide) (by decide))), (by rw [u_102]; exact (rg_w hI.a137 (by decide) (by decide))), u_110, u_111, (by rw [w_104]; exact (hI.ti.hi (show Bd ≤ Bd + 1000 by omega))), (hI.un2 (show Bd ≤ Bd + 1000 by omega) w_105 u_100), (hI.ke2 (show Bd ≤ Bd + 1000 by omega) w_106 w_107)⟩⟩⟩, by show HT g Ty G_95 t.heap; rw [ht]; exact hH⟩, hS.F ht⟩) hS.2.2 dX12_hacks_17
