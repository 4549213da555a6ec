theorem pa_0 {f : Nat → Int32} {m n k : Int32} (h : thr f m) (hn : rgI 0 23 n) (e : k = n - 1) : m.toNatClampNeg = cz f m.toNatClampNeg (n.toInt - 1 - k.toInt).toNat ∧ thr f m := by
  have h1 := hn.1; have h2 := hn.2
  have q : k.toInt = n.toInt - 1 := by rw [e]; exact ti_sub (y := 1) (by show _ ≤ n.toInt - 1; omega) (by show n.toInt - 1 ≤ _; omega)
  have : (n.toInt - 1 - k.toInt).toNat = 0 := by omega
  rw [this]; exact ⟨rfl, h⟩
theorem pa_1 {n k : Int32} (hn : rgI 0 23 n) (e : k = n - 1) : k.toInt < n.toInt := by
  have h1 := hn.1; have h2 := hn.2
  have q : k.toInt = n.toInt - 1 := by rw [e]; exact ti_sub (y := 1) (by show _ ≤ n.toInt - 1; omega) (by show n.toInt - 1 ≤ _; omega)
  omega

theorem rs_s {n x y n1 y1 : Int32} (h : 0 ≤ n.toInt ∧ n.toInt ≤ 10 * x.toInt + y.toInt) (e : n1 = n + 1) (e1 : y1.toInt = y.toInt + 1) {a b c d : Int} (hx : rgI a b x) (hy : rgI c d y) (hb : b ≤ 10 := by decide) (hd : d ≤ 10 := by decide) : 0 ≤ n1.toInt ∧ n1.toInt ≤ 10 * x.toInt + y1.toInt := by
  have := hx.2; have := hy.2
  have q : n1.toInt = n.toInt + 1 := by rw [e]; exact ti_add (y := 1) (by show _ ≤ n.toInt + 1; omega) (by show n.toInt + 1 ≤ _; omega)
  omega
theorem rs_n {n x y n1 : Int32} (h : 0 ≤ n.toInt ∧ n.toInt ≤ 10 * x.toInt + y.toInt) (e : n1 = n + 1) {a b c d : Int} (hx : rgI a b x) (hy : rgI c d y) (hb : b ≤ 10 := by decide) (hd : d ≤ 10 := by decide) : ¬ n1 = 0 := fun z => by
  have := hx.2; have := hy.2
  have q : n1.toInt = n.toInt + 1 := by rw [e]; exact ti_add (y := 1) (by show _ ≤ n.toInt + 1; omega) (by show n.toInt + 1 ≤ _; omega)
  rw [z] at q
  have w : (0 : Int32).toInt = 0 := rfl
  omega

set_option maxHeartbeats 4000000 in
set_option maxRecDepth 100000 in
theorem c_X12_rests (l : Launch) (g : Gx) (Ty : TyM) (G : Gh) (sz : Nat) (h0 : Nat) (a0 : Int32) (k_h0 : Ty h0 = some (22, 0)) (Bd : Int) (hI : OI g Bd G) (hBd : Bd ≤ 1900000) (hLD : LD g) : Met l yX12_rests (wsG yX12_rests cX12_rests 5 (some .int)) ({ frames := 2, cells := 0, slots := 0, locals := 45 }) (PcT g Ty G sz [.ref h0, .int a0]) (QwI g Ty sz (fun r u => u.1 = Ty ∧ FR [104, 105] [] [] G u.2 ∧ OI g (Bd + 1000) u.2)) 0 0 (AF Ty sz) := by
  refine Met.ofW (cc := cX12_rests) (maxL := 5) (ret := (some .int)) (by decide) rfl ?_
  intro p e s m args below meth c s₁ B hml hv
  obtain ⟨rfl, hsz, hK, hH⟩ := hv
  subst hsz
  have hx := B.exec
  have hb := B.bytes
  have hr := B.returns
  have hts := atoms_spec (ws := (wsG yX12_rests cX12_rests 5 (some .int))) B.pre
  have hG : ∀ w ∈ GW, w.before ([.ref h0, .int a0] : List Value).toArray s = true := fun w h => hts w (List.mem_cons_of_mem _ h)
  have hown : s.vm.findClass RX12 = some m.cls := findClass_of_methodNamed B.named
  have hlocks := B.notSynchronized
  have hl := lv_entry [.ref h0, .int a0] (n := 5) (Nat.le_of_ble_eq_true rfl)
  rw [lg_entry_eq]
  generalize (lg_sl [.ref h0, .int a0] ++ List.replicate (5 - (lg_sl [.ref h0, .int a0]).length) Slot.unset).toArray = ls at hl ⊢
  have hl : lv_has ls 5 [(0, .ref h0), (1, .int a0)] := hl
  have hmk : mdK g Ty := mdk_of hH k_h0
  have hS : va_S (AF Ty s.heap.size) s.heap s.heap [] := va_S.rf
  obtain ⟨⟨σ0, hTS0⟩, h10, hBB0⟩ := id hI.ti
  obtain ⟨ρ, hT⟩ := hTS0.1
  have L_26 : ∀ (n : Nat) (H : Heap) (locs : List Loc) (G_26 : Gh) (y2_26 : Int32) (y3_26 : Int32) (ls : Array Slot), rgI (0) (2) (G_26.1 104) → FR [104, 105] [] [] G G_26 → rgI (0) (20) a0 → rgI (0) (10) y3_26 → (0 ≤ (y2_26 : Int32).toInt ∧ (y2_26 : Int32).toInt ≤ 10 * (y3_26 : Int32).toInt) → (¬ y2_26 = 0 ∨ G_26.1 104 = 0) → (10 - (y3_26).toInt).toNat < n → lv_has ls 5 [(0, .ref h0), (1, .int a0), (2, .int y2_26), (3, .int y3_26)] → HT g Ty G_26 H → va_S (AF Ty s.heap.size) s.heap H locs → Wm p l e (wsG yX12_rests cX12_rests 5 (some .int)) ({ frames := 2, cells := 0, slots := 0, locals := 45 }) s m [.ref h0, .int a0] below meth c H locs (0) (0) (QwI g Ty s.heap.size (fun r u => u.1 = Ty ∧ FR [104, 105] [] [] G u.2 ∧ OI g (Bd + 1000) u.2)) 0 0 (AF Ty s.heap.size) (F0 m 26 ls []) := by
    intro n
    induction n with
    | zero => intro H locs G_26 y2_26 y3_26 ls rg104_26 frL_26 ry1_26 ry3_26 hi0_26 hi1_26 hm; exact absurd hm (Nat.not_lt_zero _)
    | succ n ih_26 =>
      intro H locs G_26 y2_26 y3_26 ls rg104_26 frL_26 ry1_26 ry3_26 hi0_26 hi1_26 hm_26 hl hH hS
      have L_35 : ∀ (n : Nat) (H : Heap) (locs : List Loc) (G_35 : Gh) (y2_35 : Int32) (y4_35 : Int32) (ls : Array Slot), rgI (0) (2) (G_35.1 104) → FR [104, 105] [] [] G G_35 → rgI (0) (20) a0 → rgI (0) (9) y3_26 → rgI (0) (10) y4_35 → (0 ≤ (y2_35 : Int32).toInt ∧ (y2_35 : Int32).toInt ≤ 10 * (y3_26 : Int32).toInt + (y4_35 : Int32).toInt) → (¬ y2_35 = 0 ∨ G_35.1 104 = 0) → (10 - (y4_35).toInt).toNat < n → lv_has ls 5 [(0, .ref h0), (1, .int a0), (2, .int y2_35), (3, .int y3_26), (4, .int y4_35)] → HT g Ty G_35 H → va_S (AF Ty s.heap.size) s.heap H locs → Wm p l e (wsG yX12_rests cX12_rests 5 (some .int)) ({ frames := 2, cells := 0, slots := 0, locals := 45 }) s m [.ref h0, .int a0] below meth c H locs (0) (0) (QwI g Ty s.heap.size (fun r u => u.1 = Ty ∧ FR [104, 105] [] [] G u.2 ∧ OI g (Bd + 1000) u.2)) 0 0 (AF Ty s.heap.size) (F0 m 35 ls []) := by
        intro n
        induction n with
        | zero => intro H locs G_35 y2_35 y4_35 ls rg104_35 frL_35 ry1_35 ry3_35 ry4_35 hi0_35 hi1_35 hm; exact absurd hm (Nat.not_lt_zero _)
        | succ n ih_35 =>
          intro H locs G_35 y2_35 y4_35 ls rg104_35 frL_35 ry1_35 ry3_35 ry4_35 hi0_35 hi1_35 hm_35 hl hH hS
          refine lv_iload hx hb dX12_rests_35 (lv_at hl 4 rfl) ?_
          refine lv_bipush (v := 9) hx hb dX12_rests_37 (by decide) ?_
          refine lv_icmp_gt (tgt := 91) hx hb dX12_rests_39 (by decide) (fun c_1 => ?_) (fun c_1 => ?_)
          · have r_2 : rgI (10) (10) y4_35 := rg_w (rg_ltR rl_9 ry4_35 c_1) (by decide) (by decide)
            obtain ⟨x_3, ex_3⟩ : ∃ y : Int32, y = y3_26 + 1 := ⟨_, rfl⟩
            have rx_3 : rgI (1) (10) x_3 := by rw [ex_3]; exact rg_w (rg_add ry3_35 rl_1 (by decide) (by decide)) (by decide) (by decide)
            have qx_3 : x_3.toInt = (y3_26 : Int32).toInt + 1 := by rw [ex_3]; exact rg_addE ry3_35 rl_1 (by decide) (by decide)
            refine lv_iinc (v := x_3) (lv' := [(3, .int x_3), (0, .ref h0), (1, .int a0), (2, .int y2_35), (4, .int y4_35)]) hx hb dX12_rests_91 hl (k := 3) rfl (by rw [ex_3]; rfl) (by decide) rfl (fun ls hl => ?_)
            refine lv_goto (tgt := 26) hx hb dX12_rests_94 (by decide) ?_
            exact ih_26 H locs G_35 y2_35 x_3 ls (rg_w rg104_35 (by decide) (by decide)) frL_35 ry1_35 (rg_w rx_3 (by decide) (by decide)) ⟨hi0_35.1, by have q := hi0_35.2; have q2 := qx_3; have q3 := (r_2).2; omega⟩ hi1_35 (by have h1 := qx_3; have h2 := ry3_35.1; have h3 := ry3_35.2; have h4 := hm_26; omega) (lv_sub hl [1, 2, 3, 0] rfl) hH hS
          · have r_4 : rgI (0) (9) y4_35 := rg_w (rg_leL ry4_35 rl_9 (nlt_le c_1)) (by decide) (by decide)
            refine lv_iload_n hx hb dX12_rests_42 rfl (lv_at hl 3 rfl) ?_
            refine lv_iload hx hb dX12_rests_43 (lv_at hl 4 rfl) ?_
            refine lv_iload_n hx hb dX12_rests_45 rfl (lv_at hl 1 rfl) ?_
            refine vp_callSi (W.runS (As := [.int y3_26, .int y4_35, .int a0]) (rest := []) ⟨hx, hb, hml, hown, hts⟩ (c_X12_isBest l g Ty G_35 y3_26 y4_35 a0 ) (cwSx 3 hts hG (gwC mw_1845) mw_88 mw_1843 mw_1844 rfl rfl rfl hd_X12_isBest ⟨Nat.le_of_ble_eq_true rfl, Nat.le_of_ble_eq_true rfl⟩) ⟨PcH_blind, PcH_pre hK hH⟩ rfl rfl hl.1 rfl (lv_room (Nat.le_of_ble_eq_true rfl)) dX12_rests_46 ⟨Nat.zero_le _, Nat.zero_le _⟩) (fun x_5 hx_5 => ?_)
            have rx_5 : rgI (0) (1) x_5 := hx_5.1
            refine lv_if_eq (tgt := 85) hx hb dX12_rests_49 (by decide) (fun c_6 => ?_) (fun c_6 => ?_)
            · have r_7 : rgI (0) (0) x_5 := rg_w (rg_eq rl_0 c_6) (by decide) (by decide)
              obtain ⟨x_8, ex_8⟩ : ∃ y : Int32, y = y4_35 + 1 := ⟨_, rfl⟩
              have rx_8 : rgI (1) (10) x_8 := by rw [ex_8]; exact rg_w (rg_add r_4 rl_1 (by decide) (by decide)) (by decide) (by decide)
              have qx_8 : x_8.toInt = (y4_35 : Int32).toInt + 1 := by rw [ex_8]; exact rg_addE r_4 rl_1 (by decide) (by decide)
              refine lv_iinc (v := x_8) (lv' := [(4, .int x_8), (0, .ref h0), (1, .int a0), (2, .int y2_35), (3, .int y3_26)]) hx hb dX12_rests_85 hl (k := 4) rfl (by rw [ex_8]; rfl) (by decide) rfl (fun ls hl => ?_)
              refine lv_goto (tgt := 35) hx hb dX12_rests_88 (by decide) ?_
              exact ih_35 H locs G_35 y2_35 x_8 ls (rg_w rg104_35 (by decide) (by decide)) frL_35 ry1_35 ry3_35 (rg_w rx_8 (by decide) (by decide)) ⟨hi0_35.1, by have q := qx_8; have q2 := hi0_35.2; omega⟩ hi1_35 (by have h1 := qx_8; have h2 := r_4.1; have h3 := r_4.2; have h4 := hm_35; omega) (lv_sub hl [1, 2, 3, 4, 0] rfl) hH hS
            · have r_9 : rgI (1) (1) x_5 := rg_w (rg_neL rx_5 rl_0 c_6) (by decide) (by decide)
              refine lv_iload hx hb dX12_rests_52 (lv_at hl 4 rfl) ?_
              refine lv_iload_n hx hb dX12_rests_54 rfl (lv_at hl 3 rfl) ?_
              refine lv_iload_n hx hb dX12_rests_55 rfl (lv_at hl 1 rfl) ?_
              refine vp_callSi (W.runS (As := [.int y4_35, .int y3_26, .int a0]) (rest := []) ⟨hx, hb, hml, hown, hts⟩ (c_X12_isBest l g Ty G_35 y4_35 y3_26 a0 ) (cwSx 3 hts hG (gwC mw_1845) mw_88 mw_1843 mw_1844 rfl rfl rfl hd_X12_isBest ⟨Nat.le_of_ble_eq_true rfl, Nat.le_of_ble_eq_true rfl⟩) ⟨PcH_blind, PcH_pre hK hH⟩ rfl rfl hl.1 rfl (lv_room (Nat.le_of_ble_eq_true rfl)) dX12_rests_56 ⟨Nat.zero_le _, Nat.zero_le _⟩) (fun x_10 hx_10 => ?_)
              have rx_10 : rgI (0) (1) x_10 := hx_10.1
              refine lv_if_ne (tgt := 65) hx hb dX12_rests_59 (by decide) (fun c_11 => ?_) (fun c_11 => ?_)
              · have r_12 : rgI (1) (1) x_10 := rg_w (rg_neL rx_10 rl_0 c_11) (by decide) (by decide)
                refine lv_iload_n hx hb dX12_rests_65 rfl (lv_at hl 2 rfl) ?_
                refine lv_if_ne (tgt := 82) hx hb dX12_rests_66 (by decide) (fun c_13 => ?_) (fun c_13 => ?_)
                · obtain ⟨x_14, ex_14⟩ : ∃ y : Int32, y = y2_35 + 1 := ⟨_, rfl⟩
                  refine lv_iinc (v := x_14) (lv' := [(2, .int x_14), (0, .ref h0), (1, .int a0), (3, .int y3_26), (4, .int y4_35)]) hx hb dX12_rests_82 hl (k := 2) rfl (by rw [ex_14]; rfl) (by decide) rfl (fun ls hl => ?_)
                  obtain ⟨x_15, ex_15⟩ : ∃ y : Int32, y = y4_35 + 1 := ⟨_, rfl⟩
                  have rx_15 : rgI (1) (10) x_15 := by rw [ex_15]; exact rg_w (rg_add r_4 rl_1 (by decide) (by decide)) (by decide) (by decide)
                  have qx_15 : x_15.toInt = (y4_35 : Int32).toInt + 1 := by rw [ex_15]; exact rg_addE r_4 rl_1 (by decide) (by decide)
                  refine lv_iinc (v := x_15) (lv' := [(4, .int x_15), (2, .int x_14), (0, .ref h0), (1, .int a0), (3, .int y3_26)]) hx hb dX12_rests_85 hl (k := 4) rfl (by rw [ex_15]; rfl) (by decide) rfl (fun ls hl => ?_)
                  refine lv_goto (tgt := 35) hx hb dX12_rests_88 (by decide) ?_
                  exact ih_35 H locs G_35 x_14 x_15 ls (rg_w rg104_35 (by decide) (by decide)) frL_35 ry1_35 ry3_35 (rg_w rx_15 (by decide) (by decide)) (rs_s hi0_35 ex_14 qx_15 ry3_35 r_4) (Or.inl (rs_n hi0_35 ex_14 ry3_35 r_4)) (by have h1 := qx_15; have h2 := r_4.1; have h3 := r_4.2; have h4 := hm_35; omega) (lv_sub hl [2, 3, 1, 4, 0] rfl) hH hS
                · have r_16 : rgI (0) (0) y2_35 := rg_w (rg_eq rl_0 c_13) (by decide) (by decide)
                  have r4_17 : rgI 0 0 (G_35.1 104) := rg_rg (hi1_35.resolve_left (fun w => w c_13)) rl_0
                  refine lv_aload_n hx hb dX12_rests_69 rfl (lv_at hl 0 rfl) ?_
                  refine lv_iload_n hx hb dX12_rests_70 rfl (lv_at hl 3 rfl) ?_
                  refine lv_i2l hx hb dX12_rests_71 rfl ?_
                  refine lv_topl (fun u_18 eu_18 => ?_)
                  obtain ⟨_, ⟨rfl, t_20, hk_21⟩, o_c_19⟩ := hH h0 _ k_h0
                  refine va_callv (va_runV (As := [.long u_18]) (rest := []) ⟨hx, hb, hml, hown, hts⟩ (c_X12_tell l g Ty G_35 H.size h0 u_18 k_h0 (rg_w r4_17 (by decide) (by decide))) (cwV 1 hts (gwV mw_1510 mw_1512 mw_48 mw_88 mw_1513) rfl rfl rfl hv_X12_tell ⟨Nat.le_of_ble_eq_true rfl, Nat.le_of_ble_eq_true rfl⟩) ⟨PcT_blind, hg_recv hK o_c_19 rfl, PcT_pre hK hH⟩ rfl rfl hl.1 rfl (lv_room (Nat.le_of_ble_eq_true rfl)) dX12_rests_72 ⟨Nat.zero_le _, Nat.zero_le _⟩) hS (fun q _ h => AF.mono hS.1 h) (fun q h => AF.mono hS.1 h) (fun ux_22 t H locs ht hvm hx_22 hB hz hk hS => ?_)
                  obtain ⟨eTx_22, eGx_22⟩ := hx_22
                  obtain ⟨G_23, eG_23⟩ : ∃ z, z = ux_22.2 := ⟨_, rfl⟩
                  rw [← eG_23] at eGx_22
                  obtain ⟨x_24, ex_24⟩ : ∃ z : Int32, z = (G_35.1 104) + 1 := ⟨_, rfl⟩
                  have e_25 : G_23 = gset G_35 104 x_24 := by rw [ex_24]; exact eGx_22
                  have rx_24 : rgI (1) (1) x_24 := by rw [ex_24]; exact rg_w (rg_add r4_17 rl_1 (by decide) (by decide)) (by decide) (by decide)
                  have fr_26 : FR [104, 105] [] [] G G_23 := FR.n frL_35 e_25 (by decide)
                  have u_27 : G_23.1 102 = (G.1 102) := by rw [e_25]; exact (gs_ne (by decide)).trans (frL_35.1 102 (by decide))
                  have u_28 : G_23.1 113 = (G.1 113) := by rw [e_25]; exact (gs_ne (by decide)).trans (frL_35.1 113 (by decide))
                  have u_29 : G_23.1 122 = (G.1 122) := by rw [e_25]; exact (gs_ne (by decide)).trans (frL_35.1 122 (by decide))
                  have u_30 : G_23.1 133 = (G.1 133) := by rw [e_25]; exact (gs_ne (by decide)).trans (frL_35.1 133 (by decide))
                  have u_31 : G_23.1 137 = (G.1 137) := by rw [e_25]; exact (gs_ne (by decide)).trans (frL_35.1 137 (by decide))
                  have u_32 : G_23.1 104 = x_24 := by rw [e_25]; exact gs_eq
                  have w_33 : G_23.2.1 (g.2.2 100) = (G.2.1 (g.2.2 100)) := by rw [e_25]; exact (frL_35.2.1 (g.2.2 100) trivial)
                  have w_34 : G_23.2.1 (g.2.2 121) = (G.2.1 (g.2.2 121)) := by rw [e_25]; exact (frL_35.2.1 (g.2.2 121) trivial)
                  have w_35 : G_23.2.1 (g.2.2 140) = (G.2.1 (g.2.2 140)) := by rw [e_25]; exact (frL_35.2.1 (g.2.2 140) trivial)
                  have w_36 : G_23.2.1 (g.2.2 141) = (G.2.1 (g.2.2 141)) := by rw [e_25]; exact (frL_35.2.1 (g.2.2 141) trivial)
                  have w_37 : G_23.2.1 (g.2.2 111) = (G.2.1 (g.2.2 111)) := by rw [e_25]; exact (frL_35.2.1 (g.2.2 111) trivial)
                  have u_38 : G_23.2.2 111 = some (g.2.2 111) := by rw [e_25]; exact ((frL_35.2.2 111 (by decide)).trans hI.r111)
                  have u_39 : G_23.2.2 112 = some (g.2.2 112) := by rw [e_25]; exact ((frL_35.2.2 112 (by decide)).trans hI.r112)
                  have hH : HT g Ty G_23 H := by rw [← ht, ← eTx_22, eG_23]; exact hB
                  refine lv_aload_n hx hb dX12_rests_75 rfl (lv_at hl 0 rfl) ?_
                  refine lv_iload hx hb dX12_rests_76 (lv_at hl 4 rfl) ?_
                  refine lv_i2l hx hb dX12_rests_78 rfl ?_
                  refine lv_topl (fun u_40 eu_40 => ?_)
                  obtain ⟨_, ⟨rfl, t_42, hk_43⟩, o_c_41⟩ := hH h0 _ k_h0
                  refine va_callv (va_runV (As := [.long u_40]) (rest := []) ⟨hx, hb, hml, hown, hts⟩ (c_X12_tell l g Ty G_23 H.size h0 u_40 k_h0 (by rw [u_32]; exact rg_w rx_24 (by decide) (by decide))) (cwV 1 hts (gwV mw_1510 mw_1512 mw_48 mw_88 mw_1513) rfl rfl rfl hv_X12_tell ⟨Nat.le_of_ble_eq_true rfl, Nat.le_of_ble_eq_true rfl⟩) ⟨PcT_blind, hg_recv hK o_c_41 rfl, PcT_pre hK hH⟩ rfl rfl hl.1 rfl (lv_room (Nat.le_of_ble_eq_true rfl)) dX12_rests_79 ⟨Nat.zero_le _, Nat.zero_le _⟩) hS (fun q _ h => AF.mono hS.1 h) (fun q h => AF.mono hS.1 h) (fun ux_44 t H locs ht hvm hx_44 hB hz hk hS => ?_)
                  obtain ⟨eTx_44, eGx_44⟩ := hx_44
                  obtain ⟨G_45, eG_45⟩ : ∃ z, z = ux_44.2 := ⟨_, rfl⟩
                  rw [← eG_45] at eGx_44
                  obtain ⟨x_46, ex_46⟩ : ∃ z : Int32, z = x_24 + 1 := ⟨_, rfl⟩
                  have e_47 : G_45 = gset G_23 104 x_46 := by rw [ex_46, ← u_32]; exact eGx_44
                  have rx_46 : rgI (2) (2) x_46 := by rw [ex_46]; exact rg_w (rg_add rx_24 rl_1 (by decide) (by decide)) (by decide) (by decide)
                  have fr_48 : FR [104, 105] [] [] G G_45 := FR.n fr_26 e_47 (by decide)
                  have u_49 : G_45.1 102 = (G.1 102) := by rw [e_47]; exact (gs_ne (by decide)).trans u_27
                  have u_50 : G_45.1 113 = (G.1 113) := by rw [e_47]; exact (gs_ne (by decide)).trans u_28
                  have u_51 : G_45.1 122 = (G.1 122) := by rw [e_47]; exact (gs_ne (by decide)).trans u_29
                  have u_52 : G_45.1 133 = (G.1 133) := by rw [e_47]; exact (gs_ne (by decide)).trans u_30
                  have u_53 : G_45.1 137 = (G.1 137) := by rw [e_47]; exact (gs_ne (by decide)).trans u_31
                  have u_54 : G_45.1 104 = x_46 := by rw [e_47]; exact gs_eq
                  have w_55 : G_45.2.1 (g.2.2 100) = (G.2.1 (g.2.2 100)) := by rw [e_47]; exact w_33
                  have w_56 : G_45.2.1 (g.2.2 121) = (G.2.1 (g.2.2 121)) := by rw [e_47]; exact w_34
                  have w_57 : G_45.2.1 (g.2.2 140) = (G.2.1 (g.2.2 140)) := by rw [e_47]; exact w_35
                  have w_58 : G_45.2.1 (g.2.2 141) = (G.2.1 (g.2.2 141)) := by rw [e_47]; exact w_36
                  have w_59 : G_45.2.1 (g.2.2 111) = (G.2.1 (g.2.2 111)) := by rw [e_47]; exact w_37
                  have u_60 : G_45.2.2 111 = some (g.2.2 111) := by rw [e_47]; exact u_38
                  have u_61 : G_45.2.2 112 = some (g.2.2 112) := by rw [e_47]; exact u_39
                  have hH : HT g Ty G_45 H := by rw [← ht, ← eTx_44, eG_45]; exact hB
                  obtain ⟨x_62, ex_62⟩ : ∃ y : Int32, y = y2_35 + 1 := ⟨_, rfl⟩
                  have rx_62 : rgI (1) (1) x_62 := by rw [ex_62]; exact rg_w (rg_add r_16 rl_1 (by decide) (by decide)) (by decide) (by decide)
                  have qx_62 : x_62.toInt = (y2_35 : Int32).toInt + 1 := by rw [ex_62]; exact rg_addE r_16 rl_1 (by decide) (by decide)
                  refine lv_iinc (v := x_62) (lv' := [(2, .int x_62), (0, .ref h0), (1, .int a0), (3, .int y3_26), (4, .int y4_35)]) hx hb dX12_rests_82 hl (k := 2) rfl (by rw [ex_62]; rfl) (by decide) rfl (fun ls hl => ?_)
                  obtain ⟨x_63, ex_63⟩ : ∃ y : Int32, y = y4_35 + 1 := ⟨_, rfl⟩
                  have rx_63 : rgI (1) (10) x_63 := by rw [ex_63]; exact rg_w (rg_add r_4 rl_1 (by decide) (by decide)) (by decide) (by decide)
                  have qx_63 : x_63.toInt = (y4_35 : Int32).toInt + 1 := by rw [ex_63]; exact rg_addE r_4 rl_1 (by decide) (by decide)
                  refine lv_iinc (v := x_63) (lv' := [(4, .int x_63), (2, .int x_62), (0, .ref h0), (1, .int a0), (3, .int y3_26)]) hx hb dX12_rests_85 hl (k := 4) rfl (by rw [ex_63]; rfl) (by decide) rfl (fun ls hl => ?_)
                  refine lv_goto (tgt := 35) hx hb dX12_rests_88 (by decide) ?_
                  exact ih_35 H locs G_45 x_62 x_63 ls (by rw [u_54]; exact rg_w rx_46 (by decide) (by decide)) fr_48 ry1_35 ry3_35 (rg_w rx_63 (by decide) (by decide)) (rs_s hi0_35 ex_62 qx_63 ry3_35 r_4) (Or.inl (rs_n hi0_35 ex_62 ry3_35 r_4)) (by have h1 := qx_63; have h2 := r_4.1; have h3 := r_4.2; have h4 := hm_35; omega) (lv_sub hl [2, 3, 1, 4, 0] rfl) hH hS
              · have r_64 : rgI (0) (0) x_10 := rg_w (rg_eq rl_0 c_11) (by decide) (by decide)
                refine lv_goto (tgt := 85) hx hb dX12_rests_62 (by decide) ?_
                obtain ⟨x_65, ex_65⟩ : ∃ y : Int32, y = y4_35 + 1 := ⟨_, rfl⟩
                have rx_65 : rgI (1) (10) x_65 := by rw [ex_65]; exact rg_w (rg_add r_4 rl_1 (by decide) (by decide)) (by decide) (by decide)
                have qx_65 : x_65.toInt = (y4_35 : Int32).toInt + 1 := by rw [ex_65]; exact rg_addE r_4 rl_1 (by decide) (by decide)
                refine lv_iinc (v := x_65) (lv' := [(4, .int x_65), (0, .ref h0), (1, .int a0), (2, .int y2_35), (3, .int y3_26)]) hx hb dX12_rests_85 hl (k := 4) rfl (by rw [ex_65]; rfl) (by decide) rfl (fun ls hl => ?_)
                refine lv_goto (tgt := 35) hx hb dX12_rests_88 (by decide) ?_
                exact ih_35 H locs G_35 y2_35 x_65 ls (rg_w rg104_35 (by decide) (by decide)) frL_35 ry1_35 ry3_35 (rg_w rx_65 (by decide) (by decide)) ⟨hi0_35.1, by have q := qx_65; have q2 := hi0_35.2; omega⟩ hi1_35 (by have h1 := qx_65; have h2 := r_4.1; have h3 := r_4.2; have h4 := hm_35; omega) (lv_sub hl [1, 2, 3, 4, 0] rfl) hH hS
      refine lv_iload_n hx hb dX12_rests_26 rfl (lv_at hl 3 rfl) ?_
      refine lv_bipush (v := 9) hx hb dX12_rests_27 (by decide) ?_
      refine lv_icmp_gt (tgt := 97) hx hb dX12_rests_29 (by decide) (fun c_66 => ?_) (fun c_66 => ?_)
      · have r_67 : rgI (10) (10) y3_26 := rg_w (rg_ltR rl_9 ry3_26 c_66) (by decide) (by decide)
        refine lv_iload_n hx hb dX12_rests_97 rfl (lv_at hl 2 rfl) ?_
        exact W.iret hx hb hr (fun t ht hWm => ⟨⟨y2_26, (Ty, G_26), rfl, ⟨rfl, ⟨frL_26, ⟨(by rw [(frL_26.1 102 (by decide))]; exact (rg_w hI.a102 (by decide) (by decide))), (rg_w rg104_26 (by decide) (by decide)), (by rw [(frL_26.1 113 (by decide))]; exact (rg_w hI.a113 (by decide) (by decide))), (by rw [(frL_26.1 122 (by decide))]; exact (rg_w hI.a122 (by decide) (by decide))), (by rw [(frL_26.1 133 (by decide))]; exact (rg_w hI.a133 (by decide) (by decide))), (by rw [(frL_26.1 137 (by decide))]; exact (rg_w hI.a137 (by decide) (by decide))), ((frL_26.2.2 111 (by decide)).trans hI.r111), ((frL_26.2.2 112 (by decide)).trans hI.r112), (by rw [(frL_26.2.1 (g.2.2 100) trivial)]; exact (hI.ti.hi (show Bd ≤ Bd + 1000 by omega))), (hI.un2 (show Bd ≤ Bd + 1000 by omega) (frL_26.2.1 (g.2.2 121) trivial) (frL_26.1 122 (by decide))), (hI.ke2 (show Bd ≤ Bd + 1000 by omega) (frL_26.2.1 (g.2.2 140) trivial) (frL_26.2.1 (g.2.2 141) trivial))⟩⟩⟩, by show HT g Ty G_26 t.heap; rw [ht]; exact hH⟩, hS.F ht⟩) hS.2.2 dX12_rests_98
      · have r_68 : rgI (0) (9) y3_26 := rg_w (rg_leL ry3_26 rl_9 (nlt_le c_66)) (by decide) (by decide)
        refine lv_iconst (v := 0) hx hb dX12_rests_32 (by decide) ?_
        refine lv_istore (lv' := [(4, .int 0), (0, .ref h0), (1, .int a0), (2, .int y2_26), (3, .int y3_26)]) hx hb dX12_rests_33 hl (by decide) rfl (fun ls hl => ?_)
        exact L_35 _ H locs G_26 y2_26 0 ls (rg_w rg104_26 (by decide) (by decide)) frL_26 ry1_26 r_68 (rg_w rl_0 (by decide) (by decide)) ⟨hi0_26.1, by have q := hi0_26.2; show _ ≤ _ + (0 : Int); omega⟩ hi1_26 (Nat.lt_succ_self _) (lv_sub hl [1, 2, 3, 4, 0] rfl) hH hS
  refine lv_aload_n hx hb dX12_rests_0 rfl (lv_at hl 0 rfl) ?_
  refine lv_iconst (v := 0) hx hb dX12_rests_1 (by decide) ?_
  obtain ⟨_, ⟨rfl, t_70, hk_71⟩, o_c_69⟩ := hH h0 _ k_h0
  refine hg_put (ty := .int) hx hb hG igX12 tyX12 tyX12_ok nmX12 hown hK hS o_c_69 (AF.of k_h0) rfl 5 (by decide) (hG _ mw_1289) rfl (by decide +kernel) rfl rfl (Nat.le_of_ble_eq_true rfl) dX12_rests_2 (fun H locs o_c_69 hz oq hS => ?_)
  obtain ⟨G_72, eG_72⟩ : ∃ z : Gh, z = gset G 105 0 := ⟨_, rfl⟩
  have hH : HT g Ty G_72 H := by rw [eG_72]; exact HT.putN 105 0 hH k_h0 ⟨rfl, t_70, hk_71⟩ o_c_69 oq (Or.inr (Or.inr (Or.inr (Or.inr (Or.inr ⟨by decide, t_70⟩)))))
  have fr_73 : FR [104, 105] [] [] G G_72 := FR.n FR.rf eG_72 (by decide)
  have u_74 : G_72.1 102 = (G.1 102) := by rw [eG_72]; exact (gs_ne (by decide))
  have u_75 : G_72.1 104 = (G.1 104) := by rw [eG_72]; exact (gs_ne (by decide))
  have u_76 : G_72.1 113 = (G.1 113) := by rw [eG_72]; exact (gs_ne (by decide))
  have u_77 : G_72.1 122 = (G.1 122) := by rw [eG_72]; exact (gs_ne (by decide))
  have u_78 : G_72.1 133 = (G.1 133) := by rw [eG_72]; exact (gs_ne (by decide))
  have u_79 : G_72.1 137 = (G.1 137) := by rw [eG_72]; exact (gs_ne (by decide))
  have u_80 : G_72.1 105 = 0 := by rw [eG_72]; exact gs_eq
  have w_81 : G_72.2.1 (g.2.2 100) = (G.2.1 (g.2.2 100)) := by rw [eG_72]; exact rfl
  have w_82 : G_72.2.1 (g.2.2 121) = (G.2.1 (g.2.2 121)) := by rw [eG_72]; exact rfl
  have w_83 : G_72.2.1 (g.2.2 140) = (G.2.1 (g.2.2 140)) := by rw [eG_72]; exact rfl
  have w_84 : G_72.2.1 (g.2.2 141) = (G.2.1 (g.2.2 141)) := by rw [eG_72]; exact rfl
  have w_85 : G_72.2.1 (g.2.2 111) = (G.2.1 (g.2.2 111)) := by rw [eG_72]; exact rfl
  have u_86 : G_72.2.2 111 = some (g.2.2 111) := by rw [eG_72]; exact hI.r111
  have u_87 : G_72.2.2 112 = some (g.2.2 112) := by rw [eG_72]; exact hI.r112
  clear oq hz
  refine lv_iload_n hx hb dX12_rests_5 rfl (lv_at hl 1 rfl) ?_
  refine lv_iconst (v := 0) hx hb dX12_rests_6 (by decide) ?_
  refine lv_bipush (v := 20) hx hb dX12_rests_7 (by decide) ?_
  refine vp_callSi (W.runS (As := [.int a0, .int 0, .int 20]) (rest := []) ⟨hx, hb, hml, hown, hts⟩ (c_X12_in l g Ty G_72 a0 0 20 ) (cwSx 3 hts hG (gwC mw_1426) mw_88 mw_1424 mw_1425 rfl rfl rfl hd_X12_in ⟨Nat.le_of_ble_eq_true rfl, Nat.le_of_ble_eq_true rfl⟩) ⟨PcH_blind, PcH_pre hK hH⟩ rfl rfl hl.1 rfl (lv_room (Nat.le_of_ble_eq_true rfl)) dX12_rests_9 ⟨Nat.zero_le _, Nat.zero_le _⟩) (fun x_88 hx_88 => ?_)
  have rx_88 : rgI (0) (1) x_88 := hx_88.1
  refine lv_if_ne (tgt := 17) hx hb dX12_rests_12 (by decide) (fun c_89 => ?_) (fun c_89 => ?_)
  · have r_90 : rgI (1) (1) x_88 := rg_w (rg_neL rx_88 rl_0 c_89) (by decide) (by decide)
    have r_91 : rgI (0) (20) a0 := rg_w (in_rng hx_88.2.1 c_89 rl_0 rl_20) (by decide) (by decide)
    refine lv_iconst (v := 0) hx hb dX12_rests_17 (by decide) ?_
    refine lv_istore_n (lv' := [(2, .int 0), (0, .ref h0), (1, .int a0)]) hx hb dX12_rests_18 rfl hl (by decide) rfl (fun ls hl => ?_)
    refine lv_aload_n hx hb dX12_rests_19 rfl (lv_at hl 1 rfl) ?_
    refine lv_iconst (v := 0) hx hb dX12_rests_20 (by decide) ?_
    obtain ⟨_, ⟨rfl, t_93, hk_94⟩, o_c_92⟩ := hH h0 _ k_h0
    refine hg_put (ty := .int) hx hb hG igX12 tyX12 tyX12_ok nmX12 hown hK hS o_c_92 (AF.of k_h0) rfl 4 (by decide) (hG _ mw_1288) rfl (by decide +kernel) rfl rfl (Nat.le_of_ble_eq_true rfl) dX12_rests_21 (fun H locs o_c_92 hz oq hS => ?_)
    obtain ⟨G_95, eG_95⟩ : ∃ z : Gh, z = gset G_72 104 0 := ⟨_, rfl⟩
    have hH : HT g Ty G_95 H := by rw [eG_95]; exact HT.putN 104 0 hH k_h0 ⟨rfl, t_93, hk_94⟩ o_c_92 oq (Or.inr (Or.inr (Or.inr (Or.inr (Or.inr ⟨by decide, t_93⟩)))))
    have fr_96 : FR [104, 105] [] [] G G_95 := FR.n fr_73 eG_95 (by decide)
    have u_97 : G_95.1 102 = (G.1 102) := by rw [eG_95]; exact (gs_ne (by decide)).trans u_74
    have u_98 : G_95.1 113 = (G.1 113) := by rw [eG_95]; exact (gs_ne (by decide)).trans u_76
    have u_99 : G_95.1 122 = (G.1 122) := by rw [eG_95]; exact (gs_ne (by decide)).trans u_77
    have u_100 : G_95.1 133 = (G.1 133) := by rw [eG_95]; exact (gs_ne (by decide)).trans u_78
    have u_101 : G_95.1 137 = (G.1 137) := by rw [eG_95]; exact (gs_ne (by decide)).trans u_79
    have u_102 : G_95.1 105 = 0 := by rw [eG_95]; exact (gs_ne (by decide)).trans u_80
    have u_103 : G_95.1 104 = 0 := by rw [eG_95]; exact gs_eq
    have w_104 : G_95.2.1 (g.2.2 100) = (G.2.1 (g.2.2 100)) := by rw [eG_95]; exact w_81
    have w_105 : G_95.2.1 (g.2.2 121) = (G.2.1 (g.2.2 121)) := by rw [eG_95]; exact w_82
    have w_106 : G_95.2.1 (g.2.2 140) = (G.2.1 (g.2.2 140)) := by rw [eG_95]; exact w_83
    have w_107 : G_95.2.1 (g.2.2 141) = (G.2.1 (g.2.2 141)) := by rw [eG_95]; exact w_84
    have w_108 : G_95.2.1 (g.2.2 111) = (G.2.1 (g.2.2 111)) := by rw [eG_95]; exact w_85
    have u_109 : G_95.2.2 111 = some (g.2.2 111) := by rw [eG_95]; exact u_86
    have u_110 : G_95.2.2 112 = some (g.2.2 112) := by rw [eG_95]; exact u_87
    clear oq hz
    refine lv_iconst (v := 0) hx hb dX12_rests_24 (by decide) ?_
    refine lv_istore_n (lv' := [(3, .int 0), (2, .int 0), (0, .ref h0), (1, .int a0)]) hx hb dX12_rests_25 rfl hl (by decide) rfl (fun ls hl => ?_)
    exact L_26 _ H locs G_95 0 0 ls (by rw [u_103]; exact rg_w rl_0 (by decide) (by decide)) fr_96 r_91 (rg_w rl_0 (by decide) (by decide)) ⟨by decide, by decide⟩ (Or.inr u_103) (Nat.lt_succ_self _) (lv_sub hl [2, 3, 1, 0] rfl) hH hS
  · have r_111 : rgI (0) (0) x_88 := rg_w (rg_eq rl_0 c_89) (by decide) (by decide)
    refine lv_iconst (v := (-1)) hx hb dX12_rests_15 (by decide) ?_
    exact W.iret hx hb hr (fun t ht hWm => ⟨⟨(-1), (Ty, G_72), rfl, ⟨rfl, ⟨fr_73, ⟨(by rw [u_74]; exact (rg_w hI.a102 (by decide) (by decide))), (by rw [u_75]; exact (rg_w hI.a104 (by decide) (by decide))), (by rw [u_76]; exact (rg_w hI.a113 (by decide) (by decide))), (by rw [u_77]; exact (rg_w hI.a122 (by decide) (by decide))), (by rw [u_78]; exact (rg_w hI.a133 (by decide) (by decide))), (by rw [u_79]; exact (rg_w hI.a137 (by decide) (by decide))), u_86, u_87, (by rw [w_81]; exact (hI.ti.hi (show Bd ≤ Bd + 1000 by omega))), (hI.un2 (show Bd ≤ Bd + 1000 by omega) w_82 u_77), (hI.ke2 (show Bd ≤ Bd + 1000 by omega) w_83 w_84)⟩⟩⟩, by show HT g Ty G_72 t.heap; rw [ht]; exact hH⟩, hS.F ht⟩) hS.2.2 dX12_rests_16

set_option maxHeartbeats 4000000 in
set_option maxRecDepth 100000 in
theorem c_X12_sheet (l : Launch) (g : Gx) (Ty : TyM) (G : Gh) (sz : Nat) (h0 : Nat) (a0 : Int32) (a1 : Int32) (a2 : Int32) (a3 : Int32) (k_h0 : Ty h0 = some (22, 0)) (Bd : Int) (hI : OI g Bd G) (hBd : Bd ≤ 1900000) (hLD : LD g) : Met l yX12_sheet (wsG yX12_sheet cX12_sheet 10 (some .int)) ({ frames := 2, cells := 0, slots := 0, locals := 43 }) (PcT g Ty G sz [.ref h0, .int a0, .int a1, .int a2, .int a3]) (QwI g Ty sz (fun r u => u.1 = Ty ∧ FR [105] [(g.2.2 100)] [] G u.2 ∧ OI g (Bd + 1000) u.2)) 0 0 (AF Ty sz) := by
  refine Met.ofW (cc := cX12_sheet) (maxL := 10) (ret := (some .int)) (by decide) rfl ?_
  intro p e s m args below meth c s₁ B hml hv
  obtain ⟨rfl, hsz, hK, hH⟩ := hv
  subst hsz
  have hx := B.exec
  have hb := B.bytes
  have hr := B.returns
  have hts := atoms_spec (ws := (wsG yX12_sheet cX12_sheet 10 (some .int))) B.pre
  have hG : ∀ w ∈ GW, w.before ([.ref h0, .int a0, .int a1, .int a2, .int a3] : List Value).toArray s = true := fun w h => hts w (List.mem_cons_of_mem _ h)
  have hown : s.vm.findClass RX12 = some m.cls := findClass_of_methodNamed B.named
  have hlocks := B.notSynchronized
  have hl := lv_entry [.ref h0, .int a0, .int a1, .int a2, .int a3] (n := 10) (Nat.le_of_ble_eq_true rfl)
  rw [lg_entry_eq]
  generalize (lg_sl [.ref h0, .int a0, .int a1, .int a2, .int a3] ++ List.replicate (10 - (lg_sl [.ref h0, .int a0, .int a1, .int a2, .int a3]).length) Slot.unset).toArray = ls at hl ⊢
  have hl : lv_has ls 10 [(0, .ref h0), (1, .int a0), (2, .int a1), (3, .int a2), (4, .int a3)] := hl
  have hmk : mdK g Ty := mdk_of hH k_h0
  have hS : va_S (AF Ty s.heap.size) s.heap s.heap [] := va_S.rf
  obtain ⟨⟨σ0, hTS0⟩, h10, hBB0⟩ := id hI.ti
  obtain ⟨ρ, hT⟩ := hTS0.1
  have L_46 : ∀ (n : Nat) (H : Heap) (locs : List Loc) (G_46 : Gh) (fl0_46 : Nat → Int32) (y5_46 : Int32) (y6_46 : Int32) (y7_46 : Int32) (y8_46 : Int32) (ls : Array Slot), FR [105] [(g.2.2 100)] [] G G_46 → G_46.2.1 (g.2.2 100) = fl0_46 → rgI (0) (3) a0 → rgI (-2147483648) (24) a1 → rgI (0) (24) y8_46 → (∀ j, (j < 96 ∨ 120 ≤ j) → fl0_46 j = (G.2.1 (g.2.2 100)) j) → UB fl0_46 → (24 - (y8_46).toInt).toNat < n → lv_has ls 10 [(0, .ref h0), (1, .int a0), (2, .int a1), (4, .int a3), (5, .int y5_46), (6, .int y6_46), (7, .int y7_46), (8, .int y8_46)] → HT g Ty G_46 H → va_S (AF Ty s.heap.size) s.heap H locs → Wm p l e (wsG yX12_sheet cX12_sheet 10 (some .int)) ({ frames := 2, cells := 0, slots := 0, locals := 43 }) s m [.ref h0, .int a0, .int a1, .int a2, .int a3] below meth c H locs (0) (0) (QwI g Ty s.heap.size (fun r u => u.1 = Ty ∧ FR [105] [(g.2.2 100)] [] G u.2 ∧ OI g (Bd + 1000) u.2)) 0 0 (AF Ty s.heap.size) (F0 m 46 ls []) := by
    intro n
    induction n with
    | zero => intro H locs G_46 fl0_46 y5_46 y6_46 y7_46 y8_46 ls frL_46 efl0_46 ry1_46 ry2_46 ry8_46 hi0_46 hi1_46 hm; exact absurd hm (Nat.not_lt_zero _)
    | succ n ih_46 =>
      intro H locs G_46 fl0_46 y5_46 y6_46 y7_46 y8_46 ls frL_46 efl0_46 ry1_46 ry2_46 ry8_46 hi0_46 hi1_46 hm_46 hl hH hS
      refine lv_iload hx hb dX12_sheet_46 (lv_at hl 7 rfl) ?_
      refine lv_bipush (v := 24) hx hb dX12_sheet_48 (by decide) ?_
      refine lv_icmp_ge (tgt := 181) hx hb dX12_sheet_50 (by decide) (fun c_1 => ?_) (fun c_1 => ?_)
      · have r_2 : rgI (24) (24) y8_46 := rg_w (rg_leR rl_24 ry8_46 c_1) (by decide) (by decide)
        have tu_3 : TI Bd fl0_46 := TI_ub hI.ti hi0_46 hi1_46
        refine lv_iload_n hx hb dX12_sheet_181 rfl (lv_at hl 1 rfl) ?_
        refine lv_iconst (v := 3) hx hb dX12_sheet_182 (by decide) ?_
        refine lv_icmp_ne (tgt := 191) hx hb dX12_sheet_183 (by decide) (fun c_4 => ?_) (fun c_4 => ?_)
        · have r_5 : rgI (0) (2) a0 := rg_w (rg_neR ry1_46 rl_3 c_4) (by decide) (by decide)
          refine lv_iload hx hb dX12_sheet_191 (lv_at hl 6 rfl) ?_
          exact W.iret hx hb hr (fun t ht hWm => ⟨⟨y7_46, (Ty, G_46), rfl, ⟨rfl, ⟨frL_46, ⟨(by rw [(frL_46.1 102 (by decide))]; exact (rg_w hI.a102 (by decide) (by decide))), (by rw [(frL_46.1 104 (by decide))]; exact (rg_w hI.a104 (by decide) (by decide))), (by rw [(frL_46.1 113 (by decide))]; exact (rg_w hI.a113 (by decide) (by decide))), (by rw [(frL_46.1 122 (by decide))]; exact (rg_w hI.a122 (by decide) (by decide))), (by rw [(frL_46.1 133 (by decide))]; exact (rg_w hI.a133 (by decide) (by decide))), (by rw [(frL_46.1 137 (by decide))]; exact (rg_w hI.a137 (by decide) (by decide))), ((frL_46.2.2 111 (by decide)).trans hI.r111), ((frL_46.2.2 112 (by decide)).trans hI.r112), (by rw [efl0_46]; exact (TI.hi tu_3 (by omega))), (hI.un2 (show Bd ≤ Bd + 1000 by omega) (frL_46.2.1 (g.2.2 121) ⟨(ne_kd hmk.2.2.2.2.2.1 hmk.1 (by decide)), trivial⟩) (frL_46.1 122 (by decide))), (hI.ke2 (show Bd ≤ Bd + 1000 by omega) (frL_46.2.1 (g.2.2 140) ⟨(ne_kd hmk.2.2.2.2.2.2.2.2.2.2.2.2.2.2.2.2.2.2.1 hmk.1 (by decide)), trivial⟩) (frL_46.2.1 (g.2.2 141) ⟨(ne_kd hmk.2.2.2.2.2.2.2.2.2.2.2.2.2.2.2.2.2.2.2.1 hmk.1 (by decide)), trivial⟩))⟩⟩⟩, by show HT g Ty G_46 t.heap; rw [ht]; exact hH⟩, hS.F ht⟩) hS.2.2 dX12_sheet_193
        · have r_6 : rgI (3) (3) a0 := rg_w (rg_eq rl_3 c_4) (by decide) (by decide)
          refine lv_bipush (v := (-3)) hx hb dX12_sheet_186 (by decide) ?_
          refine lv_goto (tgt := 193) hx hb dX12_sheet_188 (by decide) ?_
          exact W.iret hx hb hr (fun t ht hWm => ⟨⟨(-3), (Ty, G_46), rfl, ⟨rfl, ⟨frL_46, ⟨(by rw [(frL_46.1 102 (by decide))]; exact (rg_w hI.a102 (by decide) (by decide))), (by rw [(frL_46.1 104 (by decide))]; exact (rg_w hI.a104 (by decide) (by decide))), (by rw [(frL_46.1 113 (by decide))]; exact (rg_w hI.a113 (by decide) (by decide))), (by rw [(frL_46.1 122 (by decide))]; exact (rg_w hI.a122 (by decide) (by decide))), (by rw [(frL_46.1 133 (by decide))]; exact (rg_w hI.a133 (by decide) (by decide))), (by rw [(frL_46.1 137 (by decide))]; exact (rg_w hI.a137 (by decide) (by decide))), ((frL_46.2.2 111 (by decide)).trans hI.r111), ((frL_46.2.2 112 (by decide)).trans hI.r112), (by rw [efl0_46]; exact (TI.hi tu_3 (by omega))), (hI.un2 (show Bd ≤ Bd + 1000 by omega) (frL_46.2.1 (g.2.2 121) ⟨(ne_kd hmk.2.2.2.2.2.1 hmk.1 (by decide)), trivial⟩) (frL_46.1 122 (by decide))), (hI.ke2 (show Bd ≤ Bd + 1000 by omega) (frL_46.2.1 (g.2.2 140) ⟨(ne_kd hmk.2.2.2.2.2.2.2.2.2.2.2.2.2.2.2.2.2.2.1 hmk.1 (by decide)), trivial⟩) (frL_46.2.1 (g.2.2 141) ⟨(ne_kd hmk.2.2.2.2.2.2.2.2.2.2.2.2.2.2.2.2.2.2.2.1 hmk.1 (by decide)), trivial⟩))⟩⟩⟩, by show HT g Ty G_46 t.heap; rw [ht]; exact hH⟩, hS.F ht⟩) hS.2.2 dX12_sheet_193
      · have r_7 : rgI (0) (23) y8_46 := rg_w (rg_ltL ry8_46 rl_24 (nle_lt c_1)) (by decide) (by decide)
        refine lv_aload_n hx hb dX12_sheet_53 rfl (lv_at hl 0 rfl) ?_
        obtain ⟨_, ⟨rfl, t_9, hk_10⟩, o_c_8⟩ := hH h0 _ k_h0
        refine hg_get hx hb hG igX12 hown hK o_c_8 rfl 0 (by decide) (hG _ mw_1284) rfl dX12_sheet_54 ?_
        refine lv_iload hx hb dX12_sheet_57 (lv_at hl 7 rfl) ?_
        refine vp_callSi (W.runS (As := [.ref (g.2.2 100), .int y8_46]) (rest := []) ⟨hx, hb, hml, hown, hts⟩ (c_X12_isThere l g Ty G_46 (g.2.2 100) y8_46 (hk_10.1)) (cwSx 2 hts hG (gwC mw_1520) mw_88 mw_1518 mw_1519 rfl rfl rfl hd_X12_isThere ⟨Nat.le_of_ble_eq_true rfl, Nat.le_of_ble_eq_true rfl⟩) ⟨PcH_blind, PcH_pre hK hH⟩ rfl rfl hl.1 rfl (lv_room (Nat.le_of_ble_eq_true rfl)) dX12_sheet_59 ⟨Nat.zero_le _, Nat.zero_le _⟩) (fun x_11 hx_11 => ?_)
        have rx_11 : rgI (0) (1) x_11 := hx_11.1
        have ex_12 : x_11 = F_X12_isThere fl0_46 y8_46 := by rw [← efl0_46]; exact hx_11.2.2
        refine lv_if_ne (tgt := 68) hx hb dX12_sheet_62 (by decide) (fun c_13 => ?_) (fun c_13 => ?_)
        · have th_14 : thr fl0_46 y8_46 := F_isThere_thr (by rw [← ex_12]; exact c_13)
          have r_15 : rgI (1) (1) x_11 := rg_w (rg_neL rx_11 rl_0 c_13) (by decide) (by decide)
          refine lv_iload_n hx hb dX12_sheet_68 rfl (lv_at hl 1 rfl) ?_
          refine lv_if_ne (tgt := 78) hx hb dX12_sheet_69 (by decide) (fun c_16 => ?_) (fun c_16 => ?_)
          · have r_17 : rgI (1) (3) a0 := rg_w (rg_neL ry1_46 rl_0 c_16) (by decide) (by decide)
            refine lv_iload_n hx hb dX12_sheet_78 rfl (lv_at hl 1 rfl) ?_
            refine lv_iconst (v := 1) hx hb dX12_sheet_79 (by decide) ?_
            refine lv_icmp_ne (tgt := 89) hx hb dX12_sheet_80 (by decide) (fun c_18 => ?_) (fun c_18 => ?_)
            · have r_19 : rgI (2) (3) a0 := rg_w (rg_neL r_17 rl_1 c_18) (by decide) (by decide)
              refine lv_iload hx hb dX12_sheet_89 (lv_at hl 4 rfl) ?_
              refine lv_istore (lv' := [(9, .int y5_46), (0, .ref h0), (1, .int a0), (2, .int a1), (4, .int a3), (5, .int y5_46), (6, .int y6_46), (7, .int y7_46), (8, .int y8_46)]) hx hb dX12_sheet_91 hl (by decide) rfl (fun ls hl => ?_)
              refine lv_aload_n hx hb dX12_sheet_93 rfl (lv_at hl 1 rfl) ?_
              refine hg_get hx hb hG igX12 hown hK o_c_8 rfl 0 (by decide) (hG _ mw_1284) rfl dX12_sheet_94 ?_
              refine lv_bipush (v := 48) hx hb dX12_sheet_97 (by decide) ?_
              refine lv_iload hx hb dX12_sheet_99 (lv_at hl 8 rfl) ?_
              refine lv_iadd hx hb dX12_sheet_101 ?_
              refine lv_topi (fun x_20 ex_20 => ?_)
              have rx_20 : rgI (48) (71) x_20 := by rw [ex_20]; exact rg_w (rg_add rl_48 r_7 (by decide) (by decide)) (by decide) (by decide)
              obtain ⟨_, rfl, o_c_21⟩ := hH (g.2.2 100) _ hk_10.1
              have o_c_21 : va_at g.1 vwCl ((g.2.2 100), .inl (g.2.1 1, 122, .inl (G_46.2.1 (g.2.2 100)))) H := o_c_21
              refine hg_iald hx hb hK o_c_21 (rg_in (n := 122) rx_20 (by decide) (by decide)) dX12_sheet_102 ?_
              rw [efl0_46]
              refine lv_topi (fun x_22 ex_22 => ?_)
              refine lv_if_ne (tgt := 150) hx hb dX12_sheet_103 (by decide) (fun c_23 => ?_) (fun c_23 => ?_)
              · refine lv_iload hx hb dX12_sheet_150 (lv_at hl 7 rfl) ?_
                refine lv_aload_n hx hb dX12_sheet_152 rfl (lv_at hl 1 rfl) ?_
                refine hg_get hx hb hG igX12 hown hK o_c_8 rfl 0 (by decide) (hG _ mw_1284) rfl dX12_sheet_153 ?_
                refine lv_bipush (v := 96) hx hb dX12_sheet_156 (by decide) ?_
                refine lv_iload hx hb dX12_sheet_158 (lv_at hl 8 rfl) ?_
                refine lv_iadd hx hb dX12_sheet_160 ?_
                refine lv_topi (fun x_24 ex_24 => ?_)
                have rx_24 : rgI (96) (119) x_24 := by rw [ex_24]; exact rg_w (rg_add rl_96 r_7 (by decide) (by decide)) (by decide) (by decide)
                refine hg_iald hx hb hK o_c_21 (rg_in (n := 122) rx_24 (by decide) (by decide)) dX12_sheet_161 ?_
                rw [efl0_46]
                refine lv_topi (fun x_25 ex_25 => ?_)
                refine lv_iadd hx hb dX12_sheet_162 ?_
                refine lv_topi (fun x_26 ex_26 => ?_)
                refine lv_istore (lv' := [(7, .int x_26), (9, .int y5_46), (0, .ref h0), (1, .int a0), (2, .int a1), (4, .int a3), (5, .int y5_46), (6, .int y6_46), (8, .int y8_46)]) hx hb dX12_sheet_163 hl (by decide) rfl (fun ls hl => ?_)
                refine lv_iload hx hb dX12_sheet_165 (lv_at hl 6 rfl) ?_
                refine lv_iload hx hb dX12_sheet_167 (lv_at hl 5 rfl) ?_
                refine lv_iadd hx hb dX12_sheet_169 ?_
                refine lv_topi (fun x_27 ex_27 => ?_)
                refine lv_istore (lv' := [(5, .int x_27), (7, .int x_26), (9, .int y5_46), (0, .ref h0), (1, .int a0), (2, .int a1), (4, .int a3), (6, .int y6_46), (8, .int y8_46)]) hx hb dX12_sheet_170 hl (by decide) rfl (fun ls hl => ?_)
                obtain ⟨x_28, ex_28⟩ : ∃ y : Int32, y = y6_46 + 1 := ⟨_, rfl⟩
                refine lv_iinc (v := x_28) (lv' := [(6, .int x_28), (5, .int x_27), (7, .int x_26), (9, .int y5_46), (0, .ref h0), (1, .int a0), (2, .int a1), (4, .int a3), (8, .int y8_46)]) hx hb dX12_sheet_172 hl (k := 7) rfl (by rw [ex_28]; rfl) (by decide) rfl (fun ls hl => ?_)
                obtain ⟨x_29, ex_29⟩ : ∃ y : Int32, y = y8_46 + 1 := ⟨_, rfl⟩
                have rx_29 : rgI (1) (24) x_29 := by rw [ex_29]; exact rg_w (rg_add r_7 rl_1 (by decide) (by decide)) (by decide) (by decide)
                have qx_29 : x_29.toInt = (y8_46 : Int32).toInt + 1 := by rw [ex_29]; exact rg_addE r_7 rl_1 (by decide) (by decide)
                refine lv_iinc (v := x_29) (lv' := [(8, .int x_29), (6, .int x_28), (5, .int x_27), (7, .int x_26), (9, .int y5_46), (0, .ref h0), (1, .int a0), (2, .int a1), (4, .int a3)]) hx hb dX12_sheet_175 hl (k := 8) rfl (by rw [ex_29]; rfl) (by decide) rfl (fun ls hl => ?_)
                refine lv_goto (tgt := 46) hx hb dX12_sheet_178 (by decide) ?_
                exact ih_46 H locs G_46 fl0_46 x_27 x_28 x_26 x_29 ls frL_46 efl0_46 (rg_w r_19 (by decide) (by decide)) ry2_46 (rg_w rx_29 (by decide) (by decide)) hi0_46 hi1_46 (by have h1 := qx_29; have h2 := r_7.1; have h3 := r_7.2; have h4 := hm_46; omega) (lv_sub hl [5, 6, 7, 8, 2, 1, 3, 0] rfl) hH hS
              · have r_30 : rgI (0) (0) x_22 := rg_w (rg_eq rl_0 c_23) (by decide) (by decide)
                refine lv_aload_n hx hb dX12_sheet_106 rfl (lv_at hl 1 rfl) ?_
                refine hg_get hx hb hG igX12 hown hK o_c_8 rfl 0 (by decide) (hG _ mw_1284) rfl dX12_sheet_107 ?_
                refine lv_bipush (v := 72) hx hb dX12_sheet_110 (by decide) ?_
                refine lv_iload hx hb dX12_sheet_112 (lv_at hl 8 rfl) ?_
                refine lv_iadd hx hb dX12_sheet_114 ?_
                refine lv_topi (fun x_31 ex_31 => ?_)
                have rx_31 : rgI (72) (95) x_31 := by rw [ex_31]; exact rg_w (rg_add rl_72 r_7 (by decide) (by decide)) (by decide) (by decide)
                refine hg_iald hx hb hK o_c_21 (rg_in (n := 122) rx_31 (by decide) (by decide)) dX12_sheet_115 ?_
                rw [efl0_46]
                refine lv_topi (fun x_32 ex_32 => ?_)
                refine lv_if_ne (tgt := 150) hx hb dX12_sheet_116 (by decide) (fun c_33 => ?_) (fun c_33 => ?_)
                · refine lv_iload hx hb dX12_sheet_150 (lv_at hl 7 rfl) ?_
                  refine lv_aload_n hx hb dX12_sheet_152 rfl (lv_at hl 1 rfl) ?_
                  refine hg_get hx hb hG igX12 hown hK o_c_8 rfl 0 (by decide) (hG _ mw_1284) rfl dX12_sheet_153 ?_
                  refine lv_bipush (v := 96) hx hb dX12_sheet_156 (by decide) ?_
                  refine lv_iload hx hb dX12_sheet_158 (lv_at hl 8 rfl) ?_
                  refine lv_iadd hx hb dX12_sheet_160 ?_
                  refine lv_topi (fun x_34 ex_34 => ?_)
                  have rx_34 : rgI (96) (119) x_34 := by rw [ex_34]; exact rg_w (rg_add rl_96 r_7 (by decide) (by decide)) (by decide) (by decide)
                  refine hg_iald hx hb hK o_c_21 (rg_in (n := 122) rx_34 (by decide) (by decide)) dX12_sheet_161 ?_
                  rw [efl0_46]
                  refine lv_topi (fun x_35 ex_35 => ?_)
                  refine lv_iadd hx hb dX12_sheet_162 ?_
                  refine lv_topi (fun x_36 ex_36 => ?_)
                  refine lv_istore (lv' := [(7, .int x_36), (9, .int y5_46), (0, .ref h0), (1, .int a0), (2, .int a1), (4, .int a3), (5, .int y5_46), (6, .int y6_46), (8, .int y8_46)]) hx hb dX12_sheet_163 hl (by decide) rfl (fun ls hl => ?_)
                  refine lv_iload hx hb dX12_sheet_165 (lv_at hl 6 rfl) ?_
                  refine lv_iload hx hb dX12_sheet_167 (lv_at hl 5 rfl) ?_
                  refine lv_iadd hx hb dX12_sheet_169 ?_
                  refine lv_topi (fun x_37 ex_37 => ?_)
                  refine lv_istore (lv' := [(5, .int x_37), (7, .int x_36), (9, .int y5_46), (0, .ref h0), (1, .int a0), (2, .int a1), (4, .int a3), (6, .int y6_46), (8, .int y8_46)]) hx hb dX12_sheet_170 hl (by decide) rfl (fun ls hl => ?_)
                  obtain ⟨x_38, ex_38⟩ : ∃ y : Int32, y = y6_46 + 1 := ⟨_, rfl⟩
                  refine lv_iinc (v := x_38) (lv' := [(6, .int x_38), (5, .int x_37), (7, .int x_36), (9, .int y5_46), (0, .ref h0), (1, .int a0), (2, .int a1), (4, .int a3), (8, .int y8_46)]) hx hb dX12_sheet_172 hl (k := 7) rfl (by rw [ex_38]; rfl) (by decide) rfl (fun ls hl => ?_)
                  obtain ⟨x_39, ex_39⟩ : ∃ y : Int32, y = y8_46 + 1 := ⟨_, rfl⟩
                  have rx_39 : rgI (1) (24) x_39 := by rw [ex_39]; exact rg_w (rg_add r_7 rl_1 (by decide) (by decide)) (by decide) (by decide)
                  have qx_39 : x_39.toInt = (y8_46 : Int32).toInt + 1 := by rw [ex_39]; exact rg_addE r_7 rl_1 (by decide) (by decide)
                  refine lv_iinc (v := x_39) (lv' := [(8, .int x_39), (6, .int x_38), (5, .int x_37), (7, .int x_36), (9, .int y5_46), (0, .ref h0), (1, .int a0), (2, .int a1), (4, .int a3)]) hx hb dX12_sheet_175 hl (k := 8) rfl (by rw [ex_39]; rfl) (by decide) rfl (fun ls hl => ?_)
                  refine lv_goto (tgt := 46) hx hb dX12_sheet_178 (by decide) ?_
                  exact ih_46 H locs G_46 fl0_46 x_37 x_38 x_36 x_39 ls frL_46 efl0_46 (rg_w r_19 (by decide) (by decide)) ry2_46 (rg_w rx_39 (by decide) (by decide)) hi0_46 hi1_46 (by have h1 := qx_39; have h2 := r_7.1; have h3 := r_7.2; have h4 := hm_46; omega) (lv_sub hl [5, 6, 7, 8, 2, 1, 3, 0] rfl) hH hS
                · have r_40 : rgI (0) (0) x_32 := rg_w (rg_eq rl_0 c_33) (by decide) (by decide)
                  refine lv_aload_n hx hb dX12_sheet_119 rfl (lv_at hl 1 rfl) ?_
                  refine hg_get hx hb hG igX12 hown hK o_c_8 rfl 0 (by decide) (hG _ mw_1284) rfl dX12_sheet_120 ?_
                  refine lv_bipush (v := 96) hx hb dX12_sheet_123 (by decide) ?_
                  refine lv_iload hx hb dX12_sheet_125 (lv_at hl 8 rfl) ?_
                  refine lv_iadd hx hb dX12_sheet_127 ?_
                  refine lv_topi (fun x_41 ex_41 => ?_)
                  have rx_41 : rgI (96) (119) x_41 := by rw [ex_41]; exact rg_w (rg_add rl_96 r_7 (by decide) (by decide)) (by decide) (by decide)
                  refine lv_iload_n hx hb dX12_sheet_128 rfl (lv_at hl 2 rfl) ?_
                  refine lv_iconst (v := 3) hx hb dX12_sheet_129 (by decide) ?_
                  refine lv_icmp_ge (tgt := 148) hx hb dX12_sheet_130 (by decide) (fun c_42 => ?_) (fun c_42 => ?_)
                  · have r_43 : rgI (3) (3) a0 := rg_w (rg_leR rl_3 r_19 c_42) (by decide) (by decide)
                    refine lv_iconst (v := 0) hx hb dX12_sheet_148 (by decide) ?_
                    refine hg_iast hx hb hK hS o_c_21 (AF.of hk_10.1) (rg_in (n := 122) rx_41 (by decide) (by decide)) dX12_sheet_149 (fun H locs o_c_21 hz oq hS => ?_)
                    obtain ⟨G_44, eG_44⟩ : ∃ z : Gh, z = aset G_46 (g.2.2 100) (upd (G_46.2.1 (g.2.2 100)) (x_41 : Int32).toNatClampNeg 0) := ⟨_, rfl⟩
                    have hH : HT g Ty G_44 H := by rw [eG_44]; exact HT.putA (upd (G_46.2.1 (g.2.2 100)) (x_41 : Int32).toNatClampNeg 0) hH hk_10.1 cf30 o_c_21 oq
                    obtain ⟨f_45, ef_45⟩ : ∃ z : Nat → Int32, z = (upd fl0_46 (x_41 : Int32).toNatClampNeg 0) := ⟨_, rfl⟩
                    have eaf_45 : G_44 = aset G_46 (g.2.2 100) f_45 := by rw [eG_44, ef_45, efl0_46]
                    have fr_46 : FR [105] [(g.2.2 100)] [] G G_44 := FR.a frL_46 eaf_45 (fun b h => h.1)
                    have u_47 : G_44.1 102 = (G.1 102) := by rw [eaf_45]; exact (frL_46.1 102 (by decide))
                    have u_48 : G_44.1 104 = (G.1 104) := by rw [eaf_45]; exact (frL_46.1 104 (by decide))
                    have u_49 : G_44.1 113 = (G.1 113) := by rw [eaf_45]; exact (frL_46.1 113 (by decide))
                    have u_50 : G_44.1 122 = (G.1 122) := by rw [eaf_45]; exact (frL_46.1 122 (by decide))
                    have u_51 : G_44.1 133 = (G.1 133) := by rw [eaf_45]; exact (frL_46.1 133 (by decide))
                    have u_52 : G_44.1 137 = (G.1 137) := by rw [eaf_45]; exact (frL_46.1 137 (by decide))
                    have w_53 : G_44.2.1 (g.2.2 100) = f_45 := by rw [eaf_45]; exact aset_eq
                    have w_54 : G_44.2.1 (g.2.2 121) = (G.2.1 (g.2.2 121)) := by rw [eaf_45]; exact (aset_ne (ne_kd hmk.2.2.2.2.2.1 hmk.1 (by decide))).trans (frL_46.2.1 (g.2.2 121) ⟨(ne_kd hmk.2.2.2.2.2.1 hmk.1 (by decide)), trivial⟩)
                    have w_55 : G_44.2.1 (g.2.2 140) = (G.2.1 (g.2.2 140)) := by rw [eaf_45]; exact (aset_ne (ne_kd hmk.2.2.2.2.2.2.2.2.2.2.2.2.2.2.2.2.2.2.1 hmk.1 (by decide))).trans (frL_46.2.1 (g.2.2 140) ⟨(ne_kd hmk.2.2.2.2.2.2.2.2.2.2.2.2.2.2.2.2.2.2.1 hmk.1 (by decide)), trivial⟩)
                    have w_56 : G_44.2.1 (g.2.2 141) = (G.2.1 (g.2.2 141)) := by rw [eaf_45]; exact (aset_ne (ne_kd hmk.2.2.2.2.2.2.2.2.2.2.2.2.2.2.2.2.2.2.2.1 hmk.1 (by decide))).trans (frL_46.2.1 (g.2.2 141) ⟨(ne_kd hmk.2.2.2.2.2.2.2.2.2.2.2.2.2.2.2.2.2.2.2.1 hmk.1 (by decide)), trivial⟩)
                    have w_57 : G_44.2.1 (g.2.2 111) = (G.2.1 (g.2.2 111)) := by rw [eaf_45]; exact (aset_ne (ne_kd hmk.2.2.2.2.2.2.2.2.2.2.2.2.2.2.2.2.2.2.2.2.1 hmk.1 (by decide))).trans (frL_46.2.1 (g.2.2 111) ⟨(ne_kd hmk.2.2.2.2.2.2.2.2.2.2.2.2.2.2.2.2.2.2.2.2.1 hmk.1 (by decide)), trivial⟩)
                    have u_58 : G_44.2.2 111 = some (g.2.2 111) := by rw [eaf_45]; exact ((frL_46.2.2 111 (by decide)).trans hI.r111)
                    have u_59 : G_44.2.2 112 = some (g.2.2 112) := by rw [eaf_45]; exact ((frL_46.2.2 112 (by decide)).trans hI.r112)
                    clear oq hz
                    refine lv_iload hx hb dX12_sheet_150 (lv_at hl 7 rfl) ?_
                    refine lv_aload_n hx hb dX12_sheet_152 rfl (lv_at hl 1 rfl) ?_
                    obtain ⟨_, ⟨rfl, t_61, hk_62⟩, o_c_60⟩ := hH h0 _ k_h0
                    refine hg_get hx hb hG igX12 hown hK o_c_60 rfl 0 (by decide) (hG _ mw_1284) rfl dX12_sheet_153 ?_
                    refine lv_bipush (v := 96) hx hb dX12_sheet_156 (by decide) ?_
                    refine lv_iload hx hb dX12_sheet_158 (lv_at hl 8 rfl) ?_
                    refine lv_iadd hx hb dX12_sheet_160 ?_
                    refine lv_topi (fun x_63 ex_63 => ?_)
                    have rx_63 : rgI (96) (119) x_63 := by rw [ex_63]; exact rg_w (rg_add rl_96 r_7 (by decide) (by decide)) (by decide) (by decide)
                    obtain ⟨_, rfl, o_c_64⟩ := hH (g.2.2 100) _ hk_62.1
                    have o_c_64 : va_at g.1 vwCl ((g.2.2 100), .inl (g.2.1 1, 122, .inl (G_44.2.1 (g.2.2 100)))) H := o_c_64
                    refine hg_iald hx hb hK o_c_64 (rg_in (n := 122) rx_63 (by decide) (by decide)) dX12_sheet_161 ?_
                    rw [w_53]
                    refine lv_topi (fun x_65 ex_65 => ?_)
                    refine lv_iadd hx hb dX12_sheet_162 ?_
                    refine lv_topi (fun x_66 ex_66 => ?_)
                    refine lv_istore (lv' := [(7, .int x_66), (9, .int y5_46), (0, .ref h0), (1, .int a0), (2, .int a1), (4, .int a3), (5, .int y5_46), (6, .int y6_46), (8, .int y8_46)]) hx hb dX12_sheet_163 hl (by decide) rfl (fun ls hl => ?_)
                    refine lv_iload hx hb dX12_sheet_165 (lv_at hl 6 rfl) ?_
                    refine lv_iload hx hb dX12_sheet_167 (lv_at hl 5 rfl) ?_
                    refine lv_iadd hx hb dX12_sheet_169 ?_
                    refine lv_topi (fun x_67 ex_67 => ?_)
                    refine lv_istore (lv' := [(5, .int x_67), (7, .int x_66), (9, .int y5_46), (0, .ref h0), (1, .int a0), (2, .int a1), (4, .int a3), (6, .int y6_46), (8, .int y8_46)]) hx hb dX12_sheet_170 hl (by decide) rfl (fun ls hl => ?_)
                    obtain ⟨x_68, ex_68⟩ : ∃ y : Int32, y = y6_46 + 1 := ⟨_, rfl⟩
                    refine lv_iinc (v := x_68) (lv' := [(6, .int x_68), (5, .int x_67), (7, .int x_66), (9, .int y5_46), (0, .ref h0), (1, .int a0), (2, .int a1), (4, .int a3), (8, .int y8_46)]) hx hb dX12_sheet_172 hl (k := 7) rfl (by rw [ex_68]; rfl) (by decide) rfl (fun ls hl => ?_)
                    obtain ⟨x_69, ex_69⟩ : ∃ y : Int32, y = y8_46 + 1 := ⟨_, rfl⟩
                    have rx_69 : rgI (1) (24) x_69 := by rw [ex_69]; exact rg_w (rg_add r_7 rl_1 (by decide) (by decide)) (by decide) (by decide)
                    have qx_69 : x_69.toInt = (y8_46 : Int32).toInt + 1 := by rw [ex_69]; exact rg_addE r_7 rl_1 (by decide) (by decide)
                    refine lv_iinc (v := x_69) (lv' := [(8, .int x_69), (6, .int x_68), (5, .int x_67), (7, .int x_66), (9, .int y5_46), (0, .ref h0), (1, .int a0), (2, .int a1), (4, .int a3)]) hx hb dX12_sheet_175 hl (k := 8) rfl (by rw [ex_69]; rfl) (by decide) rfl (fun ls hl => ?_)
                    refine lv_goto (tgt := 46) hx hb dX12_sheet_178 (by decide) ?_
                    exact ih_46 H locs G_44 f_45 x_67 x_68 x_66 x_69 ls fr_46 w_53 (rg_w r_43 (by decide) (by decide)) ry2_46 (rg_w rx_69 (by decide) (by decide)) (sh_s hi0_46 hi1_46 r_7 ex_41 (Or.inl rfl) ef_45).1 (sh_s hi0_46 hi1_46 r_7 ex_41 (Or.inl rfl) ef_45).2 (by have h1 := qx_69; have h2 := r_7.1; have h3 := r_7.2; have h4 := hm_46; omega) (lv_sub hl [5, 6, 7, 8, 2, 1, 3, 0] rfl) hH hS
                  · have r_70 : rgI (2) (2) a0 := rg_w (rg_ltL r_19 rl_3 (nle_lt c_42)) (by decide) (by decide)
                    refine lv_iload hx hb dX12_sheet_133 (lv_at hl 6 rfl) ?_
                    refine lv_iload_n hx hb dX12_sheet_135 rfl (lv_at hl 3 rfl) ?_
                    refine lv_icmp_ge (tgt := 148) hx hb dX12_sheet_136 (by decide) (fun c_71 => ?_) (fun c_71 => ?_)
                    · refine lv_iconst (v := 0) hx hb dX12_sheet_148 (by decide) ?_
                      refine hg_iast hx hb hK hS o_c_21 (AF.of hk_10.1) (rg_in (n := 122) rx_41 (by decide) (by decide)) dX12_sheet_149 (fun H locs o_c_21 hz oq hS => ?_)
                      obtain ⟨G_72, eG_72⟩ : ∃ z : Gh, z = aset G_46 (g.2.2 100) (upd (G_46.2.1 (g.2.2 100)) (x_41 : Int32).toNatClampNeg 0) := ⟨_, rfl⟩
                      have hH : HT g Ty G_72 H := by rw [eG_72]; exact HT.putA (upd (G_46.2.1 (g.2.2 100)) (x_41 : Int32).toNatClampNeg 0) hH hk_10.1 cf30 o_c_21 oq
                      obtain ⟨f_73, ef_73⟩ : ∃ z : Nat → Int32, z = (upd fl0_46 (x_41 : Int32).toNatClampNeg 0) := ⟨_, rfl⟩
                      have eaf_73 : G_72 = aset G_46 (g.2.2 100) f_73 := by rw [eG_72, ef_73, efl0_46]
                      have fr_74 : FR [105] [(g.2.2 100)] [] G G_72 := FR.a frL_46 eaf_73 (fun b h => h.1)
                      have u_75 : G_72.1 102 = (G.1 102) := by rw [eaf_73]; exact (frL_46.1 102 (by decide))
                      have u_76 : G_72.1 104 = (G.1 104) := by rw [eaf_73]; exact (frL_46.1 104 (by decide))
                      have u_77 : G_72.1 113 = (G.1 113) := by rw [eaf_73]; exact (frL_46.1 113 (by decide))
                      have u_78 : G_72.1 122 = (G.1 122) := by rw [eaf_73]; exact (frL_46.1 122 (by decide))
                      have u_79 : G_72.1 133 = (G.1 133) := by rw [eaf_73]; exact (frL_46.1 133 (by decide))
                      have u_80 : G_72.1 137 = (G.1 137) := by rw [eaf_73]; exact (frL_46.1 137 (by decide))
                      have w_81 : G_72.2.1 (g.2.2 100) = f_73 := by rw [eaf_73]; exact aset_eq
                      have w_82 : G_72.2.1 (g.2.2 121) = (G.2.1 (g.2.2 121)) := by rw [eaf_73]; exact (aset_ne (ne_kd hmk.2.2.2.2.2.1 hmk.1 (by decide))).trans (frL_46.2.1 (g.2.2 121) ⟨(ne_kd hmk.2.2.2.2.2.1 hmk.1 (by decide)), trivial⟩)
                      have w_83 : G_72.2.1 (g.2.2 140) = (G.2.1 (g.2.2 140)) := by rw [eaf_73]; exact (aset_ne (ne_kd hmk.2.2.2.2.2.2.2.2.2.2.2.2.2.2.2.2.2.2.1 hmk.1 (by decide))).trans (frL_46.2.1 (g.2.2 140) ⟨(ne_kd hmk.2.2.2.2.2.2.2.2.2.2.2.2.2.2.2.2.2.2.1 hmk.1 (by decide)), trivial⟩)
                      have w_84 : G_72.2.1 (g.2.2 141) = (G.2.1 (g.2.2 141)) := by rw [eaf_73]; exact (aset_ne (ne_kd hmk.2.2.2.2.2.2.2.2.2.2.2.2.2.2.2.2.2.2.2.1 hmk.1 (by decide))).trans (frL_46.2.1 (g.2.2 141) ⟨(ne_kd hmk.2.2.2.2.2.2.2.2.2.2.2.2.2.2.2.2.2.2.2.1 hmk.1 (by decide)), trivial⟩)
                      have w_85 : G_72.2.1 (g.2.2 111) = (G.2.1 (g.2.2 111)) := by rw [eaf_73]; exact (aset_ne (ne_kd hmk.2.2.2.2.2.2.2.2.2.2.2.2.2.2.2.2.2.2.2.2.1 hmk.1 (by decide))).trans (frL_46.2.1 (g.2.2 111) ⟨(ne_kd hmk.2.2.2.2.2.2.2.2.2.2.2.2.2.2.2.2.2.2.2.2.1 hmk.1 (by decide)), trivial⟩)
                      have u_86 : G_72.2.2 111 = some (g.2.2 111) := by rw [eaf_73]; exact ((frL_46.2.2 111 (by decide)).trans hI.r111)
                      have u_87 : G_72.2.2 112 = some (g.2.2 112) := by rw [eaf_73]; exact ((frL_46.2.2 112 (by decide)).trans hI.r112)
                      clear oq hz
                      refine lv_iload hx hb dX12_sheet_150 (lv_at hl 7 rfl) ?_
                      refine lv_aload_n hx hb dX12_sheet_152 rfl (lv_at hl 1 rfl) ?_
                      obtain ⟨_, ⟨rfl, t_89, hk_90⟩, o_c_88⟩ := hH h0 _ k_h0
                      refine hg_get hx hb hG igX12 hown hK o_c_88 rfl 0 (by decide) (hG _ mw_1284) rfl dX12_sheet_153 ?_
                      refine lv_bipush (v := 96) hx hb dX12_sheet_156 (by decide) ?_
                      refine lv_iload hx hb dX12_sheet_158 (lv_at hl 8 rfl) ?_
                      refine lv_iadd hx hb dX12_sheet_160 ?_
                      refine lv_topi (fun x_91 ex_91 => ?_)
                      have rx_91 : rgI (96) (119) x_91 := by rw [ex_91]; exact rg_w (rg_add rl_96 r_7 (by decide) (by decide)) (by decide) (by decide)
                      obtain ⟨_, rfl, o_c_92⟩ := hH (g.2.2 100) _ hk_90.1
                      have o_c_92 : va_at g.1 vwCl ((g.2.2 100), .inl (g.2.1 1, 122, .inl (G_72.2.1 (g.2.2 100)))) H := o_c_92
                      refine hg_iald hx hb hK o_c_92 (rg_in (n := 122) rx_91 (by decide) (by decide)) dX12_sheet_161 ?_
                      rw [w_81]
                      refine lv_topi (fun x_93 ex_93 => ?_)
                      refine lv_iadd hx hb dX12_sheet_162 ?_
                      refine lv_topi (fun x_94 ex_94 => ?_)
                      refine lv_istore (lv' := [(7, .int x_94), (9, .int y5_46), (0, .ref h0), (1, .int a0), (2, .int a1), (4, .int a3), (5, .int y5_46), (6, .int y6_46), (8, .int y8_46)]) hx hb dX12_sheet_163 hl (by decide) rfl (fun ls hl => ?_)
                      refine lv_iload hx hb dX12_sheet_165 (lv_at hl 6 rfl) ?_
                      refine lv_iload hx hb dX12_sheet_167 (lv_at hl 5 rfl) ?_
                      refine lv_iadd hx hb dX12_sheet_169 ?_
                      refine lv_topi (fun x_95 ex_95 => ?_)
                      refine lv_istore (lv' := [(5, .int x_95), (7, .int x_94), (9, .int y5_46), (0, .ref h0), (1, .int a0), (2, .int a1), (4, .int a3), (6, .int y6_46), (8, .int y8_46)]) hx hb dX12_sheet_170 hl (by decide) rfl (fun ls hl => ?_)
                      obtain ⟨x_96, ex_96⟩ : ∃ y : Int32, y = y6_46 + 1 := ⟨_, rfl⟩
                      refine lv_iinc (v := x_96) (lv' := [(6, .int x_96), (5, .int x_95), (7, .int x_94), (9, .int y5_46), (0, .ref h0), (1, .int a0), (2, .int a1), (4, .int a3), (8, .int y8_46)]) hx hb dX12_sheet_172 hl (k := 7) rfl (by rw [ex_96]; rfl) (by decide) rfl (fun ls hl => ?_)
                      obtain ⟨x_97, ex_97⟩ : ∃ y : Int32, y = y8_46 + 1 := ⟨_, rfl⟩
                      have rx_97 : rgI (1) (24) x_97 := by rw [ex_97]; exact rg_w (rg_add r_7 rl_1 (by decide) (by decide)) (by decide) (by decide)
                      have qx_97 : x_97.toInt = (y8_46 : Int32).toInt + 1 := by rw [ex_97]; exact rg_addE r_7 rl_1 (by decide) (by decide)
                      refine lv_iinc (v := x_97) (lv' := [(8, .int x_97), (6, .int x_96), (5, .int x_95), (7, .int x_94), (9, .int y5_46), (0, .ref h0), (1, .int a0), (2, .int a1), (4, .int a3)]) hx hb dX12_sheet_175 hl (k := 8) rfl (by rw [ex_97]; rfl) (by decide) rfl (fun ls hl => ?_)
                      refine lv_goto (tgt := 46) hx hb dX12_sheet_178 (by decide) ?_
                      exact ih_46 H locs G_72 f_73 x_95 x_96 x_94 x_97 ls fr_74 w_81 (rg_w r_70 (by decide) (by decide)) ry2_46 (rg_w rx_97 (by decide) (by decide)) (sh_s hi0_46 hi1_46 r_7 ex_41 (Or.inl rfl) ef_73).1 (sh_s hi0_46 hi1_46 r_7 ex_41 (Or.inl rfl) ef_73).2 (by have h1 := qx_97; have h2 := r_7.1; have h3 := r_7.2; have h4 := hm_46; omega) (lv_sub hl [5, 6, 7, 8, 2, 1, 3, 0] rfl) hH hS
                    · have r_98 : rgI (-2147483648) (23) y6_46 := rg_w (rg_ltL (rg_top y6_46) ry2_46 (nle_lt c_71)) (by decide) (by decide)
                      have r_99 : rgI (-2147483647) (24) a1 := rg_w (rg_ltR (rg_top y6_46) ry2_46 (nle_lt c_71)) (by decide) (by decide)
                      refine lv_iload hx hb dX12_sheet_139 (lv_at hl 0 rfl) ?_
                      refine lv_if_le (tgt := 148) hx hb dX12_sheet_141 (by decide) (fun c_100 => ?_) (fun c_100 => ?_)
                      · have r_101 : rgI (-2147483648) (0) y5_46 := rg_w (rg_leL (rg_top y5_46) rl_0 c_100) (by decide) (by decide)
                        refine lv_iconst (v := 0) hx hb dX12_sheet_148 (by decide) ?_
                        refine hg_iast hx hb hK hS o_c_21 (AF.of hk_10.1) (rg_in (n := 122) rx_41 (by decide) (by decide)) dX12_sheet_149 (fun H locs o_c_21 hz oq hS => ?_)
                        obtain ⟨G_102, eG_102⟩ : ∃ z : Gh, z = aset G_46 (g.2.2 100) (upd (G_46.2.1 (g.2.2 100)) (x_41 : Int32).toNatClampNeg 0) := ⟨_, rfl⟩
                        have hH : HT g Ty G_102 H := by rw [eG_102]; exact HT.putA (upd (G_46.2.1 (g.2.2 100)) (x_41 : Int32).toNatClampNeg 0) hH hk_10.1 cf30 o_c_21 oq
                        obtain ⟨f_103, ef_103⟩ : ∃ z : Nat → Int32, z = (upd fl0_46 (x_41 : Int32).toNatClampNeg 0) := ⟨_, rfl⟩
                        have eaf_103 : G_102 = aset G_46 (g.2.2 100) f_103 := by rw [eG_102, ef_103, efl0_46]
                        have fr_104 : FR [105] [(g.2.2 100)] [] G G_102 := FR.a frL_46 eaf_103 (fun b h => h.1)
                        have u_105 : G_102.1 102 = (G.1 102) := by rw [eaf_103]; exact (frL_46.1 102 (by decide))
                        have u_106 : G_102.1 104 = (G.1 104) := by rw [eaf_103]; exact (frL_46.1 104 (by decide))
                        have u_107 : G_102.1 113 = (G.1 113) := by rw [eaf_103]; exact (frL_46.1 113 (by decide))
                        have u_108 : G_102.1 122 = (G.1 122) := by rw [eaf_103]; exact (frL_46.1 122 (by decide))
                        have u_109 : G_102.1 133 = (G.1 133) := by rw [eaf_103]; exact (frL_46.1 133 (by decide))
                        have u_110 : G_102.1 137 = (G.1 137) := by rw [eaf_103]; exact (frL_46.1 137 (by decide))
                        have w_111 : G_102.2.1 (g.2.2 100) = f_103 := by rw [eaf_103]; exact aset_eq
                        have w_112 : G_102.2.1 (g.2.2 121) = (G.2.1 (g.2.2 121)) := by rw [eaf_103]; exact (aset_ne (ne_kd hmk.2.2.2.2.2.1 hmk.1 (by decide))).trans (frL_46.2.1 (g.2.2 121) ⟨(ne_kd hmk.2.2.2.2.2.1 hmk.1 (by decide)), trivial⟩)
                        have w_113 : G_102.2.1 (g.2.2 140) = (G.2.1 (g.2.2 140)) := by rw [eaf_103]; exact (aset_ne (ne_kd hmk.2.2.2.2.2.2.2.2.2.2.2.2.2.2.2.2.2.2.1 hmk.1 (by decide))).trans (frL_46.2.1 (g.2.2 140) ⟨(ne_kd hmk.2.2.2.2.2.2.2.2.2.2.2.2.2.2.2.2.2.2.1 hmk.1 (by decide)), trivial⟩)
                        have w_114 : G_102.2.1 (g.2.2 141) = (G.2.1 (g.2.2 141)) := by rw [eaf_103]; exact (aset_ne (ne_kd hmk.2.2.2.2.2.2.2.2.2.2.2.2.2.2.2.2.2.2.2.1 hmk.1 (by decide))).trans (frL_46.2.1 (g.2.2 141) ⟨(ne_kd hmk.2.2.2.2.2.2.2.2.2.2.2.2.2.2.2.2.2.2.2.1 hmk.1 (by decide)), trivial⟩)
                        have w_115 : G_102.2.1 (g.2.2 111) = (G.2.1 (g.2.2 111)) := by rw [eaf_103]; exact (aset_ne (ne_kd hmk.2.2.2.2.2.2.2.2.2.2.2.2.2.2.2.2.2.2.2.2.1 hmk.1 (by decide))).trans (frL_46.2.1 (g.2.2 111) ⟨(ne_kd hmk.2.2.2.2.2.2.2.2.2.2.2.2.2.2.2.2.2.2.2.2.1 hmk.1 (by decide)), trivial⟩)
                        have u_116 : G_102.2.2 111 = some (g.2.2 111) := by rw [eaf_103]; exact ((frL_46.2.2 111 (by decide)).trans hI.r111)
                        have u_117 : G_102.2.2 112 = some (g.2.2 112) := by rw [eaf_103]; exact ((frL_46.2.2 112 (by decide)).trans hI.r112)
                        clear oq hz
                        refine lv_iload hx hb dX12_sheet_150 (lv_at hl 7 rfl) ?_
                        refine lv_aload_n hx hb dX12_sheet_152 rfl (lv_at hl 1 rfl) ?_
                        obtain ⟨_, ⟨rfl, t_119, hk_120⟩, o_c_118⟩ := hH h0 _ k_h0
                        refine hg_get hx hb hG igX12 hown hK o_c_118 rfl 0 (by decide) (hG _ mw_1284) rfl dX12_sheet_153 ?_
                        refine lv_bipush (v := 96) hx hb dX12_sheet_156 (by decide) ?_
                        refine lv_iload hx hb dX12_sheet_158 (lv_at hl 8 rfl) ?_
                        refine lv_iadd hx hb dX12_sheet_160 ?_
                        refine lv_topi (fun x_121 ex_121 => ?_)
                        have rx_121 : rgI (96) (119) x_121 := by rw [ex_121]; exact rg_w (rg_add rl_96 r_7 (by decide) (by decide)) (by decide) (by decide)
                        obtain ⟨_, rfl, o_c_122⟩ := hH (g.2.2 100) _ hk_120.1
                        have o_c_122 : va_at g.1 vwCl ((g.2.2 100), .inl (g.2.1 1, 122, .inl (G_102.2.1 (g.2.2 100)))) H := o_c_122
                        refine hg_iald hx hb hK o_c_122 (rg_in (n := 122) rx_121 (by decide) (by decide)) dX12_sheet_161 ?_
                        rw [w_111]
                        refine lv_topi (fun x_123 ex_123 => ?_)
                        refine lv_iadd hx hb dX12_sheet_162 ?_
                        refine lv_topi (fun x_124 ex_124 => ?_)
                        refine lv_istore (lv' := [(7, .int x_124), (9, .int y5_46), (0, .ref h0), (1, .int a0), (2, .int a1), (4, .int a3), (5, .int y5_46), (6, .int y6_46), (8, .int y8_46)]) hx hb dX12_sheet_163 hl (by decide) rfl (fun ls hl => ?_)
                        refine lv_iload hx hb dX12_sheet_165 (lv_at hl 6 rfl) ?_
                        refine lv_iload hx hb dX12_sheet_167 (lv_at hl 5 rfl) ?_
                        refine lv_iadd hx hb dX12_sheet_169 ?_
                        refine lv_topi (fun x_125 ex_125 => ?_)
                        refine lv_istore (lv' := [(5, .int x_125), (7, .int x_124), (9, .int y5_46), (0, .ref h0), (1, .int a0), (2, .int a1), (4, .int a3), (6, .int y6_46), (8, .int y8_46)]) hx hb dX12_sheet_170 hl (by decide) rfl (fun ls hl => ?_)
                        obtain ⟨x_126, ex_126⟩ : ∃ y : Int32, y = y6_46 + 1 := ⟨_, rfl⟩
                        have rx_126 : rgI (-2147483647) (24) x_126 := by rw [ex_126]; exact rg_w (rg_add r_98 rl_1 (by decide) (by decide)) (by decide) (by decide)
                        have qx_126 : x_126.toInt = (y6_46 : Int32).toInt + 1 := by rw [ex_126]; exact rg_addE r_98 rl_1 (by decide) (by decide)
                        refine lv_iinc (v := x_126) (lv' := [(6, .int x_126), (5, .int x_125), (7, .int x_124), (9, .int y5_46), (0, .ref h0), (1, .int a0), (2, .int a1), (4, .int a3), (8, .int y8_46)]) hx hb dX12_sheet_172 hl (k := 7) rfl (by rw [ex_126]; rfl) (by decide) rfl (fun ls hl => ?_)
                        obtain ⟨x_127, ex_127⟩ : ∃ y : Int32, y = y8_46 + 1 := ⟨_, rfl⟩
                        have rx_127 : rgI (1) (24) x_127 := by rw [ex_127]; exact rg_w (rg_add r_7 rl_1 (by decide) (by decide)) (by decide) (by decide)
                        have qx_127 : x_127.toInt = (y8_46 : Int32).toInt + 1 := by rw [ex_127]; exact rg_addE r_7 rl_1 (by decide) (by decide)
                        refine lv_iinc (v := x_127) (lv' := [(8, .int x_127), (6, .int x_126), (5, .int x_125), (7, .int x_124), (9, .int y5_46), (0, .ref h0), (1, .int a0), (2, .int a1), (4, .int a3)]) hx hb dX12_sheet_175 hl (k := 8) rfl (by rw [ex_127]; rfl) (by decide) rfl (fun ls hl => ?_)
                        refine lv_goto (tgt := 46) hx hb dX12_sheet_178 (by decide) ?_
                        exact ih_46 H locs G_102 f_103 x_125 x_126 x_124 x_127 ls fr_104 w_111 (rg_w r_70 (by decide) (by decide)) (rg_w r_99 (by decide) (by decide)) (rg_w rx_127 (by decide) (by decide)) (sh_s hi0_46 hi1_46 r_7 ex_41 (Or.inl rfl) ef_103).1 (sh_s hi0_46 hi1_46 r_7 ex_41 (Or.inl rfl) ef_103).2 (by have h1 := qx_127; have h2 := r_7.1; have h3 := r_7.2; have h4 := hm_46; omega) (lv_sub hl [5, 6, 7, 8, 2, 1, 3, 0] rfl) hH hS
                      · have r_128 : rgI (1) (2147483647) y5_46 := rg_w (rg_ltR rl_0 (rg_top y5_46) (nle_lt c_100)) (by decide) (by decide)
                        refine lv_iconst (v := 1) hx hb dX12_sheet_144 (by decide) ?_
                        refine lv_goto (tgt := 149) hx hb dX12_sheet_145 (by decide) ?_
                        refine hg_iast hx hb hK hS o_c_21 (AF.of hk_10.1) (rg_in (n := 122) rx_41 (by decide) (by decide)) dX12_sheet_149 (fun H locs o_c_21 hz oq hS => ?_)
                        obtain ⟨G_129, eG_129⟩ : ∃ z : Gh, z = aset G_46 (g.2.2 100) (upd (G_46.2.1 (g.2.2 100)) (x_41 : Int32).toNatClampNeg 1) := ⟨_, rfl⟩
                        have hH : HT g Ty G_129 H := by rw [eG_129]; exact HT.putA (upd (G_46.2.1 (g.2.2 100)) (x_41 : Int32).toNatClampNeg 1) hH hk_10.1 cf30 o_c_21 oq
                        obtain ⟨f_130, ef_130⟩ : ∃ z : Nat → Int32, z = (upd fl0_46 (x_41 : Int32).toNatClampNeg 1) := ⟨_, rfl⟩
                        have eaf_130 : G_129 = aset G_46 (g.2.2 100) f_130 := by rw [eG_129, ef_130, efl0_46]
                        have fr_131 : FR [105] [(g.2.2 100)] [] G G_129 := FR.a frL_46 eaf_130 (fun b h => h.1)
                        have u_132 : G_129.1 102 = (G.1 102) := by rw [eaf_130]; exact (frL_46.1 102 (by decide))
                        have u_133 : G_129.1 104 = (G.1 104) := by rw [eaf_130]; exact (frL_46.1 104 (by decide))
                        have u_134 : G_129.1 113 = (G.1 113) := by rw [eaf_130]; exact (frL_46.1 113 (by decide))
                        have u_135 : G_129.1 122 = (G.1 122) := by rw [eaf_130]; exact (frL_46.1 122 (by decide))
                        have u_136 : G_129.1 133 = (G.1 133) := by rw [eaf_130]; exact (frL_46.1 133 (by decide))
                        have u_137 : G_129.1 137 = (G.1 137) := by rw [eaf_130]; exact (frL_46.1 137 (by decide))
                        have w_138 : G_129.2.1 (g.2.2 100) = f_130 := by rw [eaf_130]; exact aset_eq
                        have w_139 : G_129.2.1 (g.2.2 121) = (G.2.1 (g.2.2 121)) := by rw [eaf_130]; exact (aset_ne (ne_kd hmk.2.2.2.2.2.1 hmk.1 (by decide))).trans (frL_46.2.1 (g.2.2 121) ⟨(ne_kd hmk.2.2.2.2.2.1 hmk.1 (by decide)), trivial⟩)
                        have w_140 : G_129.2.1 (g.2.2 140) = (G.2.1 (g.2.2 140)) := by rw [eaf_130]; exact (aset_ne (ne_kd hmk.2.2.2.2.2.2.2.2.2.2.2.2.2.2.2.2.2.2.1 hmk.1 (by decide))).trans (frL_46.2.1 (g.2.2 140) ⟨(ne_kd hmk.2.2.2.2.2.2.2.2.2.2.2.2.2.2.2.2.2.2.1 hmk.1 (by decide)), trivial⟩)
                        have w_141 : G_129.2.1 (g.2.2 141) = (G.2.1 (g.2.2 141)) := by rw [eaf_130]; exact (aset_ne (ne_kd hmk.2.2.2.2.2.2.2.2.2.2.2.2.2.2.2.2.2.2.2.1 hmk.1 (by decide))).trans (frL_46.2.1 (g.2.2 141) ⟨(ne_kd hmk.2.2.2.2.2.2.2.2.2.2.2.2.2.2.2.2.2.2.2.1 hmk.1 (by decide)), trivial⟩)
                        have w_142 : G_129.2.1 (g.2.2 111) = (G.2.1 (g.2.2 111)) := by rw [eaf_130]; exact (aset_ne (ne_kd hmk.2.2.2.2.2.2.2.2.2.2.2.2.2.2.2.2.2.2.2.2.1 hmk.1 (by decide))).trans (frL_46.2.1 (g.2.2 111) ⟨(ne_kd hmk.2.2.2.2.2.2.2.2.2.2.2.2.2.2.2.2.2.2.2.2.1 hmk.1 (by decide)), trivial⟩)
                        have u_143 : G_129.2.2 111 = some (g.2.2 111) := by rw [eaf_130]; exact ((frL_46.2.2 111 (by decide)).trans hI.r111)
                        have u_144 : G_129.2.2 112 = some (g.2.2 112) := by rw [eaf_130]; exact ((frL_46.2.2 112 (by decide)).trans hI.r112)
                        clear oq hz
                        refine lv_iload hx hb dX12_sheet_150 (lv_at hl 7 rfl) ?_
                        refine lv_aload_n hx hb dX12_sheet_152 rfl (lv_at hl 1 rfl) ?_
                        obtain ⟨_, ⟨rfl, t_146, hk_147⟩, o_c_145⟩ := hH h0 _ k_h0
                        refine hg_get hx hb hG igX12 hown hK o_c_145 rfl 0 (by decide) (hG _ mw_1284) rfl dX12_sheet_153 ?_
                        refine lv_bipush (v := 96) hx hb dX12_sheet_156 (by decide) ?_
                        refine lv_iload hx hb dX12_sheet_158 (lv_at hl 8 rfl) ?_
                        refine lv_iadd hx hb dX12_sheet_160 ?_
                        refine lv_topi (fun x_148 ex_148 => ?_)
                        have rx_148 : rgI (96) (119) x_148 := by rw [ex_148]; exact rg_w (rg_add rl_96 r_7 (by decide) (by decide)) (by decide) (by decide)
                        obtain ⟨_, rfl, o_c_149⟩ := hH (g.2.2 100) _ hk_147.1
                        have o_c_149 : va_at g.1 vwCl ((g.2.2 100), .inl (g.2.1 1, 122, .inl (G_129.2.1 (g.2.2 100)))) H := o_c_149
                        refine hg_iald hx hb hK o_c_149 (rg_in (n := 122) rx_148 (by decide) (by decide)) dX12_sheet_161 ?_
                        rw [w_138]
                        refine lv_topi (fun x_150 ex_150 => ?_)
                        refine lv_iadd hx hb dX12_sheet_162 ?_
                        refine lv_topi (fun x_151 ex_151 => ?_)
                        refine lv_istore (lv' := [(7, .int x_151), (9, .int y5_46), (0, .ref h0), (1, .int a0), (2, .int a1), (4, .int a3), (5, .int y5_46), (6, .int y6_46), (8, .int y8_46)]) hx hb dX12_sheet_163 hl (by decide) rfl (fun ls hl => ?_)
                        refine lv_iload hx hb dX12_sheet_165 (lv_at hl 6 rfl) ?_
                        refine lv_iload hx hb dX12_sheet_167 (lv_at hl 5 rfl) ?_
                        refine lv_iadd hx hb dX12_sheet_169 ?_
                        refine lv_topi (fun x_152 ex_152 => ?_)
                        refine lv_istore (lv' := [(5, .int x_152), (7, .int x_151), (9, .int y5_46), (0, .ref h0), (1, .int a0), (2, .int a1), (4, .int a3), (6, .int y6_46), (8, .int y8_46)]) hx hb dX12_sheet_170 hl (by decide) rfl (fun ls hl => ?_)
                        obtain ⟨x_153, ex_153⟩ : ∃ y : Int32, y = y6_46 + 1 := ⟨_, rfl⟩
                        have rx_153 : rgI (-2147483647) (24) x_153 := by rw [ex_153]; exact rg_w (rg_add r_98 rl_1 (by decide) (by decide)) (by decide) (by decide)
                        have qx_153 : x_153.toInt = (y6_46 : Int32).toInt + 1 := by rw [ex_153]; exact rg_addE r_98 rl_1 (by decide) (by decide)
                        refine lv_iinc (v := x_153) (lv' := [(6, .int x_153), (5, .int x_152), (7, .int x_151), (9, .int y5_46), (0, .ref h0), (1, .int a0), (2, .int a1), (4, .int a3), (8, .int y8_46)]) hx hb dX12_sheet_172 hl (k := 7) rfl (by rw [ex_153]; rfl) (by decide) rfl (fun ls hl => ?_)
                        obtain ⟨x_154, ex_154⟩ : ∃ y : Int32, y = y8_46 + 1 := ⟨_, rfl⟩
                        have rx_154 : rgI (1) (24) x_154 := by rw [ex_154]; exact rg_w (rg_add r_7 rl_1 (by decide) (by decide)) (by decide) (by decide)
                        have qx_154 : x_154.toInt = (y8_46 : Int32).toInt + 1 := by rw [ex_154]; exact rg_addE r_7 rl_1 (by decide) (by decide)
                        refine lv_iinc (v := x_154) (lv' := [(8, .int x_154), (6, .int x_153), (5, .int x_152), (7, .int x_151), (9, .int y5_46), (0, .ref h0), (1, .int a0), (2, .int a1), (4, .int a3)]) hx hb dX12_sheet_175 hl (k := 8) rfl (by rw [ex_154]; rfl) (by decide) rfl (fun ls hl => ?_)
                        refine lv_goto (tgt := 46) hx hb dX12_sheet_178 (by decide) ?_
                        exact ih_46 H locs G_129 f_130 x_152 x_153 x_151 x_154 ls fr_131 w_138 (rg_w r_70 (by decide) (by decide)) (rg_w r_99 (by decide) (by decide)) (rg_w rx_154 (by decide) (by decide)) (sh_s hi0_46 hi1_46 r_7 ex_41 (Or.inr rfl) ef_130).1 (sh_s hi0_46 hi1_46 r_7 ex_41 (Or.inr rfl) ef_130).2 (by have h1 := qx_154; have h2 := r_7.1; have h3 := r_7.2; have h4 := hm_46; omega) (lv_sub hl [5, 6, 7, 8, 2, 1, 3, 0] rfl) hH hS
            · have r_155 : rgI (1) (1) a0 := rg_w (rg_eq rl_1 c_18) (by decide) (by decide)
              refine lv_iload hx hb dX12_sheet_83 (lv_at hl 4 rfl) ?_
              refine lv_i2s hx hb dX12_sheet_85 rfl ?_
              refine lv_topi (fun x_156 ex_156 => ?_)
              refine lv_goto (tgt := 91) hx hb dX12_sheet_86 (by decide) ?_
              refine lv_istore (lv' := [(9, .int x_156), (0, .ref h0), (1, .int a0), (2, .int a1), (4, .int a3), (5, .int y5_46), (6, .int y6_46), (7, .int y7_46), (8, .int y8_46)]) hx hb dX12_sheet_91 hl (by decide) rfl (fun ls hl => ?_)
              refine lv_aload_n hx hb dX12_sheet_93 rfl (lv_at hl 1 rfl) ?_
              refine hg_get hx hb hG igX12 hown hK o_c_8 rfl 0 (by decide) (hG _ mw_1284) rfl dX12_sheet_94 ?_
              refine lv_bipush (v := 48) hx hb dX12_sheet_97 (by decide) ?_
              refine lv_iload hx hb dX12_sheet_99 (lv_at hl 8 rfl) ?_
              refine lv_iadd hx hb dX12_sheet_101 ?_
              refine lv_topi (fun x_157 ex_157 => ?_)
              have rx_157 : rgI (48) (71) x_157 := by rw [ex_157]; exact rg_w (rg_add rl_48 r_7 (by decide) (by decide)) (by decide) (by decide)
              obtain ⟨_, rfl, o_c_158⟩ := hH (g.2.2 100) _ hk_10.1
              have o_c_158 : va_at g.1 vwCl ((g.2.2 100), .inl (g.2.1 1, 122, .inl (G_46.2.1 (g.2.2 100)))) H := o_c_158
              refine hg_iald hx hb hK o_c_158 (rg_in (n := 122) rx_157 (by decide) (by decide)) dX12_sheet_102 ?_
              rw [efl0_46]
              refine lv_topi (fun x_159 ex_159 => ?_)
              refine lv_if_ne (tgt := 150) hx hb dX12_sheet_103 (by decide) (fun c_160 => ?_) (fun c_160 => ?_)
              · refine lv_iload hx hb dX12_sheet_150 (lv_at hl 7 rfl) ?_
                refine lv_aload_n hx hb dX12_sheet_152 rfl (lv_at hl 1 rfl) ?_
                refine hg_get hx hb hG igX12 hown hK o_c_8 rfl 0 (by decide) (hG _ mw_1284) rfl dX12_sheet_153 ?_
                refine lv_bipush (v := 96) hx hb dX12_sheet_156 (by decide) ?_
                refine lv_iload hx hb dX12_sheet_158 (lv_at hl 8 rfl) ?_
                refine lv_iadd hx hb dX12_sheet_160 ?_
                refine lv_topi (fun x_161 ex_161 => ?_)
                have rx_161 : rgI (96) (119) x_161 := by rw [ex_161]; exact rg_w (rg_add rl_96 r_7 (by decide) (by decide)) (by decide) (by decide)
                refine hg_iald hx hb hK o_c_158 (rg_in (n := 122) rx_161 (by decide) (by decide)) dX12_sheet_161 ?_
                rw [efl0_46]
                refine lv_topi (fun x_162 ex_162 => ?_)
                refine lv_iadd hx hb dX12_sheet_162 ?_
                refine lv_topi (fun x_163 ex_163 => ?_)
                refine lv_istore (lv' := [(7, .int x_163), (9, .int x_156), (0, .ref h0), (1, .int a0), (2, .int a1), (4, .int a3), (5, .int y5_46), (6, .int y6_46), (8, .int y8_46)]) hx hb dX12_sheet_163 hl (by decide) rfl (fun ls hl => ?_)
                refine lv_iload hx hb dX12_sheet_165 (lv_at hl 6 rfl) ?_
                refine lv_iload hx hb dX12_sheet_167 (lv_at hl 5 rfl) ?_
                refine lv_iadd hx hb dX12_sheet_169 ?_
                refine lv_topi (fun x_164 ex_164 => ?_)
                refine lv_istore (lv' := [(5, .int x_164), (7, .int x_163), (9, .int x_156), (0, .ref h0), (1, .int a0), (2, .int a1), (4, .int a3), (6, .int y6_46), (8, .int y8_46)]) hx hb dX12_sheet_170 hl (by decide) rfl (fun ls hl => ?_)
                obtain ⟨x_165, ex_165⟩ : ∃ y : Int32, y = y6_46 + 1 := ⟨_, rfl⟩
                refine lv_iinc (v := x_165) (lv' := [(6, .int x_165), (5, .int x_164), (7, .int x_163), (9, .int x_156), (0, .ref h0), (1, .int a0), (2, .int a1), (4, .int a3), (8, .int y8_46)]) hx hb dX12_sheet_172 hl (k := 7) rfl (by rw [ex_165]; rfl) (by decide) rfl (fun ls hl => ?_)
                obtain ⟨x_166, ex_166⟩ : ∃ y : Int32, y = y8_46 + 1 := ⟨_, rfl⟩
                have rx_166 : rgI (1) (24) x_166 := by rw [ex_166]; exact rg_w (rg_add r_7 rl_1 (by decide) (by decide)) (by decide) (by decide)
                have qx_166 : x_166.toInt = (y8_46 : Int32).toInt + 1 := by rw [ex_166]; exact rg_addE r_7 rl_1 (by decide) (by decide)
                refine lv_iinc (v := x_166) (lv' := [(8, .int x_166), (6, .int x_165), (5, .int x_164), (7, .int x_163), (9, .int x_156), (0, .ref h0), (1, .int a0), (2, .int a1), (4, .int a3)]) hx hb dX12_sheet_175 hl (k := 8) rfl (by rw [ex_166]; rfl) (by decide) rfl (fun ls hl => ?_)
                refine lv_goto (tgt := 46) hx hb dX12_sheet_178 (by decide) ?_
                exact ih_46 H locs G_46 fl0_46 x_164 x_165 x_163 x_166 ls frL_46 efl0_46 (rg_w r_155 (by decide) (by decide)) ry2_46 (rg_w rx_166 (by decide) (by decide)) hi0_46 hi1_46 (by have h1 := qx_166; have h2 := r_7.1; have h3 := r_7.2; have h4 := hm_46; omega) (lv_sub hl [5, 6, 7, 8, 2, 1, 3, 0] rfl) hH hS
              · have r_167 : rgI (0) (0) x_159 := rg_w (rg_eq rl_0 c_160) (by decide) (by decide)
                refine lv_aload_n hx hb dX12_sheet_106 rfl (lv_at hl 1 rfl) ?_
                refine hg_get hx hb hG igX12 hown hK o_c_8 rfl 0 (by decide) (hG _ mw_1284) rfl dX12_sheet_107 ?_
                refine lv_bipush (v := 72) hx hb dX12_sheet_110 (by decide) ?_
                refine lv_iload hx hb dX12_sheet_112 (lv_at hl 8 rfl) ?_
                refine lv_iadd hx hb dX12_sheet_114 ?_
                refine lv_topi (fun x_168 ex_168 => ?_)
                have rx_168 : rgI (72) (95) x_168 := by rw [ex_168]; exact rg_w (rg_add rl_72 r_7 (by decide) (by decide)) (by decide) (by decide)
                refine hg_iald hx hb hK o_c_158 (rg_in (n := 122) rx_168 (by decide) (by decide)) dX12_sheet_115 ?_
                rw [efl0_46]
                refine lv_topi (fun x_169 ex_169 => ?_)
                refine lv_if_ne (tgt := 150) hx hb dX12_sheet_116 (by decide) (fun c_170 => ?_) (fun c_170 => ?_)
                · refine lv_iload hx hb dX12_sheet_150 (lv_at hl 7 rfl) ?_
                  refine lv_aload_n hx hb dX12_sheet_152 rfl (lv_at hl 1 rfl) ?_
                  refine hg_get hx hb hG igX12 hown hK o_c_8 rfl 0 (by decide) (hG _ mw_1284) rfl dX12_sheet_153 ?_
                  refine lv_bipush (v := 96) hx hb dX12_sheet_156 (by decide) ?_
                  refine lv_iload hx hb dX12_sheet_158 (lv_at hl 8 rfl) ?_
                  refine lv_iadd hx hb dX12_sheet_160 ?_
                  refine lv_topi (fun x_171 ex_171 => ?_)
                  have rx_171 : rgI (96) (119) x_171 := by rw [ex_171]; exact rg_w (rg_add rl_96 r_7 (by decide) (by decide)) (by decide) (by decide)
                  refine hg_iald hx hb hK o_c_158 (rg_in (n := 122) rx_171 (by decide) (by decide)) dX12_sheet_161 ?_
                  rw [efl0_46]
                  refine lv_topi (fun x_172 ex_172 => ?_)
                  refine lv_iadd hx hb dX12_sheet_162 ?_
                  refine lv_topi (fun x_173 ex_173 => ?_)
                  refine lv_istore (lv' := [(7, .int x_173), (9, .int x_156), (0, .ref h0), (1, .int a0), (2, .int a1), (4, .int a3), (5, .int y5_46), (6, .int y6_46), (8, .int y8_46)]) hx hb dX12_sheet_163 hl (by decide) rfl (fun ls hl => ?_)
                  refine lv_iload hx hb dX12_sheet_165 (lv_at hl 6 rfl) ?_
                  refine lv_iload hx hb dX12_sheet_167 (lv_at hl 5 rfl) ?_
                  refine lv_iadd hx hb dX12_sheet_169 ?_
                  refine lv_topi (fun x_174 ex_174 => ?_)
                  refine lv_istore (lv' := [(5, .int x_174), (7, .int x_173), (9, .int x_156), (0, .ref h0), (1, .int a0), (2, .int a1), (4, .int a3), (6, .int y6_46), (8, .int y8_46)]) hx hb dX12_sheet_170 hl (by decide) rfl (fun ls hl => ?_)
                  obtain ⟨x_175, ex_175⟩ : ∃ y : Int32, y = y6_46 + 1 := ⟨_, rfl⟩
                  refine lv_iinc (v := x_175) (lv' := [(6, .int x_175), (5, .int x_174), (7, .int x_173), (9, .int x_156), (0, .ref h0), (1, .int a0), (2, .int a1), (4, .int a3), (8, .int y8_46)]) hx hb dX12_sheet_172 hl (k := 7) rfl (by rw [ex_175]; rfl) (by decide) rfl (fun ls hl => ?_)
                  obtain ⟨x_176, ex_176⟩ : ∃ y : Int32, y = y8_46 + 1 := ⟨_, rfl⟩
                  have rx_176 : rgI (1) (24) x_176 := by rw [ex_176]; exact rg_w (rg_add r_7 rl_1 (by decide) (by decide)) (by decide) (by decide)
                  have qx_176 : x_176.toInt = (y8_46 : Int32).toInt + 1 := by rw [ex_176]; exact rg_addE r_7 rl_1 (by decide) (by decide)
                  refine lv_iinc (v := x_176) (lv' := [(8, .int x_176), (6, .int x_175), (5, .int x_174), (7, .int x_173), (9, .int x_156), (0, .ref h0), (1, .int a0), (2, .int a1), (4, .int a3)]) hx hb dX12_sheet_175 hl (k := 8) rfl (by rw [ex_176]; rfl) (by decide) rfl (fun ls hl => ?_)
                  refine lv_goto (tgt := 46) hx hb dX12_sheet_178 (by decide) ?_
                  exact ih_46 H locs G_46 fl0_46 x_174 x_175 x_173 x_176 ls frL_46 efl0_46 (rg_w r_155 (by decide) (by decide)) ry2_46 (rg_w rx_176 (by decide) (by decide)) hi0_46 hi1_46 (by have h1 := qx_176; have h2 := r_7.1; have h3 := r_7.2; have h4 := hm_46; omega) (lv_sub hl [5, 6, 7, 8, 2, 1, 3, 0] rfl) hH hS
                · have r_177 : rgI (0) (0) x_169 := rg_w (rg_eq rl_0 c_170) (by decide) (by decide)
                  refine lv_aload_n hx hb dX12_sheet_119 rfl (lv_at hl 1 rfl) ?_
                  refine hg_get hx hb hG igX12 hown hK o_c_8 rfl 0 (by decide) (hG _ mw_1284) rfl dX12_sheet_120 ?_
                  refine lv_bipush (v := 96) hx hb dX12_sheet_123 (by decide) ?_
                  refine lv_iload hx hb dX12_sheet_125 (lv_at hl 8 rfl) ?_
                  refine lv_iadd hx hb dX12_sheet_127 ?_
                  refine lv_topi (fun x_178 ex_178 => ?_)
                  have rx_178 : rgI (96) (119) x_178 := by rw [ex_178]; exact rg_w (rg_add rl_96 r_7 (by decide) (by decide)) (by decide) (by decide)
                  refine lv_iload_n hx hb dX12_sheet_128 rfl (lv_at hl 2 rfl) ?_
                  refine lv_iconst (v := 3) hx hb dX12_sheet_129 (by decide) ?_
                  refine lv_icmp_ge (tgt := 148) hx hb dX12_sheet_130 (by decide) (fun c_179 => ?_) (fun c_179 => ?_)
                  · exact rg_no2 rl_3 r_155 c_179 (by decide)
                  · refine lv_iload hx hb dX12_sheet_133 (lv_at hl 6 rfl) ?_
                    refine lv_iload_n hx hb dX12_sheet_135 rfl (lv_at hl 3 rfl) ?_
                    refine lv_icmp_ge (tgt := 148) hx hb dX12_sheet_136 (by decide) (fun c_180 => ?_) (fun c_180 => ?_)
                    · refine lv_iconst (v := 0) hx hb dX12_sheet_148 (by decide) ?_
                      refine hg_iast hx hb hK hS o_c_158 (AF.of hk_10.1) (rg_in (n := 122) rx_178 (by decide) (by decide)) dX12_sheet_149 (fun H locs o_c_158 hz oq hS => ?_)
                      obtain ⟨G_181, eG_181⟩ : ∃ z : Gh, z = aset G_46 (g.2.2 100) (upd (G_46.2.1 (g.2.2 100)) (x_178 : Int32).toNatClampNeg 0) := ⟨_, rfl⟩
                      have hH : HT g Ty G_181 H := by rw [eG_181]; exact HT.putA (upd (G_46.2.1 (g.2.2 100)) (x_178 : Int32).toNatClampNeg 0) hH hk_10.1 cf30 o_c_158 oq
                      obtain ⟨f_182, ef_182⟩ : ∃ z : Nat → Int32, z = (upd fl0_46 (x_178 : Int32).toNatClampNeg 0) := ⟨_, rfl⟩
                      have eaf_182 : G_181 = aset G_46 (g.2.2 100) f_182 := by rw [eG_181, ef_182, efl0_46]
                      have fr_183 : FR [105] [(g.2.2 100)] [] G G_181 := FR.a frL_46 eaf_182 (fun b h => h.1)
                      have u_184 : G_181.1 102 = (G.1 102) := by rw [eaf_182]; exact (frL_46.1 102 (by decide))
                      have u_185 : G_181.1 104 = (G.1 104) := by rw [eaf_182]; exact (frL_46.1 104 (by decide))
                      have u_186 : G_181.1 113 = (G.1 113) := by rw [eaf_182]; exact (frL_46.1 113 (by decide))
                      have u_187 : G_181.1 122 = (G.1 122) := by rw [eaf_182]; exact (frL_46.1 122 (by decide))
                      have u_188 : G_181.1 133 = (G.1 133) := by rw [eaf_182]; exact (frL_46.1 133 (by decide))
                      have u_189 : G_181.1 137 = (G.1 137) := by rw [eaf_182]; exact (frL_46.1 137 (by decide))
                      have w_190 : G_181.2.1 (g.2.2 100) = f_182 := by rw [eaf_182]; exact aset_eq
                      have w_191 : G_181.2.1 (g.2.2 121) = (G.2.1 (g.2.2 121)) := by rw [eaf_182]; exact (aset_ne (ne_kd hmk.2.2.2.2.2.1 hmk.1 (by decide))).trans (frL_46.2.1 (g.2.2 121) ⟨(ne_kd hmk.2.2.2.2.2.1 hmk.1 (by decide)), trivial⟩)
                      have w_192 : G_181.2.1 (g.2.2 140) = (G.2.1 (g.2.2 140)) := by rw [eaf_182]; exact (aset_ne (ne_kd hmk.2.2.2.2.2.2.2.2.2.2.2.2.2.2.2.2.2.2.1 hmk.1 (by decide))).trans (frL_46.2.1 (g.2.2 140) ⟨(ne_kd hmk.2.2.2.2.2.2.2.2.2.2.2.2.2.2.2.2.2.2.1 hmk.1 (by decide)), trivial⟩)
                      have w_193 : G_181.2.1 (g.2.2 141) = (G.2.1 (g.2.2 141)) := by rw [eaf_182]; exact (aset_ne (ne_kd hmk.2.2.2.2.2.2.2.2.2.2.2.2.2.2.2.2.2.2.2.1 hmk.1 (by decide))).trans (frL_46.2.1 (g.2.2 141) ⟨(ne_kd hmk.2.2.2.2.2.2.2.2.2.2.2.2.2.2.2.2.2.2.2.1 hmk.1 (by decide)), trivial⟩)
                      have w_194 : G_181.2.1 (g.2.2 111) = (G.2.1 (g.2.2 111)) := by rw [eaf_182]; exact (aset_ne (ne_kd hmk.2.2.2.2.2.2.2.2.2.2.2.2.2.2.2.2.2.2.2.2.1 hmk.1 (by decide))).trans (frL_46.2.1 (g.2.2 111) ⟨(ne_kd hmk.2.2.2.2.2.2.2.2.2.2.2.2.2.2.2.2.2.2.2.2.1 hmk.1 (by decide)), trivial⟩)
                      have u_195 : G_181.2.2 111 = some (g.2.2 111) := by rw [eaf_182]; exact ((frL_46.2.2 111 (by decide)).trans hI.r111)
                      have u_196 : G_181.2.2 112 = some (g.2.2 112) := by rw [eaf_182]; exact ((frL_46.2.2 112 (by decide)).trans hI.r112)
                      clear oq hz
                      refine lv_iload hx hb dX12_sheet_150 (lv_at hl 7 rfl) ?_
                      refine lv_aload_n hx hb dX12_sheet_152 rfl (lv_at hl 1 rfl) ?_
                      obtain ⟨_, ⟨rfl, t_198, hk_199⟩, o_c_197⟩ := hH h0 _ k_h0
                      refine hg_get hx hb hG igX12 hown hK o_c_197 rfl 0 (by decide) (hG _ mw_1284) rfl dX12_sheet_153 ?_
                      refine lv_bipush (v := 96) hx hb dX12_sheet_156 (by decide) ?_
                      refine lv_iload hx hb dX12_sheet_158 (lv_at hl 8 rfl) ?_
                      refine lv_iadd hx hb dX12_sheet_160 ?_
                      refine lv_topi (fun x_200 ex_200 => ?_)
                      have rx_200 : rgI (96) (119) x_200 := by rw [ex_200]; exact rg_w (rg_add rl_96 r_7 (by decide) (by decide)) (by decide) (by decide)
                      obtain ⟨_, rfl, o_c_201⟩ := hH (g.2.2 100) _ hk_199.1
                      have o_c_201 : va_at g.1 vwCl ((g.2.2 100), .inl (g.2.1 1, 122, .inl (G_181.2.1 (g.2.2 100)))) H := o_c_201
                      refine hg_iald hx hb hK o_c_201 (rg_in (n := 122) rx_200 (by decide) (by decide)) dX12_sheet_161 ?_
                      rw [w_190]
                      refine lv_topi (fun x_202 ex_202 => ?_)
                      refine lv_iadd hx hb dX12_sheet_162 ?_
                      refine lv_topi (fun x_203 ex_203 => ?_)
                      refine lv_istore (lv' := [(7, .int x_203), (9, .int x_156), (0, .ref h0), (1, .int a0), (2, .int a1), (4, .int a3), (5, .int y5_46), (6, .int y6_46), (8, .int y8_46)]) hx hb dX12_sheet_163 hl (by decide) rfl (fun ls hl => ?_)
                      refine lv_iload hx hb dX12_sheet_165 (lv_at hl 6 rfl) ?_
                      refine lv_iload hx hb dX12_sheet_167 (lv_at hl 5 rfl) ?_
                      refine lv_iadd hx hb dX12_sheet_169 ?_
                      refine lv_topi (fun x_204 ex_204 => ?_)
                      refine lv_istore (lv' := [(5, .int x_204), (7, .int x_203), (9, .int x_156), (0, .ref h0), (1, .int a0), (2, .int a1), (4, .int a3), (6, .int y6_46), (8, .int y8_46)]) hx hb dX12_sheet_170 hl (by decide) rfl (fun ls hl => ?_)
                      obtain ⟨x_205, ex_205⟩ : ∃ y : Int32, y = y6_46 + 1 := ⟨_, rfl⟩
                      refine lv_iinc (v := x_205) (lv' := [(6, .int x_205), (5, .int x_204), (7, .int x_203), (9, .int x_156), (0, .ref h0), (1, .int a0), (2, .int a1), (4, .int a3), (8, .int y8_46)]) hx hb dX12_sheet_172 hl (k := 7) rfl (by rw [ex_205]; rfl) (by decide) rfl (fun ls hl => ?_)
                      obtain ⟨x_206, ex_206⟩ : ∃ y : Int32, y = y8_46 + 1 := ⟨_, rfl⟩
                      have rx_206 : rgI (1) (24) x_206 := by rw [ex_206]; exact rg_w (rg_add r_7 rl_1 (by decide) (by decide)) (by decide) (by decide)
                      have qx_206 : x_206.toInt = (y8_46 : Int32).toInt + 1 := by rw [ex_206]; exact rg_addE r_7 rl_1 (by decide) (by decide)
                      refine lv_iinc (v := x_206) (lv' := [(8, .int x_206), (6, .int x_205), (5, .int x_204), (7, .int x_203), (9, .int x_156), (0, .ref h0), (1, .int a0), (2, .int a1), (4, .int a3)]) hx hb dX12_sheet_175 hl (k := 8) rfl (by rw [ex_206]; rfl) (by decide) rfl (fun ls hl => ?_)
                      refine lv_goto (tgt := 46) hx hb dX12_sheet_178 (by decide) ?_
                      exact ih_46 H locs G_181 f_182 x_204 x_205 x_203 x_206 ls fr_183 w_190 (rg_w r_155 (by decide) (by decide)) ry2_46 (rg_w rx_206 (by decide) (by decide)) (sh_s hi0_46 hi1_46 r_7 ex_178 (Or.inl rfl) ef_182).1 (sh_s hi0_46 hi1_46 r_7 ex_178 (Or.inl rfl) ef_182).2 (by have h1 := qx_206; have h2 := r_7.1; have h3 := r_7.2; have h4 := hm_46; omega) (lv_sub hl [5, 6, 7, 8, 2, 1, 3, 0] rfl) hH hS
                    · have r_207 : rgI (-2147483648) (23) y6_46 := rg_w (rg_ltL (rg_top y6_46) ry2_46 (nle_lt c_180)) (by decide) (by decide)
                      have r_208 : rgI (-2147483647) (24) a1 := rg_w (rg_ltR (rg_top y6_46) ry2_46 (nle_lt c_180)) (by decide) (by decide)
                      refine lv_iload hx hb dX12_sheet_139 (lv_at hl 0 rfl) ?_
                      refine lv_if_le (tgt := 148) hx hb dX12_sheet_141 (by decide) (fun c_209 => ?_) (fun c_209 => ?_)
                      · have r_210 : rgI (-2147483648) (0) x_156 := rg_w (rg_leL (rg_top x_156) rl_0 c_209) (by decide) (by decide)
                        refine lv_iconst (v := 0) hx hb dX12_sheet_148 (by decide) ?_
                        refine hg_iast hx hb hK hS o_c_158 (AF.of hk_10.1) (rg_in (n := 122) rx_178 (by decide) (by decide)) dX12_sheet_149 (fun H locs o_c_158 hz oq hS => ?_)
                        obtain ⟨G_211, eG_211⟩ : ∃ z : Gh, z = aset G_46 (g.2.2 100) (upd (G_46.2.1 (g.2.2 100)) (x_178 : Int32).toNatClampNeg 0) := ⟨_, rfl⟩
                        have hH : HT g Ty G_211 H := by rw [eG_211]; exact HT.putA (upd (G_46.2.1 (g.2.2 100)) (x_178 : Int32).toNatClampNeg 0) hH hk_10.1 cf30 o_c_158 oq
                        obtain ⟨f_212, ef_212⟩ : ∃ z : Nat → Int32, z = (upd fl0_46 (x_178 : Int32).toNatClampNeg 0) := ⟨_, rfl⟩
                        have eaf_212 : G_211 = aset G_46 (g.2.2 100) f_212 := by rw [eG_211, ef_212, efl0_46]
                        have fr_213 : FR [105] [(g.2.2 100)] [] G G_211 := FR.a frL_46 eaf_212 (fun b h => h.1)
                        have u_214 : G_211.1 102 = (G.1 102) := by rw [eaf_212]; exact (frL_46.1 102 (by decide))
                        have u_215 : G_211.1 104 = (G.1 104) := by rw [eaf_212]; exact (frL_46.1 104 (by decide))
                        have u_216 : G_211.1 113 = (G.1 113) := by rw [eaf_212]; exact (frL_46.1 113 (by decide))
                        have u_217 : G_211.1 122 = (G.1 122) := by rw [eaf_212]; exact (frL_46.1 122 (by decide))
                        have u_218 : G_211.1 133 = (G.1 133) := by rw [eaf_212]; exact (frL_46.1 133 (by decide))
                        have u_219 : G_211.1 137 = (G.1 137) := by rw [eaf_212]; exact (frL_46.1 137 (by decide))
                        have w_220 : G_211.2.1 (g.2.2 100) = f_212 := by rw [eaf_212]; exact aset_eq
                        have w_221 : G_211.2.1 (g.2.2 121) = (G.2.1 (g.2.2 121)) := by rw [eaf_212]; exact (aset_ne (ne_kd hmk.2.2.2.2.2.1 hmk.1 (by decide))).trans (frL_46.2.1 (g.2.2 121) ⟨(ne_kd hmk.2.2.2.2.2.1 hmk.1 (by decide)), trivial⟩)
                        have w_222 : G_211.2.1 (g.2.2 140) = (G.2.1 (g.2.2 140)) := by rw [eaf_212]; exact (aset_ne (ne_kd hmk.2.2.2.2.2.2.2.2.2.2.2.2.2.2.2.2.2.2.1 hmk.1 (by decide))).trans (frL_46.2.1 (g.2.2 140) ⟨(ne_kd hmk.2.2.2.2.2.2.2.2.2.2.2.2.2.2.2.2.2.2.1 hmk.1 (by decide)), trivial⟩)
                        have w_223 : G_211.2.1 (g.2.2 141) = (G.2.1 (g.2.2 141)) := by rw [eaf_212]; exact (aset_ne (ne_kd hmk.2.2.2.2.2.2.2.2.2.2.2.2.2.2.2.2.2.2.2.1 hmk.1 (by decide))).trans (frL_46.2.1 (g.2.2 141) ⟨(ne_kd hmk.2.2.2.2.2.2.2.2.2.2.2.2.2.2.2.2.2.2.2.1 hmk.1 (by decide)), trivial⟩)
                        have w_224 : G_211.2.1 (g.2.2 111) = (G.2.1 (g.2.2 111)) := by rw [eaf_212]; exact (aset_ne (ne_kd hmk.2.2.2.2.2.2.2.2.2.2.2.2.2.2.2.2.2.2.2.2.1 hmk.1 (by decide))).trans (frL_46.2.1 (g.2.2 111) ⟨(ne_kd hmk.2.2.2.2.2.2.2.2.2.2.2.2.2.2.2.2.2.2.2.2.1 hmk.1 (by decide)), trivial⟩)
                        have u_225 : G_211.2.2 111 = some (g.2.2 111) := by rw [eaf_212]; exact ((frL_46.2.2 111 (by decide)).trans hI.r111)
                        have u_226 : G_211.2.2 112 = some (g.2.2 112) := by rw [eaf_212]; exact ((frL_46.2.2 112 (by decide)).trans hI.r112)
                        clear oq hz
                        refine lv_iload hx hb dX12_sheet_150 (lv_at hl 7 rfl) ?_
                        refine lv_aload_n hx hb dX12_sheet_152 rfl (lv_at hl 1 rfl) ?_
                        obtain ⟨_, ⟨rfl, t_228, hk_229⟩, o_c_227⟩ := hH h0 _ k_h0
                        refine hg_get hx hb hG igX12 hown hK o_c_227 rfl 0 (by decide) (hG _ mw_1284) rfl dX12_sheet_153 ?_
                        refine lv_bipush (v := 96) hx hb dX12_sheet_156 (by decide) ?_
                        refine lv_iload hx hb dX12_sheet_158 (lv_at hl 8 rfl) ?_
                        refine lv_iadd hx hb dX12_sheet_160 ?_
                        refine lv_topi (fun x_230 ex_230 => ?_)
                        have rx_230 : rgI (96) (119) x_230 := by rw [ex_230]; exact rg_w (rg_add rl_96 r_7 (by decide) (by decide)) (by decide) (by decide)
                        obtain ⟨_, rfl, o_c_231⟩ := hH (g.2.2 100) _ hk_229.1
                        have o_c_231 : va_at g.1 vwCl ((g.2.2 100), .inl (g.2.1 1, 122, .inl (G_211.2.1 (g.2.2 100)))) H := o_c_231
                        refine hg_iald hx hb hK o_c_231 (rg_in (n := 122) rx_230 (by decide) (by decide)) dX12_sheet_161 ?_
                        rw [w_220]
                        refine lv_topi (fun x_232 ex_232 => ?_)
                        refine lv_iadd hx hb dX12_sheet_162 ?_
                        refine lv_topi (fun x_233 ex_233 => ?_)
                        refine lv_istore (lv' := [(7, .int x_233), (9, .int x_156), (0, .ref h0), (1, .int a0), (2, .int a1), (4, .int a3), (5, .int y5_46), (6, .int y6_46), (8, .int y8_46)]) hx hb dX12_sheet_163 hl (by decide) rfl (fun ls hl => ?_)
                        refine lv_iload hx hb dX12_sheet_165 (lv_at hl 6 rfl) ?_
                        refine lv_iload hx hb dX12_sheet_167 (lv_at hl 5 rfl) ?_
                        refine lv_iadd hx hb dX12_sheet_169 ?_
                        refine lv_topi (fun x_234 ex_234 => ?_)
                        refine lv_istore (lv' := [(5, .int x_234), (7, .int x_233), (9, .int x_156), (0, .ref h0), (1, .int a0), (2, .int a1), (4, .int a3), (6, .int y6_46), (8, .int y8_46)]) hx hb dX12_sheet_170 hl (by decide) rfl (fun ls hl => ?_)
                        obtain ⟨x_235, ex_235⟩ : ∃ y : Int32, y = y6_46 + 1 := ⟨_, rfl⟩
                        have rx_235 : rgI (-2147483647) (24) x_235 := by rw [ex_235]; exact rg_w (rg_add r_207 rl_1 (by decide) (by decide)) (by decide) (by decide)
                        have qx_235 : x_235.toInt = (y6_46 : Int32).toInt + 1 := by rw [ex_235]; exact rg_addE r_207 rl_1 (by decide) (by decide)
                        refine lv_iinc (v := x_235) (lv' := [(6, .int x_235), (5, .int x_234), (7, .int x_233), (9, .int x_156), (0, .ref h0), (1, .int a0), (2, .int a1), (4, .int a3), (8, .int y8_46)]) hx hb dX12_sheet_172 hl (k := 7) rfl (by rw [ex_235]; rfl) (by decide) rfl (fun ls hl => ?_)
                        obtain ⟨x_236, ex_236⟩ : ∃ y : Int32, y = y8_46 + 1 := ⟨_, rfl⟩
                        have rx_236 : rgI (1) (24) x_236 := by rw [ex_236]; exact rg_w (rg_add r_7 rl_1 (by decide) (by decide)) (by decide) (by decide)
                        have qx_236 : x_236.toInt = (y8_46 : Int32).toInt + 1 := by rw [ex_236]; exact rg_addE r_7 rl_1 (by decide) (by decide)
                        refine lv_iinc (v := x_236) (lv' := [(8, .int x_236), (6, .int x_235), (5, .int x_234), (7, .int x_233), (9, .int x_156), (0, .ref h0), (1, .int a0), (2, .int a1), (4, .int a3)]) hx hb dX12_sheet_175 hl (k := 8) rfl (by rw [ex_236]; rfl) (by decide) rfl (fun ls hl => ?_)
                        refine lv_goto (tgt := 46) hx hb dX12_sheet_178 (by decide) ?_
                        exact ih_46 H locs G_211 f_212 x_234 x_235 x_233 x_236 ls fr_213 w_220 (rg_w r_155 (by decide) (by decide)) (rg_w r_208 (by decide) (by decide)) (rg_w rx_236 (by decide) (by decide)) (sh_s hi0_46 hi1_46 r_7 ex_178 (Or.inl rfl) ef_212).1 (sh_s hi0_46 hi1_46 r_7 ex_178 (Or.inl rfl) ef_212).2 (by have h1 := qx_236; have h2 := r_7.1; have h3 := r_7.2; have h4 := hm_46; omega) (lv_sub hl [5, 6, 7, 8, 2, 1, 3, 0] rfl) hH hS
                      · have r_237 : rgI (1) (2147483647) x_156 := rg_w (rg_ltR rl_0 (rg_top x_156) (nle_lt c_209)) (by decide) (by decide)
                        refine lv_iconst (v := 1) hx hb dX12_sheet_144 (by decide) ?_
                        refine lv_goto (tgt := 149) hx hb dX12_sheet_145 (by decide) ?_
                        refine hg_iast hx hb hK hS o_c_158 (AF.of hk_10.1) (rg_in (n := 122) rx_178 (by decide) (by decide)) dX12_sheet_149 (fun H locs o_c_158 hz oq hS => ?_)
                        obtain ⟨G_238, eG_238⟩ : ∃ z : Gh, z = aset G_46 (g.2.2 100) (upd (G_46.2.1 (g.2.2 100)) (x_178 : Int32).toNatClampNeg 1) := ⟨_, rfl⟩
                        have hH : HT g Ty G_238 H := by rw [eG_238]; exact HT.putA (upd (G_46.2.1 (g.2.2 100)) (x_178 : Int32).toNatClampNeg 1) hH hk_10.1 cf30 o_c_158 oq
                        obtain ⟨f_239, ef_239⟩ : ∃ z : Nat → Int32, z = (upd fl0_46 (x_178 : Int32).toNatClampNeg 1) := ⟨_, rfl⟩
                        have eaf_239 : G_238 = aset G_46 (g.2.2 100) f_239 := by rw [eG_238, ef_239, efl0_46]
                        have fr_240 : FR [105] [(g.2.2 100)] [] G G_238 := FR.a frL_46 eaf_239 (fun b h => h.1)
                        have u_241 : G_238.1 102 = (G.1 102) := by rw [eaf_239]; exact (frL_46.1 102 (by decide))
                        have u_242 : G_238.1 104 = (G.1 104) := by rw [eaf_239]; exact (frL_46.1 104 (by decide))
                        have u_243 : G_238.1 113 = (G.1 113) := by rw [eaf_239]; exact (frL_46.1 113 (by decide))
                        have u_244 : G_238.1 122 = (G.1 122) := by rw [eaf_239]; exact (frL_46.1 122 (by decide))
                        have u_245 : G_238.1 133 = (G.1 133) := by rw [eaf_239]; exact (frL_46.1 133 (by decide))
                        have u_246 : G_238.1 137 = (G.1 137) := by rw [eaf_239]; exact (frL_46.1 137 (by decide))
                        have w_247 : G_238.2.1 (g.2.2 100) = f_239 := by rw [eaf_239]; exact aset_eq
                        have w_248 : G_238.2.1 (g.2.2 121) = (G.2.1 (g.2.2 121)) := by rw [eaf_239]; exact (aset_ne (ne_kd hmk.2.2.2.2.2.1 hmk.1 (by decide))).trans (frL_46.2.1 (g.2.2 121) ⟨(ne_kd hmk.2.2.2.2.2.1 hmk.1 (by decide)), trivial⟩)
                        have w_249 : G_238.2.1 (g.2.2 140) = (G.2.1 (g.2.2 140)) := by rw [eaf_239]; exact (aset_ne (ne_kd hmk.2.2.2.2.2.2.2.2.2.2.2.2.2.2.2.2.2.2.1 hmk.1 (by decide))).trans (frL_46.2.1 (g.2.2 140) ⟨(ne_kd hmk.2.2.2.2.2.2.2.2.2.2.2.2.2.2.2.2.2.2.1 hmk.1 (by decide)), trivial⟩)
                        have w_250 : G_238.2.1 (g.2.2 141) = (G.2.1 (g.2.2 141)) := by rw [eaf_239]; exact (aset_ne (ne_kd hmk.2.2.2.2.2.2.2.2.2.2.2.2.2.2.2.2.2.2.2.1 hmk.1 (by decide))).trans (frL_46.2.1 (g.2.2 141) ⟨(ne_kd hmk.2.2.2.2.2.2.2.2.2.2.2.2.2.2.2.2.2.2.2.1 hmk.1 (by decide)), trivial⟩)
                        have w_251 : G_238.2.1 (g.2.2 111) = (G.2.1 (g.2.2 111)) := by rw [eaf_239]; exact (aset_ne (ne_kd hmk.2.2.2.2.2.2.2.2.2.2.2.2.2.2.2.2.2.2.2.2.1 hmk.1 (by decide))).trans (frL_46.2.1 (g.2.2 111) ⟨(ne_kd hmk.2.2.2.2.2.2.2.2.2.2.2.2.2.2.2.2.2.2.2.2.1 hmk.1 (by decide)), trivial⟩)
                        have u_252 : G_238.2.2 111 = some (g.2.2 111) := by rw [eaf_239]; exact ((frL_46.2.2 111 (by decide)).trans hI.r111)
                        have u_253 : G_238.2.2 112 = some (g.2.2 112) := by rw [eaf_239]; exact ((frL_46.2.2 112 (by decide)).trans hI.r112)
                        clear oq hz
                        refine lv_iload hx hb dX12_sheet_150 (lv_at hl 7 rfl) ?_
                        refine lv_aload_n hx hb dX12_sheet_152 rfl (lv_at hl 1 rfl) ?_
                        obtain ⟨_, ⟨rfl, t_255, hk_256⟩, o_c_254⟩ := hH h0 _ k_h0
                        refine hg_get hx hb hG igX12 hown hK o_c_254 rfl 0 (by decide) (hG _ mw_1284) rfl dX12_sheet_153 ?_
                        refine lv_bipush (v := 96) hx hb dX12_sheet_156 (by decide) ?_
                        refine lv_iload hx hb dX12_sheet_158 (lv_at hl 8 rfl) ?_
                        refine lv_iadd hx hb dX12_sheet_160 ?_
                        refine lv_topi (fun x_257 ex_257 => ?_)
                        have rx_257 : rgI (96) (119) x_257 := by rw [ex_257]; exact rg_w (rg_add rl_96 r_7 (by decide) (by decide)) (by decide) (by decide)
                        obtain ⟨_, rfl, o_c_258⟩ := hH (g.2.2 100) _ hk_256.1
                        have o_c_258 : va_at g.1 vwCl ((g.2.2 100), .inl (g.2.1 1, 122, .inl (G_238.2.1 (g.2.2 100)))) H := o_c_258
                        refine hg_iald hx hb hK o_c_258 (rg_in (n := 122) rx_257 (by decide) (by decide)) dX12_sheet_161 ?_
                        rw [w_247]
                        refine lv_topi (fun x_259 ex_259 => ?_)
                        refine lv_iadd hx hb dX12_sheet_162 ?_
                        refine lv_topi (fun x_260 ex_260 => ?_)
                        refine lv_istore (lv' := [(7, .int x_260), (9, .int x_156), (0, .ref h0), (1, .int a0), (2, .int a1), (4, .int a3), (5, .int y5_46), (6, .int y6_46), (8, .int y8_46)]) hx hb dX12_sheet_163 hl (by decide) rfl (fun ls hl => ?_)
                        refine lv_iload hx hb dX12_sheet_165 (lv_at hl 6 rfl) ?_
                        refine lv_iload hx hb dX12_sheet_167 (lv_at hl 5 rfl) ?_
                        refine lv_iadd hx hb dX12_sheet_169 ?_
                        refine lv_topi (fun x_261 ex_261 => ?_)
                        refine lv_istore (lv' := [(5, .int x_261), (7, .int x_260), (9, .int x_156), (0, .ref h0), (1, .int a0), (2, .int a1), (4, .int a3), (6, .int y6_46), (8, .int y8_46)]) hx hb dX12_sheet_170 hl (by decide) rfl (fun ls hl => ?_)
                        obtain ⟨x_262, ex_262⟩ : ∃ y : Int32, y = y6_46 + 1 := ⟨_, rfl⟩
                        have rx_262 : rgI (-2147483647) (24) x_262 := by rw [ex_262]; exact rg_w (rg_add r_207 rl_1 (by decide) (by decide)) (by decide) (by decide)
                        have qx_262 : x_262.toInt = (y6_46 : Int32).toInt + 1 := by rw [ex_262]; exact rg_addE r_207 rl_1 (by decide) (by decide)
                        refine lv_iinc (v := x_262) (lv' := [(6, .int x_262), (5, .int x_261), (7, .int x_260), (9, .int x_156), (0, .ref h0), (1, .int a0), (2, .int a1), (4, .int a3), (8, .int y8_46)]) hx hb dX12_sheet_172 hl (k := 7) rfl (by rw [ex_262]; rfl) (by decide) rfl (fun ls hl => ?_)
                        obtain ⟨x_263, ex_263⟩ : ∃ y : Int32, y = y8_46 + 1 := ⟨_, rfl⟩
                        have rx_263 : rgI (1) (24) x_263 := by rw [ex_263]; exact rg_w (rg_add r_7 rl_1 (by decide) (by decide)) (by decide) (by decide)
                        have qx_263 : x_263.toInt = (y8_46 : Int32).toInt + 1 := by rw [ex_263]; exact rg_addE r_7 rl_1 (by decide) (by decide)
                        refine lv_iinc (v := x_263) (lv' := [(8, .int x_263), (6, .int x_262), (5, .int x_261), (7, .int x_260), (9, .int x_156), (0, .ref h0), (1, .int a0), (2, .int a1), (4, .int a3)]) hx hb dX12_sheet_175 hl (k := 8) rfl (by rw [ex_263]; rfl) (by decide) rfl (fun ls hl => ?_)
                        refine lv_goto (tgt := 46) hx hb dX12_sheet_178 (by decide) ?_
                        exact ih_46 H locs G_238 f_239 x_261 x_262 x_260 x_263 ls fr_240 w_247 (rg_w r_155 (by decide) (by decide)) (rg_w r_208 (by decide) (by decide)) (rg_w rx_263 (by decide) (by decide)) (sh_s hi0_46 hi1_46 r_7 ex_178 (Or.inr rfl) ef_239).1 (sh_s hi0_46 hi1_46 r_7 ex_178 (Or.inr rfl) ef_239).2 (by have h1 := qx_263; have h2 := r_7.1; have h3 := r_7.2; have h4 := hm_46; omega) (lv_sub hl [5, 6, 7, 8, 2, 1, 3, 0] rfl) hH hS
          · have r_264 : rgI (0) (0) a0 := rg_w (rg_eq rl_0 c_16) (by decide) (by decide)
            refine lv_iload hx hb dX12_sheet_72 (lv_at hl 4 rfl) ?_
            refine lv_i2b hx hb dX12_sheet_74 rfl ?_
            refine lv_topi (fun x_265 ex_265 => ?_)
            refine lv_goto (tgt := 91) hx hb dX12_sheet_75 (by decide) ?_
            refine lv_istore (lv' := [(9, .int x_265), (0, .ref h0), (1, .int a0), (2, .int a1), (4, .int a3), (5, .int y5_46), (6, .int y6_46), (7, .int y7_46), (8, .int y8_46)]) hx hb dX12_sheet_91 hl (by decide) rfl (fun ls hl => ?_)
            refine lv_aload_n hx hb dX12_sheet_93 rfl (lv_at hl 1 rfl) ?_
            refine hg_get hx hb hG igX12 hown hK o_c_8 rfl 0 (by decide) (hG _ mw_1284) rfl dX12_sheet_94 ?_
            refine lv_bipush (v := 48) hx hb dX12_sheet_97 (by decide) ?_
            refine lv_iload hx hb dX12_sheet_99 (lv_at hl 8 rfl) ?_
            refine lv_iadd hx hb dX12_sheet_101 ?_
            refine lv_topi (fun x_266 ex_266 => ?_)
            have rx_266 : rgI (48) (71) x_266 := by rw [ex_266]; exact rg_w (rg_add rl_48 r_7 (by decide) (by decide)) (by decide) (by decide)
            obtain ⟨_, rfl, o_c_267⟩ := hH (g.2.2 100) _ hk_10.1
            have o_c_267 : va_at g.1 vwCl ((g.2.2 100), .inl (g.2.1 1, 122, .inl (G_46.2.1 (g.2.2 100)))) H := o_c_267
            refine hg_iald hx hb hK o_c_267 (rg_in (n := 122) rx_266 (by decide) (by decide)) dX12_sheet_102 ?_
            rw [efl0_46]
            refine lv_topi (fun x_268 ex_268 => ?_)
            refine lv_if_ne (tgt := 150) hx hb dX12_sheet_103 (by decide) (fun c_269 => ?_) (fun c_269 => ?_)
            · refine lv_iload hx hb dX12_sheet_150 (lv_at hl 7 rfl) ?_
              refine lv_aload_n hx hb dX12_sheet_152 rfl (lv_at hl 1 rfl) ?_
              refine hg_get hx hb hG igX12 hown hK o_c_8 rfl 0 (by decide) (hG _ mw_1284) rfl dX12_sheet_153 ?_
              refine lv_bipush (v := 96) hx hb dX12_sheet_156 (by decide) ?_
              refine lv_iload hx hb dX12_sheet_158 (lv_at hl 8 rfl) ?_
              refine lv_iadd hx hb dX12_sheet_160 ?_
              refine lv_topi (fun x_270 ex_270 => ?_)
              have rx_270 : rgI (96) (119) x_270 := by rw [ex_270]; exact rg_w (rg_add rl_96 r_7 (by decide) (by decide)) (by decide) (by decide)
              refine hg_iald hx hb hK o_c_267 (rg_in (n := 122) rx_270 (by decide) (by decide)) dX12_sheet_161 ?_
              rw [efl0_46]
              refine lv_topi (fun x_271 ex_271 => ?_)
              refine lv_iadd hx hb dX12_sheet_162 ?_
              refine lv_topi (fun x_272 ex_272 => ?_)
              refine lv_istore (lv' := [(7, .int x_272), (9, .int x_265), (0, .ref h0), (1, .int a0), (2, .int a1), (4, .int a3), (5, .int y5_46), (6, .int y6_46), (8, .int y8_46)]) hx hb dX12_sheet_163 hl (by decide) rfl (fun ls hl => ?_)
              refine lv_iload hx hb dX12_sheet_165 (lv_at hl 6 rfl) ?_
              refine lv_iload hx hb dX12_sheet_167 (lv_at hl 5 rfl) ?_
              refine lv_iadd hx hb dX12_sheet_169 ?_
              refine lv_topi (fun x_273 ex_273 => ?_)
              refine lv_istore (lv' := [(5, .int x_273), (7, .int x_272), (9, .int x_265), (0, .ref h0), (1, .int a0), (2, .int a1), (4, .int a3), (6, .int y6_46), (8, .int y8_46)]) hx hb dX12_sheet_170 hl (by decide) rfl (fun ls hl => ?_)
              obtain ⟨x_274, ex_274⟩ : ∃ y : Int32, y = y6_46 + 1 := ⟨_, rfl⟩
              refine lv_iinc (v := x_274) (lv' := [(6, .int x_274), (5, .int x_273), (7, .int x_272), (9, .int x_265), (0, .ref h0), (1, .int a0), (2, .int a1), (4, .int a3), (8, .int y8_46)]) hx hb dX12_sheet_172 hl (k := 7) rfl (by rw [ex_274]; rfl) (by decide) rfl (fun ls hl => ?_)
              obtain ⟨x_275, ex_275⟩ : ∃ y : Int32, y = y8_46 + 1 := ⟨_, rfl⟩
              have rx_275 : rgI (1) (24) x_275 := by rw [ex_275]; exact rg_w (rg_add r_7 rl_1 (by decide) (by decide)) (by decide) (by decide)
              have qx_275 : x_275.toInt = (y8_46 : Int32).toInt + 1 := by rw [ex_275]; exact rg_addE r_7 rl_1 (by decide) (by decide)
              refine lv_iinc (v := x_275) (lv' := [(8, .int x_275), (6, .int x_274), (5, .int x_273), (7, .int x_272), (9, .int x_265), (0, .ref h0), (1, .int a0), (2, .int a1), (4, .int a3)]) hx hb dX12_sheet_175 hl (k := 8) rfl (by rw [ex_275]; rfl) (by decide) rfl (fun ls hl => ?_)
              refine lv_goto (tgt := 46) hx hb dX12_sheet_178 (by decide) ?_
              exact ih_46 H locs G_46 fl0_46 x_273 x_274 x_272 x_275 ls frL_46 efl0_46 (rg_w r_264 (by decide) (by decide)) ry2_46 (rg_w rx_275 (by decide) (by decide)) hi0_46 hi1_46 (by have h1 := qx_275; have h2 := r_7.1; have h3 := r_7.2; have h4 := hm_46; omega) (lv_sub hl [5, 6, 7, 8, 2, 1, 3, 0] rfl) hH hS
            · have r_276 : rgI (0) (0) x_268 := rg_w (rg_eq rl_0 c_269) (by decide) (by decide)
              refine lv_aload_n hx hb dX12_sheet_106 rfl (lv_at hl 1 rfl) ?_
              refine hg_get hx hb hG igX12 hown hK o_c_8 rfl 0 (by decide) (hG _ mw_1284) rfl dX12_sheet_107 ?_
              refine lv_bipush (v := 72) hx hb dX12_sheet_110 (by decide) ?_
              refine lv_iload hx hb dX12_sheet_112 (lv_at hl 8 rfl) ?_
              refine lv_iadd hx hb dX12_sheet_114 ?_
              refine lv_topi (fun x_277 ex_277 => ?_)
              have rx_277 : rgI (72) (95) x_277 := by rw [ex_277]; exact rg_w (rg_add rl_72 r_7 (by decide) (by decide)) (by decide) (by decide)
              refine hg_iald hx hb hK o_c_267 (rg_in (n := 122) rx_277 (by decide) (by decide)) dX12_sheet_115 ?_
              rw [efl0_46]
              refine lv_topi (fun x_278 ex_278 => ?_)
              refine lv_if_ne (tgt := 150) hx hb dX12_sheet_116 (by decide) (fun c_279 => ?_) (fun c_279 => ?_)
              · refine lv_iload hx hb dX12_sheet_150 (lv_at hl 7 rfl) ?_
                refine lv_aload_n hx hb dX12_sheet_152 rfl (lv_at hl 1 rfl) ?_
                refine hg_get hx hb hG igX12 hown hK o_c_8 rfl 0 (by decide) (hG _ mw_1284) rfl dX12_sheet_153 ?_
                refine lv_bipush (v := 96) hx hb dX12_sheet_156 (by decide) ?_
                refine lv_iload hx hb dX12_sheet_158 (lv_at hl 8 rfl) ?_
                refine lv_iadd hx hb dX12_sheet_160 ?_
                refine lv_topi (fun x_280 ex_280 => ?_)
                have rx_280 : rgI (96) (119) x_280 := by rw [ex_280]; exact rg_w (rg_add rl_96 r_7 (by decide) (by decide)) (by decide) (by decide)
                refine hg_iald hx hb hK o_c_267 (rg_in (n := 122) rx_280 (by decide) (by decide)) dX12_sheet_161 ?_
                rw [efl0_46]
                refine lv_topi (fun x_281 ex_281 => ?_)
                refine lv_iadd hx hb dX12_sheet_162 ?_
                refine lv_topi (fun x_282 ex_282 => ?_)
                refine lv_istore (lv' := [(7, .int x_282), (9, .int x_265), (0, .ref h0), (1, .int a0), (2, .int a1), (4, .int a3), (5, .int y5_46), (6, .int y6_46), (8, .int y8_46)]) hx hb dX12_sheet_163 hl (by decide) rfl (fun ls hl => ?_)
                refine lv_iload hx hb dX12_sheet_165 (lv_at hl 6 rfl) ?_
                refine lv_iload hx hb dX12_sheet_167 (lv_at hl 5 rfl) ?_
                refine lv_iadd hx hb dX12_sheet_169 ?_
                refine lv_topi (fun x_283 ex_283 => ?_)
                refine lv_istore (lv' := [(5, .int x_283), (7, .int x_282), (9, .int x_265), (0, .ref h0), (1, .int a0), (2, .int a1), (4, .int a3), (6, .int y6_46), (8, .int y8_46)]) hx hb dX12_sheet_170 hl (by decide) rfl (fun ls hl => ?_)
                obtain ⟨x_284, ex_284⟩ : ∃ y : Int32, y = y6_46 + 1 := ⟨_, rfl⟩
                refine lv_iinc (v := x_284) (lv' := [(6, .int x_284), (5, .int x_283), (7, .int x_282), (9, .int x_265), (0, .ref h0), (1, .int a0), (2, .int a1), (4, .int a3), (8, .int y8_46)]) hx hb dX12_sheet_172 hl (k := 7) rfl (by rw [ex_284]; rfl) (by decide) rfl (fun ls hl => ?_)
                obtain ⟨x_285, ex_285⟩ : ∃ y : Int32, y = y8_46 + 1 := ⟨_, rfl⟩
                have rx_285 : rgI (1) (24) x_285 := by rw [ex_285]; exact rg_w (rg_add r_7 rl_1 (by decide) (by decide)) (by decide) (by decide)
                have qx_285 : x_285.toInt = (y8_46 : Int32).toInt + 1 := by rw [ex_285]; exact rg_addE r_7 rl_1 (by decide) (by decide)
                refine lv_iinc (v := x_285) (lv' := [(8, .int x_285), (6, .int x_284), (5, .int x_283), (7, .int x_282), (9, .int x_265), (0, .ref h0), (1, .int a0), (2, .int a1), (4, .int a3)]) hx hb dX12_sheet_175 hl (k := 8) rfl (by rw [ex_285]; rfl) (by decide) rfl (fun ls hl => ?_)
                refine lv_goto (tgt := 46) hx hb dX12_sheet_178 (by decide) ?_
                exact ih_46 H locs G_46 fl0_46 x_283 x_284 x_282 x_285 ls frL_46 efl0_46 (rg_w r_264 (by decide) (by decide)) ry2_46 (rg_w rx_285 (by decide) (by decide)) hi0_46 hi1_46 (by have h1 := qx_285; have h2 := r_7.1; have h3 := r_7.2; have h4 := hm_46; omega) (lv_sub hl [5, 6, 7, 8, 2, 1, 3, 0] rfl) hH hS
              · have r_286 : rgI (0) (0) x_278 := rg_w (rg_eq rl_0 c_279) (by decide) (by decide)
                refine lv_aload_n hx hb dX12_sheet_119 rfl (lv_at hl 1 rfl) ?_
                refine hg_get hx hb hG igX12 hown hK o_c_8 rfl 0 (by decide) (hG _ mw_1284) rfl dX12_sheet_120 ?_
                refine lv_bipush (v := 96) hx hb dX12_sheet_123 (by decide) ?_
                refine lv_iload hx hb dX12_sheet_125 (lv_at hl 8 rfl) ?_
                refine lv_iadd hx hb dX12_sheet_127 ?_
                refine lv_topi (fun x_287 ex_287 => ?_)
                have rx_287 : rgI (96) (119) x_287 := by rw [ex_287]; exact rg_w (rg_add rl_96 r_7 (by decide) (by decide)) (by decide) (by decide)
                refine lv_iload_n hx hb dX12_sheet_128 rfl (lv_at hl 2 rfl) ?_
                refine lv_iconst (v := 3) hx hb dX12_sheet_129 (by decide) ?_
                refine lv_icmp_ge (tgt := 148) hx hb dX12_sheet_130 (by decide) (fun c_288 => ?_) (fun c_288 => ?_)
                · exact rg_no2 rl_3 r_264 c_288 (by decide)
                · refine lv_iload hx hb dX12_sheet_133 (lv_at hl 6 rfl) ?_
                  refine lv_iload_n hx hb dX12_sheet_135 rfl (lv_at hl 3 rfl) ?_
                  refine lv_icmp_ge (tgt := 148) hx hb dX12_sheet_136 (by decide) (fun c_289 => ?_) (fun c_289 => ?_)
                  · refine lv_iconst (v := 0) hx hb dX12_sheet_148 (by decide) ?_
                    refine hg_iast hx hb hK hS o_c_267 (AF.of hk_10.1) (rg_in (n := 122) rx_287 (by decide) (by decide)) dX12_sheet_149 (fun H locs o_c_267 hz oq hS => ?_)
                    obtain ⟨G_290, eG_290⟩ : ∃ z : Gh, z = aset G_46 (g.2.2 100) (upd (G_46.2.1 (g.2.2 100)) (x_287 : Int32).toNatClampNeg 0) := ⟨_, rfl⟩
                    have hH : HT g Ty G_290 H := by rw [eG_290]; exact HT.putA (upd (G_46.2.1 (g.2.2 100)) (x_287 : Int32).toNatClampNeg 0) hH hk_10.1 cf30 o_c_267 oq
                    obtain ⟨f_291, ef_291⟩ : ∃ z : Nat → Int32, z = (upd fl0_46 (x_287 : Int32).toNatClampNeg 0) := ⟨_, rfl⟩
                    have eaf_291 : G_290 = aset G_46 (g.2.2 100) f_291 := by rw [eG_290, ef_291, efl0_46]
                    have fr_292 : FR [105] [(g.2.2 100)] [] G G_290 := FR.a frL_46 eaf_291 (fun b h => h.1)
                    have u_293 : G_290.1 102 = (G.1 102) := by rw [eaf_291]; exact (frL_46.1 102 (by decide))
                    have u_294 : G_290.1 104 = (G.1 104) := by rw [eaf_291]; exact (frL_46.1 104 (by decide))
                    have u_295 : G_290.1 113 = (G.1 113) := by rw [eaf_291]; exact (frL_46.1 113 (by decide))
                    have u_296 : G_290.1 122 = (G.1 122) := by rw [eaf_291]; exact (frL_46.1 122 (by decide))
                    have u_297 : G_290.1 133 = (G.1 133) := by rw [eaf_291]; exact (frL_46.1 133 (by decide))
                    have u_298 : G_290.1 137 = (G.1 137) := by rw [eaf_291]; exact (frL_46.1 137 (by decide))
                    have w_299 : G_290.2.1 (g.2.2 100) = f_291 := by rw [eaf_291]; exact aset_eq
                    have w_300 : G_290.2.1 (g.2.2 121) = (G.2.1 (g.2.2 121)) := by rw [eaf_291]; exact (aset_ne (ne_kd hmk.2.2.2.2.2.1 hmk.1 (by decide))).trans (frL_46.2.1 (g.2.2 121) ⟨(ne_kd hmk.2.2.2.2.2.1 hmk.1 (by decide)), trivial⟩)
                    have w_301 : G_290.2.1 (g.2.2 140) = (G.2.1 (g.2.2 140)) := by rw [eaf_291]; exact (aset_ne (ne_kd hmk.2.2.2.2.2.2.2.2.2.2.2.2.2.2.2.2.2.2.1 hmk.1 (by decide))).trans (frL_46.2.1 (g.2.2 140) ⟨(ne_kd hmk.2.2.2.2.2.2.2.2.2.2.2.2.2.2.2.2.2.2.1 hmk.1 (by decide)), trivial⟩)
                    have w_302 : G_290.2.1 (g.2.2 141) = (G.2.1 (g.2.2 141)) := by rw [eaf_291]; exact (aset_ne (ne_kd hmk.2.2.2.2.2.2.2.2.2.2.2.2.2.2.2.2.2.2.2.1 hmk.1 (by decide))).trans (frL_46.2.1 (g.2.2 141) ⟨(ne_kd hmk.2.2.2.2.2.2.2.2.2.2.2.2.2.2.2.2.2.2.2.1 hmk.1 (by decide)), trivial⟩)
                    have w_303 : G_290.2.1 (g.2.2 111) = (G.2.1 (g.2.2 111)) := by rw [eaf_291]; exact (aset_ne (ne_kd hmk.2.2.2.2.2.2.2.2.2.2.2.2.2.2.2.2.2.2.2.2.1 hmk.1 (by decide))).trans (frL_46.2.1 (g.2.2 111) ⟨(ne_kd hmk.2.2.2.2.2.2.2.2.2.2.2.2.2.2.2.2.2.2.2.2.1 hmk.1 (by decide)), trivial⟩)
                    have u_304 : G_290.2.2 111 = some (g.2.2 111) := by rw [eaf_291]; exact ((frL_46.2.2 111 (by decide)).trans hI.r111)
                    have u_305 : G_290.2.2 112 = some (g.2.2 112) := by rw [eaf_291]; exact ((frL_46.2.2 112 (by decide)).trans hI.r112)
                    clear oq hz
                    refine lv_iload hx hb dX12_sheet_150 (lv_at hl 7 rfl) ?_
                    refine lv_aload_n hx hb dX12_sheet_152 rfl (lv_at hl 1 rfl) ?_
                    obtain ⟨_, ⟨rfl, t_307, hk_308⟩, o_c_306⟩ := hH h0 _ k_h0
                    refine hg_get hx hb hG igX12 hown hK o_c_306 rfl 0 (by decide) (hG _ mw_1284) rfl dX12_sheet_153 ?_
                    refine lv_bipush (v := 96) hx hb dX12_sheet_156 (by decide) ?_
                    refine lv_iload hx hb dX12_sheet_158 (lv_at hl 8 rfl) ?_
                    refine lv_iadd hx hb dX12_sheet_160 ?_
                    refine lv_topi (fun x_309 ex_309 => ?_)
                    have rx_309 : rgI (96) (119) x_309 := by rw [ex_309]; exact rg_w (rg_add rl_96 r_7 (by decide) (by decide)) (by decide) (by decide)
                    obtain ⟨_, rfl, o_c_310⟩ := hH (g.2.2 100) _ hk_308.1
                    have o_c_310 : va_at g.1 vwCl ((g.2.2 100), .inl (g.2.1 1, 122, .inl (G_290.2.1 (g.2.2 100)))) H := o_c_310
                    refine hg_iald hx hb hK o_c_310 (rg_in (n := 122) rx_309 (by decide) (by decide)) dX12_sheet_161 ?_
                    rw [w_299]
                    refine lv_topi (fun x_311 ex_311 => ?_)
                    refine lv_iadd hx hb dX12_sheet_162 ?_
                    refine lv_topi (fun x_312 ex_312 => ?_)
                    refine lv_istore (lv' := [(7, .int x_312), (9, .int x_265), (0, .ref h0), (1, .int a0), (2, .int a1), (4, .int a3), (5, .int y5_46), (6, .int y6_46), (8, .int y8_46)]) hx hb dX12_sheet_163 hl (by decide) rfl (fun ls hl => ?_)
                    refine lv_iload hx hb dX12_sheet_165 (lv_at hl 6 rfl) ?_
                    refine lv_iload hx hb dX12_sheet_167 (lv_at hl 5 rfl) ?_
                    refine lv_iadd hx hb dX12_sheet_169 ?_
                    refine lv_topi (fun x_313 ex_313 => ?_)
                    refine lv_istore (lv' := [(5, .int x_313), (7, .int x_312), (9, .int x_265), (0, .ref h0), (1, .int a0), (2, .int a1), (4, .int a3), (6, .int y6_46), (8, .int y8_46)]) hx hb dX12_sheet_170 hl (by decide) rfl (fun ls hl => ?_)
                    obtain ⟨x_314, ex_314⟩ : ∃ y : Int32, y = y6_46 + 1 := ⟨_, rfl⟩
                    refine lv_iinc (v := x_314) (lv' := [(6, .int x_314), (5, .int x_313), (7, .int x_312), (9, .int x_265), (0, .ref h0), (1, .int a0), (2, .int a1), (4, .int a3), (8, .int y8_46)]) hx hb dX12_sheet_172 hl (k := 7) rfl (by rw [ex_314]; rfl) (by decide) rfl (fun ls hl => ?_)
                    obtain ⟨x_315, ex_315⟩ : ∃ y : Int32, y = y8_46 + 1 := ⟨_, rfl⟩
                    have rx_315 : rgI (1) (24) x_315 := by rw [ex_315]; exact rg_w (rg_add r_7 rl_1 (by decide) (by decide)) (by decide) (by decide)
                    have qx_315 : x_315.toInt = (y8_46 : Int32).toInt + 1 := by rw [ex_315]; exact rg_addE r_7 rl_1 (by decide) (by decide)
                    refine lv_iinc (v := x_315) (lv' := [(8, .int x_315), (6, .int x_314), (5, .int x_313), (7, .int x_312), (9, .int x_265), (0, .ref h0), (1, .int a0), (2, .int a1), (4, .int a3)]) hx hb dX12_sheet_175 hl (k := 8) rfl (by rw [ex_315]; rfl) (by decide) rfl (fun ls hl => ?_)
                    refine lv_goto (tgt := 46) hx hb dX12_sheet_178 (by decide) ?_
                    exact ih_46 H locs G_290 f_291 x_313 x_314 x_312 x_315 ls fr_292 w_299 (rg_w r_264 (by decide) (by decide)) ry2_46 (rg_w rx_315 (by decide) (by decide)) (sh_s hi0_46 hi1_46 r_7 ex_287 (Or.inl rfl) ef_291).1 (sh_s hi0_46 hi1_46 r_7 ex_287 (Or.inl rfl) ef_291).2 (by have h1 := qx_315; have h2 := r_7.1; have h3 := r_7.2; have h4 := hm_46; omega) (lv_sub hl [5, 6, 7, 8, 2, 1, 3, 0] rfl) hH hS
                  · have r_316 : rgI (-2147483648) (23) y6_46 := rg_w (rg_ltL (rg_top y6_46) ry2_46 (nle_lt c_289)) (by decide) (by decide)
                    have r_317 : rgI (-2147483647) (24) a1 := rg_w (rg_ltR (rg_top y6_46) ry2_46 (nle_lt c_289)) (by decide) (by decide)
                    refine lv_iload hx hb dX12_sheet_139 (lv_at hl 0 rfl) ?_
                    refine lv_if_le (tgt := 148) hx hb dX12_sheet_141 (by decide) (fun c_318 => ?_) (fun c_318 => ?_)
                    · have r_319 : rgI (-2147483648) (0) x_265 := rg_w (rg_leL (rg_top x_265) rl_0 c_318) (by decide) (by decide)
                      refine lv_iconst (v := 0) hx hb dX12_sheet_148 (by decide) ?_
                      refine hg_iast hx hb hK hS o_c_267 (AF.of hk_10.1) (rg_in (n := 122) rx_287 (by decide) (by decide)) dX12_sheet_149 (fun H locs o_c_267 hz oq hS => ?_)
                      obtain ⟨G_320, eG_320⟩ : ∃ z : Gh, z = aset G_46 (g.2.2 100) (upd (G_46.2.1 (g.2.2 100)) (x_287 : Int32).toNatClampNeg 0) := ⟨_, rfl⟩
                      have hH : HT g Ty G_320 H := by rw [eG_320]; exact HT.putA (upd (G_46.2.1 (g.2.2 100)) (x_287 : Int32).toNatClampNeg 0) hH hk_10.1 cf30 o_c_267 oq
                      obtain ⟨f_321, ef_321⟩ : ∃ z : Nat → Int32, z = (upd fl0_46 (x_287 : Int32).toNatClampNeg 0) := ⟨_, rfl⟩
                      have eaf_321 : G_320 = aset G_46 (g.2.2 100) f_321 := by rw [eG_320, ef_321, efl0_46]
                      have fr_322 : FR [105] [(g.2.2 100)] [] G G_320 := FR.a frL_46 eaf_321 (fun b h => h.1)
                      have u_323 : G_320.1 102 = (G.1 102) := by rw [eaf_321]; exact (frL_46.1 102 (by decide))
                      have u_324 : G_320.1 104 = (G.1 104) := by rw [eaf_321]; exact (frL_46.1 104 (by decide))
                      have u_325 : G_320.1 113 = (G.1 113) := by rw [eaf_321]; exact (frL_46.1 113 (by decide))
                      have u_326 : G_320.1 122 = (G.1 122) := by rw [eaf_321]; exact (frL_46.1 122 (by decide))
                      have u_327 : G_320.1 133 = (G.1 133) := by rw [eaf_321]; exact (frL_46.1 133 (by decide))
                      have u_328 : G_320.1 137 = (G.1 137) := by rw [eaf_321]; exact (frL_46.1 137 (by decide))
                      have w_329 : G_320.2.1 (g.2.2 100) = f_321 := by rw [eaf_321]; exact aset_eq
                      have w_330 : G_320.2.1 (g.2.2 121) = (G.2.1 (g.2.2 121)) := by rw [eaf_321]; exact (aset_ne (ne_kd hmk.2.2.2.2.2.1 hmk.1 (by decide))).trans (frL_46.2.1 (g.2.2 121) ⟨(ne_kd hmk.2.2.2.2.2.1 hmk.1 (by decide)), trivial⟩)
                      have w_331 : G_320.2.1 (g.2.2 140) = (G.2.1 (g.2.2 140)) := by rw [eaf_321]; exact (aset_ne (ne_kd hmk.2.2.2.2.2.2.2.2.2.2.2.2.2.2.2.2.2.2.1 hmk.1 (by decide))).trans (frL_46.2.1 (g.2.2 140) ⟨(ne_kd hmk.2.2.2.2.2.2.2.2.2.2.2.2.2.2.2.2.2.2.1 hmk.1 (by decide)), trivial⟩)
                      have w_332 : G_320.2.1 (g.2.2 141) = (G.2.1 (g.2.2 141)) := by rw [eaf_321]; exact (aset_ne (ne_kd hmk.2.2.2.2.2.2.2.2.2.2.2.2.2.2.2.2.2.2.2.1 hmk.1 (by decide))).trans (frL_46.2.1 (g.2.2 141) ⟨(ne_kd hmk.2.2.2.2.2.2.2.2.2.2.2.2.2.2.2.2.2.2.2.1 hmk.1 (by decide)), trivial⟩)
                      have w_333 : G_320.2.1 (g.2.2 111) = (G.2.1 (g.2.2 111)) := by rw [eaf_321]; exact (aset_ne (ne_kd hmk.2.2.2.2.2.2.2.2.2.2.2.2.2.2.2.2.2.2.2.2.1 hmk.1 (by decide))).trans (frL_46.2.1 (g.2.2 111) ⟨(ne_kd hmk.2.2.2.2.2.2.2.2.2.2.2.2.2.2.2.2.2.2.2.2.1 hmk.1 (by decide)), trivial⟩)
                      have u_334 : G_320.2.2 111 = some (g.2.2 111) := by rw [eaf_321]; exact ((frL_46.2.2 111 (by decide)).trans hI.r111)
                      have u_335 : G_320.2.2 112 = some (g.2.2 112) := by rw [eaf_321]; exact ((frL_46.2.2 112 (by decide)).trans hI.r112)
                      clear oq hz
                      refine lv_iload hx hb dX12_sheet_150 (lv_at hl 7 rfl) ?_
                      refine lv_aload_n hx hb dX12_sheet_152 rfl (lv_at hl 1 rfl) ?_
                      obtain ⟨_, ⟨rfl, t_337, hk_338⟩, o_c_336⟩ := hH h0 _ k_h0
                      refine hg_get hx hb hG igX12 hown hK o_c_336 rfl 0 (by decide) (hG _ mw_1284) rfl dX12_sheet_153 ?_
                      refine lv_bipush (v := 96) hx hb dX12_sheet_156 (by decide) ?_
                      refine lv_iload hx hb dX12_sheet_158 (lv_at hl 8 rfl) ?_
                      refine lv_iadd hx hb dX12_sheet_160 ?_
                      refine lv_topi (fun x_339 ex_339 => ?_)
                      have rx_339 : rgI (96) (119) x_339 := by rw [ex_339]; exact rg_w (rg_add rl_96 r_7 (by decide) (by decide)) (by decide) (by decide)
                      obtain ⟨_, rfl, o_c_340⟩ := hH (g.2.2 100) _ hk_338.1
                      have o_c_340 : va_at g.1 vwCl ((g.2.2 100), .inl (g.2.1 1, 122, .inl (G_320.2.1 (g.2.2 100)))) H := o_c_340
                      refine hg_iald hx hb hK o_c_340 (rg_in (n := 122) rx_339 (by decide) (by decide)) dX12_sheet_161 ?_
                      rw [w_329]
                      refine lv_topi (fun x_341 ex_341 => ?_)
                      refine lv_iadd hx hb dX12_sheet_162 ?_
                      refine lv_topi (fun x_342 ex_342 => ?_)
                      refine lv_istore (lv' := [(7, .int x_342), (9, .int x_265), (0, .ref h0), (1, .int a0), (2, .int a1), (4, .int a3), (5, .int y5_46), (6, .int y6_46), (8, .int y8_46)]) hx hb dX12_sheet_163 hl (by decide) rfl (fun ls hl => ?_)
                      refine lv_iload hx hb dX12_sheet_165 (lv_at hl 6 rfl) ?_
                      refine lv_iload hx hb dX12_sheet_167 (lv_at hl 5 rfl) ?_
                      refine lv_iadd hx hb dX12_sheet_169 ?_
                      refine lv_topi (fun x_343 ex_343 => ?_)
                      refine lv_istore (lv' := [(5, .int x_343), (7, .int x_342), (9, .int x_265), (0, .ref h0), (1, .int a0), (2, .int a1), (4, .int a3), (6, .int y6_46), (8, .int y8_46)]) hx hb dX12_sheet_170 hl (by decide) rfl (fun ls hl => ?_)
                      obtain ⟨x_344, ex_344⟩ : ∃ y : Int32, y = y6_46 + 1 := ⟨_, rfl⟩
                      have rx_344 : rgI (-2147483647) (24) x_344 := by rw [ex_344]; exact rg_w (rg_add r_316 rl_1 (by decide) (by decide)) (by decide) (by decide)
                      have qx_344 : x_344.toInt = (y6_46 : Int32).toInt + 1 := by rw [ex_344]; exact rg_addE r_316 rl_1 (by decide) (by decide)
                      refine lv_iinc (v := x_344) (lv' := [(6, .int x_344), (5, .int x_343), (7, .int x_342), (9, .int x_265), (0, .ref h0), (1, .int a0), (2, .int a1), (4, .int a3), (8, .int y8_46)]) hx hb dX12_sheet_172 hl (k := 7) rfl (by rw [ex_344]; rfl) (by decide) rfl (fun ls hl => ?_)
                      obtain ⟨x_345, ex_345⟩ : ∃ y : Int32, y = y8_46 + 1 := ⟨_, rfl⟩
                      have rx_345 : rgI (1) (24) x_345 := by rw [ex_345]; exact rg_w (rg_add r_7 rl_1 (by decide) (by decide)) (by decide) (by decide)
                      have qx_345 : x_345.toInt = (y8_46 : Int32).toInt + 1 := by rw [ex_345]; exact rg_addE r_7 rl_1 (by decide) (by decide)
                      refine lv_iinc (v := x_345) (lv' := [(8, .int x_345), (6, .int x_344), (5, .int x_343), (7, .int x_342), (9, .int x_265), (0, .ref h0), (1, .int a0), (2, .int a1), (4, .int a3)]) hx hb dX12_sheet_175 hl (k := 8) rfl (by rw [ex_345]; rfl) (by decide) rfl (fun ls hl => ?_)
                      refine lv_goto (tgt := 46) hx hb dX12_sheet_178 (by decide) ?_
                      exact ih_46 H locs G_320 f_321 x_343 x_344 x_342 x_345 ls fr_322 w_329 (rg_w r_264 (by decide) (by decide)) (rg_w r_317 (by decide) (by decide)) (rg_w rx_345 (by decide) (by decide)) (sh_s hi0_46 hi1_46 r_7 ex_287 (Or.inl rfl) ef_321).1 (sh_s hi0_46 hi1_46 r_7 ex_287 (Or.inl rfl) ef_321).2 (by have h1 := qx_345; have h2 := r_7.1; have h3 := r_7.2; have h4 := hm_46; omega) (lv_sub hl [5, 6, 7, 8, 2, 1, 3, 0] rfl) hH hS
                    · have r_346 : rgI (1) (2147483647) x_265 := rg_w (rg_ltR rl_0 (rg_top x_265) (nle_lt c_318)) (by decide) (by decide)
                      refine lv_iconst (v := 1) hx hb dX12_sheet_144 (by decide) ?_
                      refine lv_goto (tgt := 149) hx hb dX12_sheet_145 (by decide) ?_
                      refine hg_iast hx hb hK hS o_c_267 (AF.of hk_10.1) (rg_in (n := 122) rx_287 (by decide) (by decide)) dX12_sheet_149 (fun H locs o_c_267 hz oq hS => ?_)
                      obtain ⟨G_347, eG_347⟩ : ∃ z : Gh, z = aset G_46 (g.2.2 100) (upd (G_46.2.1 (g.2.2 100)) (x_287 : Int32).toNatClampNeg 1) := ⟨_, rfl⟩
                      have hH : HT g Ty G_347 H := by rw [eG_347]; exact HT.putA (upd (G_46.2.1 (g.2.2 100)) (x_287 : Int32).toNatClampNeg 1) hH hk_10.1 cf30 o_c_267 oq
                      obtain ⟨f_348, ef_348⟩ : ∃ z : Nat → Int32, z = (upd fl0_46 (x_287 : Int32).toNatClampNeg 1) := ⟨_, rfl⟩
                      have eaf_348 : G_347 = aset G_46 (g.2.2 100) f_348 := by rw [eG_347, ef_348, efl0_46]
                      have fr_349 : FR [105] [(g.2.2 100)] [] G G_347 := FR.a frL_46 eaf_348 (fun b h => h.1)
                      have u_350 : G_347.1 102 = (G.1 102) := by rw [eaf_348]; exact (frL_46.1 102 (by decide))
                      have u_351 : G_347.1 104 = (G.1 104) := by rw [eaf_348]; exact (frL_46.1 104 (by decide))
                      have u_352 : G_347.1 113 = (G.1 113) := by rw [eaf_348]; exact (frL_46.1 113 (by decide))
                      have u_353 : G_347.1 122 = (G.1 122) := by rw [eaf_348]; exact (frL_46.1 122 (by decide))
                      have u_354 : G_347.1 133 = (G.1 133) := by rw [eaf_348]; exact (frL_46.1 133 (by decide))
                      have u_355 : G_347.1 137 = (G.1 137) := by rw [eaf_348]; exact (frL_46.1 137 (by decide))
                      have w_356 : G_347.2.1 (g.2.2 100) = f_348 := by rw [eaf_348]; exact aset_eq
                      have w_357 : G_347.2.1 (g.2.2 121) = (G.2.1 (g.2.2 121)) := by rw [eaf_348]; exact (aset_ne (ne_kd hmk.2.2.2.2.2.1 hmk.1 (by decide))).trans (frL_46.2.1 (g.2.2 121) ⟨(ne_kd hmk.2.2.2.2.2.1 hmk.1 (by decide)), trivial⟩)
                      have w_358 : G_347.2.1 (g.2.2 140) = (G.2.1 (g.2.2 140)) := by rw [eaf_348]; exact (aset_ne (ne_kd hmk.2.2.2.2.2.2.2.2.2.2.2.2.2.2.2.2.2.2.1 hmk.1 (by decide))).trans (frL_46.2.1 (g.2.2 140) ⟨(ne_kd hmk.2.2.2.2.2.2.2.2.2.2.2.2.2.2.2.2.2.2.1 hmk.1 (by decide)), trivial⟩)
                      have w_359 : G_347.2.1 (g.2.2 141) = (G.2.1 (g.2.2 141)) := by rw [eaf_348]; exact (aset_ne (ne_kd hmk.2.2.2.2.2.2.2.2.2.2.2.2.2.2.2.2.2.2.2.1 hmk.1 (by decide))).trans (frL_46.2.1 (g.2.2 141) ⟨(ne_kd hmk.2.2.2.2.2.2.2.2.2.2.2.2.2.2.2.2.2.2.2.1 hmk.1 (by decide)), trivial⟩)
                      have w_360 : G_347.2.1 (g.2.2 111) = (G.2.1 (g.2.2 111)) := by rw [eaf_348]; exact (aset_ne (ne_kd hmk.2.2.2.2.2.2.2.2.2.2.2.2.2.2.2.2.2.2.2.2.1 hmk.1 (by decide))).trans (frL_46.2.1 (g.2.2 111) ⟨(ne_kd hmk.2.2.2.2.2.2.2.2.2.2.2.2.2.2.2.2.2.2.2.2.1 hmk.1 (by decide)), trivial⟩)
                      have u_361 : G_347.2.2 111 = some (g.2.2 111) := by rw [eaf_348]; exact ((frL_46.2.2 111 (by decide)).trans hI.r111)
                      have u_362 : G_347.2.2 112 = some (g.2.2 112) := by rw [eaf_348]; exact ((frL_46.2.2 112 (by decide)).trans hI.r112)
                      clear oq hz
                      refine lv_iload hx hb dX12_sheet_150 (lv_at hl 7 rfl) ?_
                      refine lv_aload_n hx hb dX12_sheet_152 rfl (lv_at hl 1 rfl) ?_
                      obtain ⟨_, ⟨rfl, t_364, hk_365⟩, o_c_363⟩ := hH h0 _ k_h0
                      refine hg_get hx hb hG igX12 hown hK o_c_363 rfl 0 (by decide) (hG _ mw_1284) rfl dX12_sheet_153 ?_
                      refine lv_bipush (v := 96) hx hb dX12_sheet_156 (by decide) ?_
                      refine lv_iload hx hb dX12_sheet_158 (lv_at hl 8 rfl) ?_
                      refine lv_iadd hx hb dX12_sheet_160 ?_
                      refine lv_topi (fun x_366 ex_366 => ?_)
                      have rx_366 : rgI (96) (119) x_366 := by rw [ex_366]; exact rg_w (rg_add rl_96 r_7 (by decide) (by decide)) (by decide) (by decide)
                      obtain ⟨_, rfl, o_c_367⟩ := hH (g.2.2 100) _ hk_365.1
                      have o_c_367 : va_at g.1 vwCl ((g.2.2 100), .inl (g.2.1 1, 122, .inl (G_347.2.1 (g.2.2 100)))) H := o_c_367
                      refine hg_iald hx hb hK o_c_367 (rg_in (n := 122) rx_366 (by decide) (by decide)) dX12_sheet_161 ?_
                      rw [w_356]
                      refine lv_topi (fun x_368 ex_368 => ?_)
                      refine lv_iadd hx hb dX12_sheet_162 ?_
                      refine lv_topi (fun x_369 ex_369 => ?_)
                      refine lv_istore (lv' := [(7, .int x_369), (9, .int x_265), (0, .ref h0), (1, .int a0), (2, .int a1), (4, .int a3), (5, .int y5_46), (6, .int y6_46), (8, .int y8_46)]) hx hb dX12_sheet_163 hl (by decide) rfl (fun ls hl => ?_)
                      refine lv_iload hx hb dX12_sheet_165 (lv_at hl 6 rfl) ?_
                      refine lv_iload hx hb dX12_sheet_167 (lv_at hl 5 rfl) ?_
                      refine lv_iadd hx hb dX12_sheet_169 ?_
                      refine lv_topi (fun x_370 ex_370 => ?_)
                      refine lv_istore (lv' := [(5, .int x_370), (7, .int x_369), (9, .int x_265), (0, .ref h0), (1, .int a0), (2, .int a1), (4, .int a3), (6, .int y6_46), (8, .int y8_46)]) hx hb dX12_sheet_170 hl (by decide) rfl (fun ls hl => ?_)
                      obtain ⟨x_371, ex_371⟩ : ∃ y : Int32, y = y6_46 + 1 := ⟨_, rfl⟩
                      have rx_371 : rgI (-2147483647) (24) x_371 := by rw [ex_371]; exact rg_w (rg_add r_316 rl_1 (by decide) (by decide)) (by decide) (by decide)
                      have qx_371 : x_371.toInt = (y6_46 : Int32).toInt + 1 := by rw [ex_371]; exact rg_addE r_316 rl_1 (by decide) (by decide)
                      refine lv_iinc (v := x_371) (lv' := [(6, .int x_371), (5, .int x_370), (7, .int x_369), (9, .int x_265), (0, .ref h0), (1, .int a0), (2, .int a1), (4, .int a3), (8, .int y8_46)]) hx hb dX12_sheet_172 hl (k := 7) rfl (by rw [ex_371]; rfl) (by decide) rfl (fun ls hl => ?_)
                      obtain ⟨x_372, ex_372⟩ : ∃ y : Int32, y = y8_46 + 1 := ⟨_, rfl⟩
                      have rx_372 : rgI (1) (24) x_372 := by rw [ex_372]; exact rg_w (rg_add r_7 rl_1 (by decide) (by decide)) (by decide) (by decide)
                      have qx_372 : x_372.toInt = (y8_46 : Int32).toInt + 1 := by rw [ex_372]; exact rg_addE r_7 rl_1 (by decide) (by decide)
                      refine lv_iinc (v := x_372) (lv' := [(8, .int x_372), (6, .int x_371), (5, .int x_370), (7, .int x_369), (9, .int x_265), (0, .ref h0), (1, .int a0), (2, .int a1), (4, .int a3)]) hx hb dX12_sheet_175 hl (k := 8) rfl (by rw [ex_372]; rfl) (by decide) rfl (fun ls hl => ?_)
                      refine lv_goto (tgt := 46) hx hb dX12_sheet_178 (by decide) ?_
                      exact ih_46 H locs G_347 f_348 x_370 x_371 x_369 x_372 ls fr_349 w_356 (rg_w r_264 (by decide) (by decide)) (rg_w r_317 (by decide) (by decide)) (rg_w rx_372 (by decide) (by decide)) (sh_s hi0_46 hi1_46 r_7 ex_287 (Or.inr rfl) ef_348).1 (sh_s hi0_46 hi1_46 r_7 ex_287 (Or.inr rfl) ef_348).2 (by have h1 := qx_372; have h2 := r_7.1; have h3 := r_7.2; have h4 := hm_46; omega) (lv_sub hl [5, 6, 7, 8, 2, 1, 3, 0] rfl) hH hS
        · have r_373 : rgI (0) (0) x_11 := rg_w (rg_eq rl_0 c_13) (by decide) (by decide)
          refine lv_goto (tgt := 175) hx hb dX12_sheet_65 (by decide) ?_
          obtain ⟨x_374, ex_374⟩ : ∃ y : Int32, y = y8_46 + 1 := ⟨_, rfl⟩
          have rx_374 : rgI (1) (24) x_374 := by rw [ex_374]; exact rg_w (rg_add r_7 rl_1 (by decide) (by decide)) (by decide) (by decide)
          have qx_374 : x_374.toInt = (y8_46 : Int32).toInt + 1 := by rw [ex_374]; exact rg_addE r_7 rl_1 (by decide) (by decide)
          refine lv_iinc (v := x_374) (lv' := [(8, .int x_374), (0, .ref h0), (1, .int a0), (2, .int a1), (4, .int a3), (5, .int y5_46), (6, .int y6_46), (7, .int y7_46)]) hx hb dX12_sheet_175 hl (k := 7) rfl (by rw [ex_374]; rfl) (by decide) rfl (fun ls hl => ?_)
          refine lv_goto (tgt := 46) hx hb dX12_sheet_178 (by decide) ?_
          exact ih_46 H locs G_46 fl0_46 y5_46 y6_46 y7_46 x_374 ls frL_46 efl0_46 ry1_46 ry2_46 (rg_w rx_374 (by decide) (by decide)) hi0_46 hi1_46 (by have h1 := qx_374; have h2 := r_7.1; have h3 := r_7.2; have h4 := hm_46; omega) (lv_sub hl [1, 2, 3, 4, 5, 6, 7, 0] rfl) hH hS
  refine lv_aload_n hx hb dX12_sheet_0 rfl (lv_at hl 0 rfl) ?_
  refine lv_iconst (v := 0) hx hb dX12_sheet_1 (by decide) ?_
  obtain ⟨_, ⟨rfl, t_376, hk_377⟩, o_c_375⟩ := hH h0 _ k_h0
  refine hg_put (ty := .int) hx hb hG igX12 tyX12 tyX12_ok nmX12 hown hK hS o_c_375 (AF.of k_h0) rfl 5 (by decide) (hG _ mw_1289) rfl (by decide +kernel) rfl rfl (Nat.le_of_ble_eq_true rfl) dX12_sheet_2 (fun H locs o_c_375 hz oq hS => ?_)
  obtain ⟨G_378, eG_378⟩ : ∃ z : Gh, z = gset G 105 0 := ⟨_, rfl⟩
  have hH : HT g Ty G_378 H := by rw [eG_378]; exact HT.putN 105 0 hH k_h0 ⟨rfl, t_376, hk_377⟩ o_c_375 oq (Or.inr (Or.inr (Or.inr (Or.inr (Or.inr ⟨by decide, t_376⟩)))))
  have fr_379 : FR [105] [(g.2.2 100)] [] G G_378 := FR.n FR.rf eG_378 (by decide)
  have u_380 : G_378.1 102 = (G.1 102) := by rw [eG_378]; exact (gs_ne (by decide))
  have u_381 : G_378.1 104 = (G.1 104) := by rw [eG_378]; exact (gs_ne (by decide))
  have u_382 : G_378.1 113 = (G.1 113) := by rw [eG_378]; exact (gs_ne (by decide))
  have u_383 : G_378.1 122 = (G.1 122) := by rw [eG_378]; exact (gs_ne (by decide))
  have u_384 : G_378.1 133 = (G.1 133) := by rw [eG_378]; exact (gs_ne (by decide))
  have u_385 : G_378.1 137 = (G.1 137) := by rw [eG_378]; exact (gs_ne (by decide))
  have u_386 : G_378.1 105 = 0 := by rw [eG_378]; exact gs_eq
  have w_387 : G_378.2.1 (g.2.2 100) = (G.2.1 (g.2.2 100)) := by rw [eG_378]; exact rfl
  have w_388 : G_378.2.1 (g.2.2 121) = (G.2.1 (g.2.2 121)) := by rw [eG_378]; exact rfl
  have w_389 : G_378.2.1 (g.2.2 140) = (G.2.1 (g.2.2 140)) := by rw [eG_378]; exact rfl
  have w_390 : G_378.2.1 (g.2.2 141) = (G.2.1 (g.2.2 141)) := by rw [eG_378]; exact rfl
  have w_391 : G_378.2.1 (g.2.2 111) = (G.2.1 (g.2.2 111)) := by rw [eG_378]; exact rfl
  have u_392 : G_378.2.2 111 = some (g.2.2 111) := by rw [eG_378]; exact hI.r111
  have u_393 : G_378.2.2 112 = some (g.2.2 112) := by rw [eG_378]; exact hI.r112
  clear oq hz
  refine lv_iload_n hx hb dX12_sheet_5 rfl (lv_at hl 1 rfl) ?_
  refine lv_iconst (v := 0) hx hb dX12_sheet_6 (by decide) ?_
  refine lv_iconst (v := 3) hx hb dX12_sheet_7 (by decide) ?_
  refine vp_callSi (W.runS (As := [.int a0, .int 0, .int 3]) (rest := []) ⟨hx, hb, hml, hown, hts⟩ (c_X12_in l g Ty G_378 a0 0 3 ) (cwSx 3 hts hG (gwC mw_1426) mw_88 mw_1424 mw_1425 rfl rfl rfl hd_X12_in ⟨Nat.le_of_ble_eq_true rfl, Nat.le_of_ble_eq_true rfl⟩) ⟨PcH_blind, PcH_pre hK hH⟩ rfl rfl hl.1 rfl (lv_room (Nat.le_of_ble_eq_true rfl)) dX12_sheet_8 ⟨Nat.zero_le _, Nat.zero_le _⟩) (fun x_394 hx_394 => ?_)
  have rx_394 : rgI (0) (1) x_394 := hx_394.1
  refine lv_if_eq (tgt := 20) hx hb dX12_sheet_11 (by decide) (fun c_395 => ?_) (fun c_395 => ?_)
  · have r_396 : rgI (0) (0) x_394 := rg_w (rg_eq rl_0 c_395) (by decide) (by decide)
    refine lv_iconst (v := (-1)) hx hb dX12_sheet_20 (by decide) ?_
    exact W.iret hx hb hr (fun t ht hWm => ⟨⟨(-1), (Ty, G_378), rfl, ⟨rfl, ⟨fr_379, ⟨(by rw [u_380]; exact (rg_w hI.a102 (by decide) (by decide))), (by rw [u_381]; exact (rg_w hI.a104 (by decide) (by decide))), (by rw [u_382]; exact (rg_w hI.a113 (by decide) (by decide))), (by rw [u_383]; exact (rg_w hI.a122 (by decide) (by decide))), (by rw [u_384]; exact (rg_w hI.a133 (by decide) (by decide))), (by rw [u_385]; exact (rg_w hI.a137 (by decide) (by decide))), u_392, u_393, (by rw [w_387]; exact (hI.ti.hi (show Bd ≤ Bd + 1000 by omega))), (hI.un2 (show Bd ≤ Bd + 1000 by omega) w_388 u_383), (hI.ke2 (show Bd ≤ Bd + 1000 by omega) w_389 w_390)⟩⟩⟩, by show HT g Ty G_378 t.heap; rw [ht]; exact hH⟩, hS.F ht⟩) hS.2.2 dX12_sheet_21
  · have r_397 : rgI (1) (1) x_394 := rg_w (rg_neL rx_394 rl_0 c_395) (by decide) (by decide)
    have r_398 : rgI (0) (3) a0 := rg_w (in_rng hx_394.2.1 c_395 rl_0 rl_3) (by decide) (by decide)
    refine lv_iload_n hx hb dX12_sheet_14 rfl (lv_at hl 2 rfl) ?_
    refine lv_bipush (v := 24) hx hb dX12_sheet_15 (by decide) ?_
    refine lv_icmp_le (tgt := 22) hx hb dX12_sheet_17 (by decide) (fun c_399 => ?_) (fun c_399 => ?_)
    · have r_400 : rgI (-2147483648) (24) a1 := rg_w (rg_leL (rg_top a1) rl_24 c_399) (by decide) (by decide)
      refine lv_iload_n hx hb dX12_sheet_22 rfl (lv_at hl 1 rfl) ?_
      refine lv_iconst (v := 3) hx hb dX12_sheet_23 (by decide) ?_
      refine lv_icmp_ge (tgt := 34) hx hb dX12_sheet_24 (by decide) (fun c_401 => ?_) (fun c_401 => ?_)
      · have r_402 : rgI (3) (3) a0 := rg_w (rg_leR rl_3 r_398 c_401) (by decide) (by decide)
        refine lv_iload_n hx hb dX12_sheet_34 rfl (lv_at hl 3 rfl) ?_
        refine lv_istore (lv' := [(5, .int a2), (0, .ref h0), (1, .int a0), (2, .int a1), (3, .int a2), (4, .int a3)]) hx hb dX12_sheet_35 hl (by decide) rfl (fun ls hl => ?_)
        refine lv_iconst (v := 0) hx hb dX12_sheet_37 (by decide) ?_
        refine lv_istore (lv' := [(6, .int 0), (5, .int a2), (0, .ref h0), (1, .int a0), (2, .int a1), (3, .int a2), (4, .int a3)]) hx hb dX12_sheet_38 hl (by decide) rfl (fun ls hl => ?_)
        refine lv_iconst (v := 0) hx hb dX12_sheet_40 (by decide) ?_
        refine lv_istore (lv' := [(7, .int 0), (6, .int 0), (5, .int a2), (0, .ref h0), (1, .int a0), (2, .int a1), (3, .int a2), (4, .int a3)]) hx hb dX12_sheet_41 hl (by decide) rfl (fun ls hl => ?_)
        refine lv_iconst (v := 0) hx hb dX12_sheet_43 (by decide) ?_
        refine lv_istore (lv' := [(8, .int 0), (7, .int 0), (6, .int 0), (5, .int a2), (0, .ref h0), (1, .int a0), (2, .int a1), (3, .int a2), (4, .int a3)]) hx hb dX12_sheet_44 hl (by decide) rfl (fun ls hl => ?_)
        exact L_46 _ H locs G_378 (G.2.1 (g.2.2 100)) a2 0 0 0 ls fr_379 w_387 (rg_w r_402 (by decide) (by decide)) r_400 (rg_w rl_0 (by decide) (by decide)) (fun _ _ => rfl) hTS0.2.2.2.1 (Nat.lt_succ_self _) (lv_sub hl [4, 5, 6, 8, 3, 2, 1, 0] rfl) hH hS
      · have r_403 : rgI (0) (2) a0 := rg_w (rg_ltL r_398 rl_3 (nle_lt c_401)) (by decide) (by decide)
        refine lv_iload_n hx hb dX12_sheet_27 rfl (lv_at hl 2 rfl) ?_
        refine lv_if_ge (tgt := 34) hx hb dX12_sheet_28 (by decide) (fun c_404 => ?_) (fun c_404 => ?_)
        · have r_405 : rgI (0) (24) a1 := rg_w (rg_leR rl_0 r_400 c_404) (by decide) (by decide)
          refine lv_iload_n hx hb dX12_sheet_34 rfl (lv_at hl 3 rfl) ?_
          refine lv_istore (lv' := [(5, .int a2), (0, .ref h0), (1, .int a0), (2, .int a1), (3, .int a2), (4, .int a3)]) hx hb dX12_sheet_35 hl (by decide) rfl (fun ls hl => ?_)
          refine lv_iconst (v := 0) hx hb dX12_sheet_37 (by decide) ?_
          refine lv_istore (lv' := [(6, .int 0), (5, .int a2), (0, .ref h0), (1, .int a0), (2, .int a1), (3, .int a2), (4, .int a3)]) hx hb dX12_sheet_38 hl (by decide) rfl (fun ls hl => ?_)
          refine lv_iconst (v := 0) hx hb dX12_sheet_40 (by decide) ?_
          refine lv_istore (lv' := [(7, .int 0), (6, .int 0), (5, .int a2), (0, .ref h0), (1, .int a0), (2, .int a1), (3, .int a2), (4, .int a3)]) hx hb dX12_sheet_41 hl (by decide) rfl (fun ls hl => ?_)
          refine lv_iconst (v := 0) hx hb dX12_sheet_43 (by decide) ?_
          refine lv_istore (lv' := [(8, .int 0), (7, .int 0), (6, .int 0), (5, .int a2), (0, .ref h0), (1, .int a0), (2, .int a1), (3, .int a2), (4, .int a3)]) hx hb dX12_sheet_44 hl (by decide) rfl (fun ls hl => ?_)
          exact L_46 _ H locs G_378 (G.2.1 (g.2.2 100)) a2 0 0 0 ls fr_379 w_387 (rg_w r_403 (by decide) (by decide)) (rg_w r_405 (by decide) (by decide)) (rg_w rl_0 (by decide) (by decide)) (fun _ _ => rfl) hTS0.2.2.2.1 (Nat.lt_succ_self _) (lv_sub hl [4, 5, 6, 8, 3, 2, 1, 0] rfl) hH hS
        · have r_406 : rgI (-2147483648) (-1) a1 := rg_w (rg_ltL r_400 rl_0 (nle_lt c_404)) (by decide) (by decide)
          refine lv_bipush (v := (-2)) hx hb dX12_sheet_31 (by decide) ?_
          exact W.iret hx hb hr (fun t ht hWm => ⟨⟨(-2), (Ty, G_378), rfl, ⟨rfl, ⟨fr_379, ⟨(by rw [u_380]; exact (rg_w hI.a102 (by decide) (by decide))), (by rw [u_381]; exact (rg_w hI.a104 (by decide) (by decide))), (by rw [u_382]; exact (rg_w hI.a113 (by decide) (by decide))), (by rw [u_383]; exact (rg_w hI.a122 (by decide) (by decide))), (by rw [u_384]; exact (rg_w hI.a133 (by decide) (by decide))), (by rw [u_385]; exact (rg_w hI.a137 (by decide) (by decide))), u_392, u_393, (by rw [w_387]; exact (hI.ti.hi (show Bd ≤ Bd + 1000 by omega))), (hI.un2 (show Bd ≤ Bd + 1000 by omega) w_388 u_383), (hI.ke2 (show Bd ≤ Bd + 1000 by omega) w_389 w_390)⟩⟩⟩, by show HT g Ty G_378 t.heap; rw [ht]; exact hH⟩, hS.F ht⟩) hS.2.2 dX12_sheet_33
    · have r_407 : rgI (25) (2147483647) a1 := rg_w (rg_ltR rl_24 (rg_top a1) (nle_lt c_399)) (by decide) (by decide)
      refine lv_iconst (v := (-1)) hx hb dX12_sheet_20 (by decide) ?_
      exact W.iret hx hb hr (fun t ht hWm => ⟨⟨(-1), (Ty, G_378), rfl, ⟨rfl, ⟨fr_379, ⟨(by rw [u_380]; exact (rg_w hI.a102 (by decide) (by decide))), (by rw [u_381]; exact (rg_w hI.a104 (by decide) (by decide))), (by rw [u_382]; exact (rg_w hI.a113 (by decide) (by decide))), (by rw [u_383]; exact (rg_w hI.a122 (by decide) (by decide))), (by rw [u_384]; exact (rg_w hI.a133 (by decide) (by decide))), (by rw [u_385]; exact (rg_w hI.a137 (by decide) (by decide))), u_392, u_393, (by rw [w_387]; exact (hI.ti.hi (show Bd ≤ Bd + 1000 by omega))), (hI.un2 (show Bd ≤ Bd + 1000 by omega) w_388 u_383), (hI.ke2 (show Bd ≤ Bd + 1000 by omega) w_389 w_390)⟩⟩⟩, by show HT g Ty G_378 t.heap; rw [ht]; exact hH⟩, hS.F ht⟩) hS.2.2 dX12_sheet_21

set_option maxHeartbeats 4000000 in
set_option maxRecDepth 100000 in
theorem c_X12_path (l : Launch) (g : Gx) (Ty : TyM) (G : Gh) (sz : Nat) (h0 : Nat) (a0 : Int32) (k_h0 : Ty h0 = some (22, 0)) (Bd : Int) (hI : OI g Bd G) (hBd : Bd ≤ 1900000) (hLD : LD g) : Met l yX12_path (wsG yX12_path cX12_path 5 (some .int)) ({ frames := 2, cells := 0, slots := 0, locals := 43 }) (PcT g Ty G sz [.ref h0, .int a0]) (QwI g Ty sz (fun r u => u.1 = Ty ∧ FR [104, 105] [] [] G u.2 ∧ OI g (Bd + 1000) u.2)) 0 0 (AF Ty sz) := by
  refine Met.ofW (cc := cX12_path) (maxL := 5) (ret := (some .int)) (by decide) rfl ?_
  intro p e s m args below meth c s₁ B hml hv
  obtain ⟨rfl, hsz, hK, hH⟩ := hv
  subst hsz
  have hx := B.exec
  have hb := B.bytes
  have hr := B.returns
  have hts := atoms_spec (ws := (wsG yX12_path cX12_path 5 (some .int))) B.pre
  have hG : ∀ w ∈ GW, w.before ([.ref h0, .int a0] : List Value).toArray s = true := fun w h => hts w (List.mem_cons_of_mem _ h)
  have hown : s.vm.findClass RX12 = some m.cls := findClass_of_methodNamed B.named
  have hlocks := B.notSynchronized
  have hl := lv_entry [.ref h0, .int a0] (n := 5) (Nat.le_of_ble_eq_true rfl)
  rw [lg_entry_eq]
  generalize (lg_sl [.ref h0, .int a0] ++ List.replicate (5 - (lg_sl [.ref h0, .int a0]).length) Slot.unset).toArray = ls at hl ⊢
  have hl : lv_has ls 5 [(0, .ref h0), (1, .int a0)] := hl
  have hmk : mdK g Ty := mdk_of hH k_h0
  have hS : va_S (AF Ty s.heap.size) s.heap s.heap [] := va_S.rf
  obtain ⟨⟨σ0, hTS0⟩, h10, hBB0⟩ := id hI.ti
  obtain ⟨ρ, hT⟩ := hTS0.1
  have L_39 : ∀ (n : Nat) (H : Heap) (locs : List Loc) (G_39 : Gh) (y2_39 : Int32) (y3_39 : Int32) (y4_39 : Int32) (ls : Array Slot), rgI (0) (32) (G_39.1 104) → FR [104, 105] [] [] G G_39 → rgI (0) (23) y2_39 → rgI (-1) (22) y4_39 → (∀ j : Nat, (j : Int) < (y2_39 : Int32).toInt → ¬ cz (G.2.1 (g.2.2 100)) a0.toNatClampNeg j = 0) → ((y3_39 : Int32).toNatClampNeg = cz (G.2.1 (g.2.2 100)) a0.toNatClampNeg ((y2_39 : Int32).toInt - 1 - (y4_39 : Int32).toInt).toNat ∧ thr (G.2.1 (g.2.2 100)) y3_39) → thr (G.2.1 (g.2.2 100)) a0 → (y4_39 : Int32).toInt < (y2_39 : Int32).toInt → ((y4_39).toInt - (-1)).toNat < n → lv_has ls 5 [(0, .ref h0), (2, .int y2_39), (3, .int y3_39), (4, .int y4_39)] → HT g Ty G_39 H → va_S (AF Ty s.heap.size) s.heap H locs → Wm p l e (wsG yX12_path cX12_path 5 (some .int)) ({ frames := 2, cells := 0, slots := 0, locals := 43 }) s m [.ref h0, .int a0] below meth c H locs (0) (0) (QwI g Ty s.heap.size (fun r u => u.1 = Ty ∧ FR [104, 105] [] [] G u.2 ∧ OI g (Bd + 1000) u.2)) 0 0 (AF Ty s.heap.size) (F0 m 39 ls []) := by
    intro n
    induction n with
    | zero => intro H locs G_39 y2_39 y3_39 y4_39 ls rg104_39 frL_39 ry2_39 ry4_39 hi0_39 hi1_39 hi2_39 hi3_39 hm; exact absurd hm (Nat.not_lt_zero _)
    | succ n ih_39 =>
      intro H locs G_39 y2_39 y3_39 y4_39 ls rg104_39 frL_39 ry2_39 ry4_39 hi0_39 hi1_39 hi2_39 hi3_39 hm_39 hl hH hS
      refine lv_iload hx hb dX12_path_39 (lv_at hl 3 rfl) ?_
      refine lv_if_lt (tgt := 74) hx hb dX12_path_41 (by decide) (fun c_1 => ?_) (fun c_1 => ?_)
      · have r_2 : rgI (-1) (-1) y4_39 := rg_w (rg_ltL ry4_39 rl_0 c_1) (by decide) (by decide)
        refine lv_iload_n hx hb dX12_path_74 rfl (lv_at hl 1 rfl) ?_
        exact W.iret hx hb hr (fun t ht hWm => ⟨⟨y2_39, (Ty, G_39), rfl, ⟨rfl, ⟨frL_39, ⟨(by rw [(frL_39.1 102 (by decide))]; exact (rg_w hI.a102 (by decide) (by decide))), (rg_w rg104_39 (by decide) (by decide)), (by rw [(frL_39.1 113 (by decide))]; exact (rg_w hI.a113 (by decide) (by decide))), (by rw [(frL_39.1 122 (by decide))]; exact (rg_w hI.a122 (by decide) (by decide))), (by rw [(frL_39.1 133 (by decide))]; exact (rg_w hI.a133 (by decide) (by decide))), (by rw [(frL_39.1 137 (by decide))]; exact (rg_w hI.a137 (by decide) (by decide))), ((frL_39.2.2 111 (by decide)).trans hI.r111), ((frL_39.2.2 112 (by decide)).trans hI.r112), (by rw [(frL_39.2.1 (g.2.2 100) trivial)]; exact (hI.ti.hi (show Bd ≤ Bd + 1000 by omega))), (hI.un2 (show Bd ≤ Bd + 1000 by omega) (frL_39.2.1 (g.2.2 121) trivial) (frL_39.1 122 (by decide))), (hI.ke2 (show Bd ≤ Bd + 1000 by omega) (frL_39.2.1 (g.2.2 140) trivial) (frL_39.2.1 (g.2.2 141) trivial))⟩⟩⟩, by show HT g Ty G_39 t.heap; rw [ht]; exact hH⟩, hS.F ht⟩) hS.2.2 dX12_path_75
      · have r_3 : rgI (0) (22) y4_39 := rg_w (rg_leR rl_0 ry4_39 (nlt_le c_1)) (by decide) (by decide)
        refine lv_aload_n hx hb dX12_path_44 rfl (lv_at hl 0 rfl) ?_
        obtain ⟨_, ⟨rfl, t_5, hk_6⟩, o_c_4⟩ := hH h0 _ k_h0
        refine hg_get hx hb hG igX12 hown hK o_c_4 rfl 3 (by decide) (hG _ mw_1287) rfl dX12_path_45 ?_
        refine lv_iload hx hb dX12_path_48 (lv_at hl 3 rfl) ?_
        refine lv_aload_n hx hb dX12_path_50 rfl (lv_at hl 0 rfl) ?_
        refine hg_get hx hb hG igX12 hown hK o_c_4 rfl 0 (by decide) (hG _ mw_1284) rfl dX12_path_51 ?_
        refine lv_bipush (v := 24) hx hb dX12_path_54 (by decide) ?_
        refine lv_iload_n hx hb dX12_path_56 rfl (lv_at hl 2 rfl) ?_
        refine lv_iadd hx hb dX12_path_57 ?_
        refine lv_topi (fun x_7 ex_7 => ?_)
        obtain ⟨_, rfl, o_c_8⟩ := hH (g.2.2 100) _ hk_6.1
        have o_c_8 : va_at g.1 vwCl ((g.2.2 100), .inl (g.2.1 1, 122, .inl (G_39.2.1 (g.2.2 100)))) H := o_c_8
        have in_9 : vp_in x_7 122 := (rg_in (n := 122) (rg_w (by rw [ex_7]; exact rg_add rl_24 hi1_39.2.1 (by decide) (by decide) : rgI 24 47 x_7) (by decide) (by decide) : rgI 24 47 x_7) (by decide) (by decide))
        refine hg_iald hx hb hK o_c_8 in_9 dX12_path_58 ?_
        rw [(frL_39.2.1 (g.2.2 100) trivial)]
        refine lv_topi (fun x_10 ex_10 => ?_)
        refine lv_i2l hx hb dX12_path_59 rfl ?_
        refine lv_topl (fun u_11 eu_11 => ?_)
        obtain ⟨_, ⟨f_13, rfl⟩, o_c_12⟩ := hH (g.2.2 103) _ hk_6.2.2.1
        refine hg_last hx hb hK hS o_c_12 (AF.of hk_6.2.2.1) (rg_in (n := 32) r_3 (by decide) (by decide)) dX12_path_60 (fun H locs o_c_12 hz oq hS => ?_)
        generalize hff_14 : vp_updL f_13 _ u_11 = f_14 at o_c_12
        have hH : HT g Ty G_39 H := hH.put hk_6.2.2.1 ⟨_, rfl⟩ o_c_12 oq
        have o_c_4 := o_c_4.kept (oq _ (ne_kd k_h0 hk_6.2.2.1 (by decide)))
        have o_c_8 := o_c_8.kept (oq _ (ne_kd hk_6.1 hk_6.2.2.1 (by decide)))
        clear oq hz
        refine lv_aload_n hx hb dX12_path_61 rfl (lv_at hl 0 rfl) ?_
        refine hg_get hx hb hG igX12 hown hK o_c_4 rfl 0 (by decide) (hG _ mw_1284) rfl dX12_path_62 ?_
        refine lv_iload_n hx hb dX12_path_65 rfl (lv_at hl 2 rfl) ?_
        have in_15 : vp_in y3_39 122 := (rg_in (n := 122) hi1_39.2.1 (by decide) (by decide))
        refine hg_iald hx hb hK o_c_8 in_15 dX12_path_66 ?_
        rw [(frL_39.2.1 (g.2.2 100) trivial)]
        refine lv_topi (fun x_16 ex_16 => ?_)
        refine lv_istore_n (lv' := [(3, .int x_16), (0, .ref h0), (2, .int y2_39), (4, .int y4_39)]) hx hb dX12_path_67 rfl hl (by decide) rfl (fun ls hl => ?_)
        obtain ⟨x_17, ex_17⟩ : ∃ y : Int32, y = y4_39 + (-1) := ⟨_, rfl⟩
        have rx_17 : rgI (-1) (21) x_17 := by rw [ex_17]; exact rg_w (rg_add r_3 rl_m1 (by decide) (by decide)) (by decide) (by decide)
        have qx_17 : x_17.toInt = (y4_39 : Int32).toInt + (-1) := by rw [ex_17]; exact rg_addE r_3 rl_m1 (by decide) (by decide)
        refine lv_iinc (v := x_17) (lv' := [(4, .int x_17), (3, .int x_16), (0, .ref h0), (2, .int y2_39)]) hx hb dX12_path_68 hl (k := 3) rfl (by rw [ex_17]; rfl) (by decide) rfl (fun ls hl => ?_)
        refine lv_goto (tgt := 39) hx hb dX12_path_71 (by decide) ?_
        exact ih_39 H locs G_39 y2_39 x_16 x_17 ls (rg_w rg104_39 (by decide) (by decide)) frL_39 ry2_39 (rg_w rx_17 (by decide) (by decide)) hi0_39 (up_s hT hi0_39 hi2_39 hi1_39 r_3.1 (by have q1 := hi3_39; omega) qx_17 ex_16) hi2_39 (by have q := qx_17; have q1 := hi3_39; omega) (by have h1 := qx_17; have h2 := r_3.1; have h3 := r_3.2; have h4 := hm_39; omega) (lv_sub hl [2, 3, 1, 0] rfl) hH hS
  refine lv_aload_n hx hb dX12_path_0 rfl (lv_at hl 0 rfl) ?_
  refine lv_iconst (v := 0) hx hb dX12_path_1 (by decide) ?_
  obtain ⟨_, ⟨rfl, t_19, hk_20⟩, o_c_18⟩ := hH h0 _ k_h0
  refine hg_put (ty := .int) hx hb hG igX12 tyX12 tyX12_ok nmX12 hown hK hS o_c_18 (AF.of k_h0) rfl 5 (by decide) (hG _ mw_1289) rfl (by decide +kernel) rfl rfl (Nat.le_of_ble_eq_true rfl) dX12_path_2 (fun H locs o_c_18 hz oq hS => ?_)
  obtain ⟨G_21, eG_21⟩ : ∃ z : Gh, z = gset G 105 0 := ⟨_, rfl⟩
  have hH : HT g Ty G_21 H := by rw [eG_21]; exact HT.putN 105 0 hH k_h0 ⟨rfl, t_19, hk_20⟩ o_c_18 oq (Or.inr (Or.inr (Or.inr (Or.inr (Or.inr ⟨by decide, t_19⟩)))))
  have fr_22 : FR [104, 105] [] [] G G_21 := FR.n FR.rf eG_21 (by decide)
  have u_23 : G_21.1 102 = (G.1 102) := by rw [eG_21]; exact (gs_ne (by decide))
  have u_24 : G_21.1 104 = (G.1 104) := by rw [eG_21]; exact (gs_ne (by decide))
  have u_25 : G_21.1 113 = (G.1 113) := by rw [eG_21]; exact (gs_ne (by decide))
  have u_26 : G_21.1 122 = (G.1 122) := by rw [eG_21]; exact (gs_ne (by decide))
  have u_27 : G_21.1 133 = (G.1 133) := by rw [eG_21]; exact (gs_ne (by decide))
  have u_28 : G_21.1 137 = (G.1 137) := by rw [eG_21]; exact (gs_ne (by decide))
  have u_29 : G_21.1 105 = 0 := by rw [eG_21]; exact gs_eq
  have w_30 : G_21.2.1 (g.2.2 100) = (G.2.1 (g.2.2 100)) := by rw [eG_21]; exact rfl
  have w_31 : G_21.2.1 (g.2.2 121) = (G.2.1 (g.2.2 121)) := by rw [eG_21]; exact rfl
  have w_32 : G_21.2.1 (g.2.2 140) = (G.2.1 (g.2.2 140)) := by rw [eG_21]; exact rfl
  have w_33 : G_21.2.1 (g.2.2 141) = (G.2.1 (g.2.2 141)) := by rw [eG_21]; exact rfl
  have w_34 : G_21.2.1 (g.2.2 111) = (G.2.1 (g.2.2 111)) := by rw [eG_21]; exact rfl
  have u_35 : G_21.2.2 111 = some (g.2.2 111) := by rw [eG_21]; exact hI.r111
  have u_36 : G_21.2.2 112 = some (g.2.2 112) := by rw [eG_21]; exact hI.r112
  clear oq hz
  refine lv_aload_n hx hb dX12_path_5 rfl (lv_at hl 0 rfl) ?_
  obtain ⟨_, ⟨rfl, t_38, hk_39⟩, o_c_37⟩ := hH h0 _ k_h0
  refine hg_get hx hb hG igX12 hown hK o_c_37 rfl 0 (by decide) (hG _ mw_1284) rfl dX12_path_6 ?_
  refine lv_iload_n hx hb dX12_path_9 rfl (lv_at hl 1 rfl) ?_
  refine vp_callSi (W.runS (As := [.ref (g.2.2 100), .int a0]) (rest := []) ⟨hx, hb, hml, hown, hts⟩ (c_X12_isThere l g Ty G_21 (g.2.2 100) a0 (hk_39.1)) (cwSx 2 hts hG (gwC mw_1520) mw_88 mw_1518 mw_1519 rfl rfl rfl hd_X12_isThere ⟨Nat.le_of_ble_eq_true rfl, Nat.le_of_ble_eq_true rfl⟩) ⟨PcH_blind, PcH_pre hK hH⟩ rfl rfl hl.1 rfl (lv_room (Nat.le_of_ble_eq_true rfl)) dX12_path_10 ⟨Nat.zero_le _, Nat.zero_le _⟩) (fun x_40 hx_40 => ?_)
  have rx_40 : rgI (0) (1) x_40 := hx_40.1
  have ex_41 : x_40 = F_X12_isThere (G.2.1 (g.2.2 100)) a0 := by rw [← w_30]; exact hx_40.2.2
  refine lv_if_ne (tgt := 18) hx hb dX12_path_13 (by decide) (fun c_42 => ?_) (fun c_42 => ?_)
  · have th_43 : thr (G.2.1 (g.2.2 100)) a0 := F_isThere_thr (by rw [← ex_41]; exact c_42)
    have r_44 : rgI (1) (1) x_40 := rg_w (rg_neL rx_40 rl_0 c_42) (by decide) (by decide)
    have r_45 : rgI (0) (23) a0 := rg_w (hx_40.2.1.resolve_left c_42) (by decide) (by decide)
    refine lv_aload_n hx hb dX12_path_18 rfl (lv_at hl 0 rfl) ?_
    refine hg_get hx hb hG igX12 hown hK o_c_37 rfl 0 (by decide) (hG _ mw_1284) rfl dX12_path_19 ?_
    refine lv_iload_n hx hb dX12_path_22 rfl (lv_at hl 1 rfl) ?_
    refine vp_callSi (W.runS (As := [.ref (g.2.2 100), .int a0]) (rest := []) ⟨hx, hb, hml, hown, hts⟩ (c_X12_stepsOf l g Ty G_21 (g.2.2 100) a0 (hk_39.1) ρ (by rw [w_30]; exact hT) (by rw [w_30]; exact th_43)) (cwSx 2 hts hG (gwC mw_1530) mw_88 mw_1528 mw_1529 rfl rfl rfl hd_X12_stepsOf ⟨Nat.le_of_ble_eq_true rfl, Nat.le_of_ble_eq_true rfl⟩) ⟨PcH_blind, PcH_pre hK hH⟩ rfl rfl hl.1 rfl (lv_room (Nat.le_of_ble_eq_true rfl)) dX12_path_23 ⟨Nat.zero_le _, Nat.zero_le _⟩) (fun x_46 hx_46 => ?_)
    have rx_46 : rgI (0) (23) x_46 := hx_46.1
    have ex_47 : x_46 = F_X12_stepsOf (G.2.1 (g.2.2 100)) a0 := by rw [← w_30]; exact hx_46.2
    refine lv_istore_n (lv' := [(2, .int x_46), (0, .ref h0), (1, .int a0)]) hx hb dX12_path_26 rfl hl (by decide) rfl (fun ls hl => ?_)
    refine lv_aload_n hx hb dX12_path_27 rfl (lv_at hl 1 rfl) ?_
    refine lv_iload_n hx hb dX12_path_28 rfl (lv_at hl 0 rfl) ?_
    refine hg_put (ty := .int) hx hb hG igX12 tyX12 tyX12_ok nmX12 hown hK hS o_c_37 (AF.of k_h0) rfl 4 (by decide) (hG _ mw_1288) rfl (by decide +kernel) rfl rfl (Nat.le_of_ble_eq_true rfl) dX12_path_29 (fun H locs o_c_37 hz oq hS => ?_)
    obtain ⟨G_48, eG_48⟩ : ∃ z : Gh, z = gset G_21 104 x_46 := ⟨_, rfl⟩
    have hH : HT g Ty G_48 H := by rw [eG_48]; exact HT.putN 104 x_46 hH k_h0 ⟨rfl, t_38, hk_39⟩ o_c_37 oq (Or.inr (Or.inr (Or.inr (Or.inr (Or.inr ⟨by decide, t_38⟩)))))
    have fr_49 : FR [104, 105] [] [] G G_48 := FR.n fr_22 eG_48 (by decide)
    have u_50 : G_48.1 102 = (G.1 102) := by rw [eG_48]; exact (gs_ne (by decide)).trans u_23
    have u_51 : G_48.1 113 = (G.1 113) := by rw [eG_48]; exact (gs_ne (by decide)).trans u_25
    have u_52 : G_48.1 122 = (G.1 122) := by rw [eG_48]; exact (gs_ne (by decide)).trans u_26
    have u_53 : G_48.1 133 = (G.1 133) := by rw [eG_48]; exact (gs_ne (by decide)).trans u_27
    have u_54 : G_48.1 137 = (G.1 137) := by rw [eG_48]; exact (gs_ne (by decide)).trans u_28
    have u_55 : G_48.1 105 = 0 := by rw [eG_48]; exact (gs_ne (by decide)).trans u_29
    have u_56 : G_48.1 104 = x_46 := by rw [eG_48]; exact gs_eq
    have w_57 : G_48.2.1 (g.2.2 100) = (G.2.1 (g.2.2 100)) := by rw [eG_48]; exact w_30
    have w_58 : G_48.2.1 (g.2.2 121) = (G.2.1 (g.2.2 121)) := by rw [eG_48]; exact w_31
    have w_59 : G_48.2.1 (g.2.2 140) = (G.2.1 (g.2.2 140)) := by rw [eG_48]; exact w_32
    have w_60 : G_48.2.1 (g.2.2 141) = (G.2.1 (g.2.2 141)) := by rw [eG_48]; exact w_33
    have w_61 : G_48.2.1 (g.2.2 111) = (G.2.1 (g.2.2 111)) := by rw [eG_48]; exact w_34
    have u_62 : G_48.2.2 111 = some (g.2.2 111) := by rw [eG_48]; exact u_35
    have u_63 : G_48.2.2 112 = some (g.2.2 112) := by rw [eG_48]; exact u_36
    clear oq hz
    refine lv_iload_n hx hb dX12_path_32 rfl (lv_at hl 2 rfl) ?_
    refine lv_istore_n (lv' := [(3, .int a0), (2, .int x_46), (0, .ref h0), (1, .int a0)]) hx hb dX12_path_33 rfl hl (by decide) rfl (fun ls hl => ?_)
    refine lv_iload_n hx hb dX12_path_34 rfl (lv_at hl 1 rfl) ?_
    refine lv_iconst (v := 1) hx hb dX12_path_35 (by decide) ?_
    refine lv_isub hx hb dX12_path_36 ?_
    refine lv_topi (fun x_64 ex_64 => ?_)
    have rx_64 : rgI (-1) (22) x_64 := by rw [ex_64]; exact rg_w (rg_sub rx_46 rl_1 (by decide) (by decide)) (by decide) (by decide)
    refine lv_istore (lv' := [(4, .int x_64), (3, .int a0), (2, .int x_46), (0, .ref h0), (1, .int a0)]) hx hb dX12_path_37 hl (by decide) rfl (fun ls hl => ?_)
    exact L_39 _ H locs G_48 x_46 a0 x_64 ls (by rw [u_56]; exact rg_w rx_46 (by decide) (by decide)) fr_49 rx_46 rx_64 (steps_is hT th_43 ex_47) (pa_0 th_43 rx_46 ex_64) th_43 (pa_1 rx_46 ex_64) (Nat.lt_succ_self _) (lv_sub hl [3, 2, 1, 0] rfl) hH hS
  · have r_65 : rgI (0) (0) x_40 := rg_w (rg_eq rl_0 c_42) (by decide) (by decide)
    refine lv_iconst (v := (-1)) hx hb dX12_path_16 (by decide) ?_
    exact W.iret hx hb hr (fun t ht hWm => ⟨⟨(-1), (Ty, G_21), rfl, ⟨rfl, ⟨fr_22, ⟨(by rw [u_23]; exact (rg_w hI.a102 (by decide) (by decide))), (by rw [u_24]; exact (rg_w hI.a104 (by decide) (by decide))), (by rw [u_25]; exact (rg_w hI.a113 (by decide) (by decide))), (by rw [u_26]; exact (rg_w hI.a122 (by decide) (by decide))), (by rw [u_27]; exact (rg_w hI.a133 (by decide) (by decide))), (by rw [u_28]; exact (rg_w hI.a137 (by decide) (by decide))), u_35, u_36, (by rw [w_30]; exact (hI.ti.hi (show Bd ≤ Bd + 1000 by omega))), (hI.un2 (show Bd ≤ Bd + 1000 by omega) w_31 u_26), (hI.ke2 (show Bd ≤ Bd + 1000 by omega) w_32 w_33)⟩⟩⟩, by show HT g Ty G_21 t.heap; rw [ht]; exact hH⟩, hS.F ht⟩) hS.2.2 dX12_path_17

set_option maxHeartbeats 4000000 in
set_option maxRecDepth 100000 in
theorem c_X12_masters (l : Launch) (g : Gx) (Ty : TyM) (G : Gh) (sz : Nat) (h0 : Nat) (a0 : Int32) (k_h0 : Ty h0 = some (22, 0)) (Bd : Int) (hI : OI g Bd G) (hBd : Bd ≤ 1900000) (hLD : LD g) : Met l yX12_masters (wsG yX12_masters cX12_masters 5 (some .int)) ({ frames := 3, cells := 0, slots := 0, locals := 66 }) (PcT g Ty G sz [.ref h0, .int a0]) (QwI g Ty sz (fun r u => u.1 = Ty ∧ FR [104, 105] [] [] G u.2 ∧ OI g (Bd + 1000) u.2)) 0 0 (AF Ty sz) := by
  refine Met.ofW (cc := cX12_masters) (maxL := 5) (ret := (some .int)) (by decide) rfl ?_
  intro p e s m args below meth c s₁ B hml hv
  obtain ⟨rfl, hsz, hK, hH⟩ := hv
  subst hsz
  have hx := B.exec
  have hb := B.bytes
  have hr := B.returns
  have hts := atoms_spec (ws := (wsG yX12_masters cX12_masters 5 (some .int))) B.pre
  have hG : ∀ w ∈ GW, w.before ([.ref h0, .int a0] : List Value).toArray s = true := fun w h => hts w (List.mem_cons_of_mem _ h)
  have hown : s.vm.findClass RX12 = some m.cls := findClass_of_methodNamed B.named
  have hlocks := B.notSynchronized
  have hl := lv_entry [.ref h0, .int a0] (n := 5) (Nat.le_of_ble_eq_true rfl)
  rw [lg_entry_eq]
  generalize (lg_sl [.ref h0, .int a0] ++ List.replicate (5 - (lg_sl [.ref h0, .int a0]).length) Slot.unset).toArray = ls at hl ⊢
  have hl : lv_has ls 5 [(0, .ref h0), (1, .int a0)] := hl
  have hmk : mdK g Ty := mdk_of hH k_h0
  have hS : va_S (AF Ty s.heap.size) s.heap s.heap [] := va_S.rf
  obtain ⟨⟨σ0, hTS0⟩, h10, hBB0⟩ := id hI.ti
  obtain ⟨ρ, hT⟩ := hTS0.1
  have L_27 : ∀ (n : Nat) (H : Heap) (locs : List Loc) (G_27 : Gh) (y2_27 : Int32) (y3_27 : Int32) (ls : Array Slot), rgI (0) (24) (G_27.1 104) → FR [104, 105] [] [] G G_27 → rgI (0) (1) y3_27 → thr (G.2.1 (g.2.2 100)) y2_27 → (G_27.1 104).toInt + (pm (G.2.1 (g.2.2 100)) σ0 (y2_27 : Int32).toNatClampNeg : Int) ≤ 24 → 2 * pm (G.2.1 (g.2.2 100)) σ0 (y2_27 : Int32).toNatClampNeg + (y3_27 : Int32).toInt.toNat < n → lv_has ls 5 [(0, .ref h0), (2, .int y2_27), (3, .int y3_27)] → HT g Ty G_27 H → va_S (AF Ty s.heap.size) s.heap H locs → Wm p l e (wsG yX12_masters cX12_masters 5 (some .int)) ({ frames := 3, cells := 0, slots := 0, locals := 66 }) s m [.ref h0, .int a0] below meth c H locs (0) (0) (QwI g Ty s.heap.size (fun r u => u.1 = Ty ∧ FR [104, 105] [] [] G u.2 ∧ OI g (Bd + 1000) u.2)) 0 0 (AF Ty s.heap.size) (F0 m 27 ls []) := by
    intro n
    induction n with
    | zero => intro H locs G_27 y2_27 y3_27 ls rg104_27 frL_27 ry3_27 hi0_27 hi1_27 hm; exact absurd hm (Nat.not_lt_zero _)
    | succ n ih_27 =>
      intro H locs G_27 y2_27 y3_27 ls rg104_27 frL_27 ry3_27 hi0_27 hi1_27 hm_27 hl hH hS
      refine lv_iload_n hx hb dX12_masters_27 rfl (lv_at hl 2 rfl) ?_
      refine lv_if_eq (tgt := 98) hx hb dX12_masters_28 (by decide) (fun c_1 => ?_) (fun c_1 => ?_)
      · have r_2 : rgI (0) (0) y3_27 := rg_w (rg_eq rl_0 c_1) (by decide) (by decide)
        refine lv_aload_n hx hb dX12_masters_98 rfl (lv_at hl 0 rfl) ?_
        obtain ⟨_, ⟨rfl, t_4, hk_5⟩, o_c_3⟩ := hH h0 _ k_h0
        refine hg_get hx hb hG igX12 hown hK o_c_3 rfl 4 (by decide) (hG _ mw_1288) rfl dX12_masters_99 ?_
        exact W.iret hx hb hr (fun t ht hWm => ⟨⟨(G_27.1 104), (Ty, G_27), rfl, ⟨rfl, ⟨frL_27, ⟨(by rw [(frL_27.1 102 (by decide))]; exact (rg_w hI.a102 (by decide) (by decide))), (rg_w rg104_27 (by decide) (by decide)), (by rw [(frL_27.1 113 (by decide))]; exact (rg_w hI.a113 (by decide) (by decide))), (by rw [(frL_27.1 122 (by decide))]; exact (rg_w hI.a122 (by decide) (by decide))), (by rw [(frL_27.1 133 (by decide))]; exact (rg_w hI.a133 (by decide) (by decide))), (by rw [(frL_27.1 137 (by decide))]; exact (rg_w hI.a137 (by decide) (by decide))), ((frL_27.2.2 111 (by decide)).trans hI.r111), ((frL_27.2.2 112 (by decide)).trans hI.r112), (by rw [(frL_27.2.1 (g.2.2 100) trivial)]; exact (hI.ti.hi (show Bd ≤ Bd + 1000 by omega))), (hI.un2 (show Bd ≤ Bd + 1000 by omega) (frL_27.2.1 (g.2.2 121) trivial) (frL_27.1 122 (by decide))), (hI.ke2 (show Bd ≤ Bd + 1000 by omega) (frL_27.2.1 (g.2.2 140) trivial) (frL_27.2.1 (g.2.2 141) trivial))⟩⟩⟩, by show HT g Ty G_27 t.heap; rw [ht]; exact hH⟩, hS.F ht⟩) hS.2.2 dX12_masters_102
      · have r_6 : rgI (1) (1) y3_27 := rg_w (rg_neL ry3_27 rl_0 c_1) (by decide) (by decide)
        refine lv_aload_n hx hb dX12_masters_31 rfl (lv_at hl 0 rfl) ?_
        obtain ⟨_, ⟨rfl, t_8, hk_9⟩, o_c_7⟩ := hH h0 _ k_h0
        refine hg_get hx hb hG igX12 hown hK o_c_7 rfl 0 (by decide) (hG _ mw_1284) rfl dX12_masters_32 ?_
        refine lv_bipush (v := 72) hx hb dX12_masters_35 (by decide) ?_
        refine lv_iload_n hx hb dX12_masters_37 rfl (lv_at hl 1 rfl) ?_
        refine lv_iadd hx hb dX12_masters_38 ?_
        refine lv_topi (fun x_10 ex_10 => ?_)
        obtain ⟨_, rfl, o_c_11⟩ := hH (g.2.2 100) _ hk_9.1
        have o_c_11 : va_at g.1 vwCl ((g.2.2 100), .inl (g.2.1 1, 122, .inl (G_27.2.1 (g.2.2 100)))) H := o_c_11
        have in_12 : vp_in x_10 122 := (ix72 hi0_27 ex_10).1
        refine hg_iald hx hb hK o_c_11 in_12 dX12_masters_39 ?_
        rw [(frL_27.2.1 (g.2.2 100) trivial)]
        refine lv_topi (fun x_13 ex_13 => ?_)
        refine lv_if_ne (tgt := 47) hx hb dX12_masters_40 (by decide) (fun c_14 => ?_) (fun c_14 => ?_)
        · refine lv_aload_n hx hb dX12_masters_47 rfl (lv_at hl 0 rfl) ?_
          refine hg_get hx hb hG igX12 hown hK o_c_7 rfl 0 (by decide) (hG _ mw_1284) rfl dX12_masters_48 ?_
          refine lv_aload_n hx hb dX12_masters_51 rfl (lv_at hl 0 rfl) ?_
          refine hg_get hx hb hG igX12 hown hK o_c_7 rfl 0 (by decide) (hG _ mw_1284) rfl dX12_masters_52 ?_
          refine lv_bipush (v := 72) hx hb dX12_masters_55 (by decide) ?_
          refine lv_iload_n hx hb dX12_masters_57 rfl (lv_at hl 1 rfl) ?_
          refine lv_iadd hx hb dX12_masters_58 ?_
          refine lv_topi (fun x_15 ex_15 => ?_)
          have in_16 : vp_in x_15 122 := (ix72 hi0_27 ex_15).1
          refine hg_iald hx hb hK o_c_11 in_16 dX12_masters_59 ?_
          rw [(frL_27.2.1 (g.2.2 100) trivial)]
          refine lv_topi (fun x_17 ex_17 => ?_)
          refine vp_callSi (W.runS (As := [.ref (g.2.2 100), .int x_17]) (rest := []) ⟨hx, hb, hml, hown, hts⟩ (c_X12_inGroup l g Ty G_27 (g.2.2 100) x_17 (hk_9.1)) (cwSx 2 hts hG (gwC mw_1566) mw_88 mw_1564 mw_1565 rfl rfl rfl hd_X12_inGroup ⟨Nat.le_of_ble_eq_true rfl, Nat.le_of_ble_eq_true rfl⟩) ⟨PcH_blind, PcH_pre hK hH⟩ rfl rfl hl.1 rfl (lv_room (Nat.le_of_ble_eq_true rfl)) dX12_masters_60 ⟨Nat.zero_le _, Nat.zero_le _⟩) (fun x_18 hx_18 => ?_)
          have ex_19 : x_18 = F_X12_inGroup (G.2.1 (g.2.2 100)) x_17 := by rw [← (frL_27.2.1 (g.2.2 100) trivial)]; exact hx_18
          refine lv_istore (lv' := [(4, .int x_18), (0, .ref h0), (2, .int y2_27), (3, .int y3_27)]) hx hb dX12_masters_63 hl (by decide) rfl (fun ls hl => ?_)
          refine lv_iload hx hb dX12_masters_65 (lv_at hl 0 rfl) ?_
          refine lv_if_eq (tgt := 74) hx hb dX12_masters_67 (by decide) (fun c_20 => ?_) (fun c_20 => ?_)
          · have r_21 : rgI (0) (0) x_18 := rg_w (rg_eq rl_0 c_20) (by decide) (by decide)
            refine lv_iconst (v := 0) hx hb dX12_masters_74 (by decide) ?_
            refine lv_istore_n (lv' := [(3, .int 0), (4, .int x_18), (0, .ref h0), (2, .int y2_27)]) hx hb dX12_masters_75 rfl hl (by decide) rfl (fun ls hl => ?_)
            refine lv_iload_n hx hb dX12_masters_76 rfl (lv_at hl 0 rfl) ?_
            refine lv_if_ne (tgt := 83) hx hb dX12_masters_77 (by decide) (fun c_22 => ?_) (fun c_22 => ?_)
            · exact absurd rfl c_22
            · refine lv_goto (tgt := 27) hx hb dX12_masters_80 (by decide) ?_
              exact ih_27 H locs G_27 y2_27 0 ls (rg_w rg104_27 (by decide) (by decide)) frL_27 (rg_w rl_0 (by decide) (by decide)) hi0_27 hi1_27 (by have q1 := hm_27; have q2 := r_6.1; have q3 : (0 : Int32).toInt.toNat = 0 := rfl; show 2 * _ + (0 : Int32).toInt.toNat < _; omega) (lv_sub hl [2, 3, 0] rfl) hH hS
          · refine lv_iconst (v := 1) hx hb dX12_masters_70 (by decide) ?_
            refine lv_goto (tgt := 75) hx hb dX12_masters_71 (by decide) ?_
            refine lv_istore_n (lv' := [(3, .int 1), (4, .int x_18), (0, .ref h0), (2, .int y2_27)]) hx hb dX12_masters_75 rfl hl (by decide) rfl (fun ls hl => ?_)
            refine lv_iload_n hx hb dX12_masters_76 rfl (lv_at hl 0 rfl) ?_
            refine lv_if_ne (tgt := 83) hx hb dX12_masters_77 (by decide) (fun c_23 => ?_) (fun c_23 => ?_)
            · refine lv_iload hx hb dX12_masters_83 (lv_at hl 1 rfl) ?_
              refine vp_callSi (W.runS (As := [.int x_18]) (rest := []) ⟨hx, hb, hml, hown, hts⟩ (c_J6_ntz_x l g Ty G_27 x_18 ) (cwSx 1 hts hG (gwC mw_1718) mw_99 mw_1716 mw_1717 rfl rfl rfl hd_J6_numberOfTrailingZeros_0f7a4 ⟨Nat.le_of_ble_eq_true rfl, Nat.le_of_ble_eq_true rfl⟩) ⟨PcH_blind, PcH_pre hK hH⟩ rfl rfl hl.1 rfl (lv_room (Nat.le_of_ble_eq_true rfl)) dX12_masters_85 ⟨Nat.zero_le _, Nat.zero_le _⟩) (fun x_24 hx_24 => ?_)
              refine lv_istore_n (lv' := [(2, .int x_24), (3, .int 1), (4, .int x_18), (0, .ref h0)]) hx hb dX12_masters_88 rfl hl (by decide) rfl (fun ls hl => ?_)
              have pm_25 := pm_s hTS0.2.1 hi0_27 (by rw [ex_17, (ix72 hi0_27 ex_15).2]) (by rw [ex_17, ex_15, ← ex_10, ← ex_13]; exact c_14) ex_19 c_20 hx_24
              have r4_26 : rgI 0 23 (G_27.1 104) := ⟨(rg104_27).1, by have q := hi1_27; have q2 := pm_25.2; omega⟩
              refine lv_aload_n hx hb dX12_masters_89 rfl (lv_at hl 3 rfl) ?_
              refine lv_iload_n hx hb dX12_masters_90 rfl (lv_at hl 0 rfl) ?_
              refine lv_i2l hx hb dX12_masters_91 rfl ?_
              refine lv_topl (fun u_27 eu_27 => ?_)
              refine va_callv (va_runV (As := [.long u_27]) (rest := []) ⟨hx, hb, hml, hown, hts⟩ (c_X12_tell l g Ty G_27 H.size h0 u_27 k_h0 (rg_w r4_26 (by decide) (by decide))) (cwV 1 hts (gwV mw_1510 mw_1512 mw_48 mw_88 mw_1513) rfl rfl rfl hv_X12_tell ⟨Nat.le_of_ble_eq_true rfl, Nat.le_of_ble_eq_true rfl⟩) ⟨PcT_blind, hg_recv hK o_c_7 rfl, PcT_pre hK hH⟩ rfl rfl hl.1 rfl (lv_room (Nat.le_of_ble_eq_true rfl)) dX12_masters_92 ⟨Nat.zero_le _, Nat.zero_le _⟩) hS (fun q _ h => AF.mono hS.1 h) (fun q h => AF.mono hS.1 h) (fun ux_28 t H locs ht hvm hx_28 hB hz hk hS => ?_)
              obtain ⟨eTx_28, eGx_28⟩ := hx_28
              obtain ⟨G_29, eG_29⟩ : ∃ z, z = ux_28.2 := ⟨_, rfl⟩
              rw [← eG_29] at eGx_28
              obtain ⟨x_30, ex_30⟩ : ∃ z : Int32, z = (G_27.1 104) + 1 := ⟨_, rfl⟩
              have e_31 : G_29 = gset G_27 104 x_30 := by rw [ex_30]; exact eGx_28
              have rx_30 : rgI (1) (24) x_30 := by rw [ex_30]; exact rg_w (rg_add r4_26 rl_1 (by decide) (by decide)) (by decide) (by decide)
              have fr_32 : FR [104, 105] [] [] G G_29 := FR.n frL_27 e_31 (by decide)
              have u_33 : G_29.1 102 = (G.1 102) := by rw [e_31]; exact (gs_ne (by decide)).trans (frL_27.1 102 (by decide))
              have u_34 : G_29.1 113 = (G.1 113) := by rw [e_31]; exact (gs_ne (by decide)).trans (frL_27.1 113 (by decide))
              have u_35 : G_29.1 122 = (G.1 122) := by rw [e_31]; exact (gs_ne (by decide)).trans (frL_27.1 122 (by decide))
              have u_36 : G_29.1 133 = (G.1 133) := by rw [e_31]; exact (gs_ne (by decide)).trans (frL_27.1 133 (by decide))
              have u_37 : G_29.1 137 = (G.1 137) := by rw [e_31]; exact (gs_ne (by decide)).trans (frL_27.1 137 (by decide))
              have u_38 : G_29.1 104 = x_30 := by rw [e_31]; exact gs_eq
              have w_39 : G_29.2.1 (g.2.2 100) = (G.2.1 (g.2.2 100)) := by rw [e_31]; exact (frL_27.2.1 (g.2.2 100) trivial)
              have w_40 : G_29.2.1 (g.2.2 121) = (G.2.1 (g.2.2 121)) := by rw [e_31]; exact (frL_27.2.1 (g.2.2 121) trivial)
              have w_41 : G_29.2.1 (g.2.2 140) = (G.2.1 (g.2.2 140)) := by rw [e_31]; exact (frL_27.2.1 (g.2.2 140) trivial)
              have w_42 : G_29.2.1 (g.2.2 141) = (G.2.1 (g.2.2 141)) := by rw [e_31]; exact (frL_27.2.1 (g.2.2 141) trivial)
              have w_43 : G_29.2.1 (g.2.2 111) = (G.2.1 (g.2.2 111)) := by rw [e_31]; exact (frL_27.2.1 (g.2.2 111) trivial)
              have u_44 : G_29.2.2 111 = some (g.2.2 111) := by rw [e_31]; exact ((frL_27.2.2 111 (by decide)).trans hI.r111)
              have u_45 : G_29.2.2 112 = some (g.2.2 112) := by rw [e_31]; exact ((frL_27.2.2 112 (by decide)).trans hI.r112)
              have hH : HT g Ty G_29 H := by rw [← ht, ← eTx_28, eG_29]; exact hB
              refine lv_goto (tgt := 27) hx hb dX12_masters_95 (by decide) ?_
              exact ih_27 H locs G_29 x_24 1 ls (by rw [u_38]; exact rg_w rx_30 (by decide) (by decide)) fr_32 (rg_w rl_1 (by decide) (by decide)) pm_25.1 (by rw [u_38]; exact ma_r hi1_27 (rg104_27).1 pm_25.2 ex_30) (by have q1 := hm_27; have q2 := pm_25.2; have q3 : (1 : Int32).toInt.toNat = 1 := rfl; show 2 * _ + (1 : Int32).toInt.toNat < _; omega) (lv_sub hl [3, 0, 1] rfl) hH hS
            · exact rg_noE rl_1 rl_0 c_23 (by decide)
        · have r_46 : rgI (0) (0) x_13 := rg_w (rg_eq rl_0 c_14) (by decide) (by decide)
          refine lv_iconst (v := 0) hx hb dX12_masters_43 (by decide) ?_
          refine lv_goto (tgt := 63) hx hb dX12_masters_44 (by decide) ?_
          refine lv_istore (lv' := [(4, .int 0), (0, .ref h0), (2, .int y2_27), (3, .int y3_27)]) hx hb dX12_masters_63 hl (by decide) rfl (fun ls hl => ?_)
          refine lv_iload hx hb dX12_masters_65 (lv_at hl 0 rfl) ?_
          refine lv_if_eq (tgt := 74) hx hb dX12_masters_67 (by decide) (fun c_47 => ?_) (fun c_47 => ?_)
          · refine lv_iconst (v := 0) hx hb dX12_masters_74 (by decide) ?_
            refine lv_istore_n (lv' := [(3, .int 0), (4, .int 0), (0, .ref h0), (2, .int y2_27)]) hx hb dX12_masters_75 rfl hl (by decide) rfl (fun ls hl => ?_)
            refine lv_iload_n hx hb dX12_masters_76 rfl (lv_at hl 0 rfl) ?_
            refine lv_if_ne (tgt := 83) hx hb dX12_masters_77 (by decide) (fun c_48 => ?_) (fun c_48 => ?_)
            · exact absurd rfl c_48
            · refine lv_goto (tgt := 27) hx hb dX12_masters_80 (by decide) ?_
              exact ih_27 H locs G_27 y2_27 0 ls (rg_w rg104_27 (by decide) (by decide)) frL_27 (rg_w rl_0 (by decide) (by decide)) hi0_27 hi1_27 (by have q1 := hm_27; have q2 := r_6.1; have q3 : (0 : Int32).toInt.toNat = 0 := rfl; show 2 * _ + (0 : Int32).toInt.toNat < _; omega) (lv_sub hl [2, 3, 0] rfl) hH hS
          · exact absurd rfl c_47
  refine lv_aload_n hx hb dX12_masters_0 rfl (lv_at hl 0 rfl) ?_
  refine lv_iconst (v := 0) hx hb dX12_masters_1 (by decide) ?_
  obtain ⟨_, ⟨rfl, t_50, hk_51⟩, o_c_49⟩ := hH h0 _ k_h0
  refine hg_put (ty := .int) hx hb hG igX12 tyX12 tyX12_ok nmX12 hown hK hS o_c_49 (AF.of k_h0) rfl 5 (by decide) (hG _ mw_1289) rfl (by decide +kernel) rfl rfl (Nat.le_of_ble_eq_true rfl) dX12_masters_2 (fun H locs o_c_49 hz oq hS => ?_)
  obtain ⟨G_52, eG_52⟩ : ∃ z : Gh, z = gset G 105 0 := ⟨_, rfl⟩
  have hH : HT g Ty G_52 H := by rw [eG_52]; exact HT.putN 105 0 hH k_h0 ⟨rfl, t_50, hk_51⟩ o_c_49 oq (Or.inr (Or.inr (Or.inr (Or.inr (Or.inr ⟨by decide, t_50⟩)))))
  have fr_53 : FR [104, 105] [] [] G G_52 := FR.n FR.rf eG_52 (by decide)
  have u_54 : G_52.1 102 = (G.1 102) := by rw [eG_52]; exact (gs_ne (by decide))
  have u_55 : G_52.1 104 = (G.1 104) := by rw [eG_52]; exact (gs_ne (by decide))
  have u_56 : G_52.1 113 = (G.1 113) := by rw [eG_52]; exact (gs_ne (by decide))
  have u_57 : G_52.1 122 = (G.1 122) := by rw [eG_52]; exact (gs_ne (by decide))
  have u_58 : G_52.1 133 = (G.1 133) := by rw [eG_52]; exact (gs_ne (by decide))
  have u_59 : G_52.1 137 = (G.1 137) := by rw [eG_52]; exact (gs_ne (by decide))
  have u_60 : G_52.1 105 = 0 := by rw [eG_52]; exact gs_eq
  have w_61 : G_52.2.1 (g.2.2 100) = (G.2.1 (g.2.2 100)) := by rw [eG_52]; exact rfl
  have w_62 : G_52.2.1 (g.2.2 121) = (G.2.1 (g.2.2 121)) := by rw [eG_52]; exact rfl
  have w_63 : G_52.2.1 (g.2.2 140) = (G.2.1 (g.2.2 140)) := by rw [eG_52]; exact rfl
  have w_64 : G_52.2.1 (g.2.2 141) = (G.2.1 (g.2.2 141)) := by rw [eG_52]; exact rfl
  have w_65 : G_52.2.1 (g.2.2 111) = (G.2.1 (g.2.2 111)) := by rw [eG_52]; exact rfl
  have u_66 : G_52.2.2 111 = some (g.2.2 111) := by rw [eG_52]; exact hI.r111
  have u_67 : G_52.2.2 112 = some (g.2.2 112) := by rw [eG_52]; exact hI.r112
  clear oq hz
  refine lv_aload_n hx hb dX12_masters_5 rfl (lv_at hl 0 rfl) ?_
  obtain ⟨_, ⟨rfl, t_69, hk_70⟩, o_c_68⟩ := hH h0 _ k_h0
  refine hg_get hx hb hG igX12 hown hK o_c_68 rfl 0 (by decide) (hG _ mw_1284) rfl dX12_masters_6 ?_
  refine lv_iload_n hx hb dX12_masters_9 rfl (lv_at hl 1 rfl) ?_
  refine vp_callSi (W.runS (As := [.ref (g.2.2 100), .int a0]) (rest := []) ⟨hx, hb, hml, hown, hts⟩ (c_X12_isThere l g Ty G_52 (g.2.2 100) a0 (hk_70.1)) (cwSx 2 hts hG (gwC mw_1520) mw_88 mw_1518 mw_1519 rfl rfl rfl hd_X12_isThere ⟨Nat.le_of_ble_eq_true rfl, Nat.le_of_ble_eq_true rfl⟩) ⟨PcH_blind, PcH_pre hK hH⟩ rfl rfl hl.1 rfl (lv_room (Nat.le_of_ble_eq_true rfl)) dX12_masters_10 ⟨Nat.zero_le _, Nat.zero_le _⟩) (fun x_71 hx_71 => ?_)
  have rx_71 : rgI (0) (1) x_71 := hx_71.1
  have ex_72 : x_71 = F_X12_isThere (G.2.1 (g.2.2 100)) a0 := by rw [← w_61]; exact hx_71.2.2
  refine lv_if_ne (tgt := 18) hx hb dX12_masters_13 (by decide) (fun c_73 => ?_) (fun c_73 => ?_)
  · have th_74 : thr (G.2.1 (g.2.2 100)) a0 := F_isThere_thr (by rw [← ex_72]; exact c_73)
    have r_75 : rgI (1) (1) x_71 := rg_w (rg_neL rx_71 rl_0 c_73) (by decide) (by decide)
    have r_76 : rgI (0) (23) a0 := rg_w (hx_71.2.1.resolve_left c_73) (by decide) (by decide)
    refine lv_aload_n hx hb dX12_masters_18 rfl (lv_at hl 0 rfl) ?_
    refine lv_iconst (v := 0) hx hb dX12_masters_19 (by decide) ?_
    refine hg_put (ty := .int) hx hb hG igX12 tyX12 tyX12_ok nmX12 hown hK hS o_c_68 (AF.of k_h0) rfl 4 (by decide) (hG _ mw_1288) rfl (by decide +kernel) rfl rfl (Nat.le_of_ble_eq_true rfl) dX12_masters_20 (fun H locs o_c_68 hz oq hS => ?_)
    obtain ⟨G_77, eG_77⟩ : ∃ z : Gh, z = gset G_52 104 0 := ⟨_, rfl⟩
    have hH : HT g Ty G_77 H := by rw [eG_77]; exact HT.putN 104 0 hH k_h0 ⟨rfl, t_69, hk_70⟩ o_c_68 oq (Or.inr (Or.inr (Or.inr (Or.inr (Or.inr ⟨by decide, t_69⟩)))))
    have fr_78 : FR [104, 105] [] [] G G_77 := FR.n fr_53 eG_77 (by decide)
    have u_79 : G_77.1 102 = (G.1 102) := by rw [eG_77]; exact (gs_ne (by decide)).trans u_54
    have u_80 : G_77.1 113 = (G.1 113) := by rw [eG_77]; exact (gs_ne (by decide)).trans u_56
    have u_81 : G_77.1 122 = (G.1 122) := by rw [eG_77]; exact (gs_ne (by decide)).trans u_57
    have u_82 : G_77.1 133 = (G.1 133) := by rw [eG_77]; exact (gs_ne (by decide)).trans u_58
    have u_83 : G_77.1 137 = (G.1 137) := by rw [eG_77]; exact (gs_ne (by decide)).trans u_59
    have u_84 : G_77.1 105 = 0 := by rw [eG_77]; exact (gs_ne (by decide)).trans u_60
    have u_85 : G_77.1 104 = 0 := by rw [eG_77]; exact gs_eq
    have w_86 : G_77.2.1 (g.2.2 100) = (G.2.1 (g.2.2 100)) := by rw [eG_77]; exact w_61
    have w_87 : G_77.2.1 (g.2.2 121) = (G.2.1 (g.2.2 121)) := by rw [eG_77]; exact w_62
    have w_88 : G_77.2.1 (g.2.2 140) = (G.2.1 (g.2.2 140)) := by rw [eG_77]; exact w_63
    have w_89 : G_77.2.1 (g.2.2 141) = (G.2.1 (g.2.2 141)) := by rw [eG_77]; exact w_64
    have w_90 : G_77.2.1 (g.2.2 111) = (G.2.1 (g.2.2 111)) := by rw [eG_77]; exact w_65
    have u_91 : G_77.2.2 111 = some (g.2.2 111) := by rw [eG_77]; exact u_66
    have u_92 : G_77.2.2 112 = some (g.2.2 112) := by rw [eG_77]; exact u_67
    clear oq hz
    refine lv_iload_n hx hb dX12_masters_23 rfl (lv_at hl 1 rfl) ?_
    refine lv_istore_n (lv' := [(2, .int a0), (0, .ref h0), (1, .int a0)]) hx hb dX12_masters_24 rfl hl (by decide) rfl (fun ls hl => ?_)
    refine lv_iconst (v := 1) hx hb dX12_masters_25 (by decide) ?_
    refine lv_istore_n (lv' := [(3, .int 1), (2, .int a0), (0, .ref h0), (1, .int a0)]) hx hb dX12_masters_26 rfl hl (by decide) rfl (fun ls hl => ?_)
    exact L_27 _ H locs G_77 a0 1 ls (by rw [u_85]; exact rg_w rl_0 (by decide) (by decide)) fr_78 (rg_w rl_1 (by decide) (by decide)) th_74 (by rw [u_85]; have q := pm_24 (f := (G.2.1 (g.2.2 100))) (σ := σ0) (a := a0.toNatClampNeg); show (0 : Int) + _ ≤ 24; omega) (Nat.lt_succ_self _) (lv_sub hl [2, 1, 0] rfl) hH hS
  · have r_93 : rgI (0) (0) x_71 := rg_w (rg_eq rl_0 c_73) (by decide) (by decide)
    refine lv_iconst (v := (-1)) hx hb dX12_masters_16 (by decide) ?_
    exact W.iret hx hb hr (fun t ht hWm => ⟨⟨(-1), (Ty, G_52), rfl, ⟨rfl, ⟨fr_53, ⟨(by rw [u_54]; exact (rg_w hI.a102 (by decide) (by decide))), (by rw [u_55]; exact (rg_w hI.a104 (by decide) (by decide))), (by rw [u_56]; exact (rg_w hI.a113 (by decide) (by decide))), (by rw [u_57]; exact (rg_w hI.a122 (by decide) (by decide))), (by rw [u_58]; exact (rg_w hI.a133 (by decide) (by decide))), (by rw [u_59]; exact (rg_w hI.a137 (by decide) (by decide))), u_66, u_67, (by rw [w_61]; exact (hI.ti.hi (show Bd ≤ Bd + 1000 by omega))), (hI.un2 (show Bd ≤ Bd + 1000 by omega) w_62 u_57), (hI.ke2 (show Bd ≤ Bd + 1000 by omega) w_63 w_64)⟩⟩⟩, by show HT g Ty G_52 t.heap; rw [ht]; exact hH⟩, hS.F ht⟩) hS.2.2 dX12_masters_17
