theorem ly_i {i k y : Int32} {a : Int} (e : i = k + y) (hk : rgI 0 a k) (hy : rgI 0 121 y) (ha : a ≤ 1342 := by decide) : i.toNatClampNeg = k.toNatClampNeg + y.toNatClampNeg := by
  have h1 := hk.1; have h2 := hk.2; have h3 := hy.1; have h4 := hy.2
  have q : i.toInt = k.toInt + y.toInt := by rw [e]; exact ti_add (by omega) (by omega)
  show i.toInt.toNat = k.toInt.toNat + y.toInt.toNat
  omega

theorem a48_0 {f : Nat → Int32} {m x x1 : Int32} (hm : thr f m) (e1 : x1 = 48 + m) (ex : x = f x1.toNatClampNeg) (c : x = 0) : f (48 + m.toNatClampNeg) = 0 := by
  rw [← a48 hm f e1 ex]; exact c
theorem rt_cnt {f : Nat → Int32} {ρ : Nat → Nat} {m x1 t x4 : Int32} (h : P1 f ρ) (hm : thr f m) (e1 : x1 = F_J6_bitCount_0f7a4 (F_X12_thereOf f)) (et : t = nI (TZ f 25 m)) (e4 : x4 = x1 + t) (c : x4 ≤ 24) : ct (isT f) 24 + TZ f 25 m ≤ 24 := by
  rw [cnt_there] at e1
  have l1 := ct_le (isT f) 24
  have l2 := Nat.le_trans (TZ_le h 25 m hm) (ct_le _ 24)
  have q1 : x1.toInt = (ct (isT f) 24 : Nat) := by rw [e1]; exact nI_toInt (by omega)
  have q3 : t.toInt = (TZ f 25 m : Nat) := by rw [et]; exact nI_toInt (by omega)
  have q4 : x4.toInt = x1.toInt + t.toInt := by rw [e4]; exact ti_add (by omega) (by omega)
  have q5 := fz_le.mp c
  have q6 : (24 : Int32).toInt = 24 := rfl
  omega

set_option maxHeartbeats 4000000 in
set_option maxRecDepth 100000 in
theorem c_X12_treeOf (l : Launch) (g : Gx) : ∀ (nr : Nat) (Ty : TyM) (G : Gh) (b0 : Nat) (a1 : Int32) (k_b0 : Ty b0 = some (30, 122)) (ρ : Nat → Nat) (hT : P1 (G.2.1 b0) ρ) (hm0 : thr (G.2.1 b0) a1) (hm : 24 - ρ a1.toNatClampNeg < nr), Met l yX12_treeOf (wsG yX12_treeOf cX12_treeOf 5 (some .int)) ({ frames := 1 + nr, cells := 0, slots := 0, locals := 23 + 24 * nr }) (PcH g Ty G [.ref b0, .int a1]) (vp_Si (fun r => (r = nI (TZ (G.2.1 b0) nr a1)))) 0 0 (fun _ => False) := by
  intro nr
  induction nr with
  | zero => intro Ty G b0 a1 k_b0 ρ hT hm0 hm; exact absurd hm (Nat.not_lt_zero _)
  | succ nr ihr =>
  intro Ty G b0 a1 k_b0 ρ hT hm0 hm
  refine Met.ofW (cc := cX12_treeOf) (maxL := 5) (ret := (some .int)) (by decide) rfl ?_
  intro p e s m args below meth c s₁ B hml hv
  obtain ⟨rfl, hK, hH⟩ := hv
  have hx := B.exec
  have hb := B.bytes
  have hr := B.returns
  have hts := atoms_spec (ws := (wsG yX12_treeOf cX12_treeOf 5 (some .int))) B.pre
  have hG : ∀ w ∈ GW, w.before ([.ref b0, .int a1] : List Value).toArray s = true := fun w h => hts w (List.mem_cons_of_mem _ h)
  have hown : s.vm.findClass RX12 = some m.cls := findClass_of_methodNamed B.named
  have hlocks := B.notSynchronized
  have hl := lv_entry [.ref b0, .int a1] (n := 5) (Nat.le_of_ble_eq_true rfl)
  rw [lg_entry_eq]
  generalize (lg_sl [.ref b0, .int a1] ++ List.replicate (5 - (lg_sl [.ref b0, .int a1]).length) Slot.unset).toArray = ls at hl ⊢
  have hl : lv_has ls 5 [(0, .ref b0), (1, .int a1)] := hl
  have L_4 : ∀ (n : Nat) (y2_4 : Int32) (y3_4 : Int32) (ls : Array Slot), rgI (0) (4) y3_4 → y2_4 = nI (TP (TZ (G.2.1 b0) nr) (G.2.1 b0) a1 (y3_4 : Int32).toNatClampNeg) → (4 - (y3_4).toInt).toNat < n → lv_has ls 5 [(0, .ref b0), (1, .int a1), (2, .int y2_4), (3, .int y3_4)] → Wm p l e (wsG yX12_treeOf cX12_treeOf 5 (some .int)) ({ frames := 1 + (nr + 1), cells := 0, slots := 0, locals := 23 + 24 * (nr + 1) }) s m [.ref b0, .int a1] below meth c s.heap [] (0) (0) (vp_Si (fun r => (r = nI (TZ (G.2.1 b0) (nr + 1) a1)))) 0 0 (fun _ => False) (F0 m 4 ls []) := by
    intro n
    induction n with
    | zero => intro y2_4 y3_4 ls ry3_4 hi0_4 hm; exact absurd hm (Nat.not_lt_zero _)
    | succ n ih_4 =>
      intro y2_4 y3_4 ls ry3_4 hi0_4 hm_4 hl
      refine lv_iload_n hx hb dX12_treeOf_4 rfl (lv_at hl 3 rfl) ?_
      refine lv_iconst (v := 4) hx hb dX12_treeOf_5 (by decide) ?_
      refine lv_icmp_ge (tgt := 49) hx hb dX12_treeOf_6 (by decide) (fun c_1 => ?_) (fun c_1 => ?_)
      · have r_2 : rgI (4) (4) y3_4 := rg_w (rg_leR rl_4 ry3_4 c_1) (by decide) (by decide)
        refine lv_iload_n hx hb dX12_treeOf_49 rfl (lv_at hl 2 rfl) ?_
        exact W.iret hx hb hr (fun t ht hW => ⟨y2_4, rfl, tp_4 hi0_4 r_2, ht⟩) (fun q h => by cases h) dX12_treeOf_50
      · have r_3 : rgI (0) (3) y3_4 := rg_w (rg_ltL ry3_4 rl_4 (nle_lt c_1)) (by decide) (by decide)
        refine lv_aload_n hx hb dX12_treeOf_9 rfl (lv_at hl 0 rfl) ?_
        refine lv_iload_n hx hb dX12_treeOf_10 rfl (lv_at hl 1 rfl) ?_
        refine lv_iload_n hx hb dX12_treeOf_11 rfl (lv_at hl 3 rfl) ?_
        refine vp_callSi (W.runS (As := [.ref b0, .int a1, .int y3_4]) (rest := []) ⟨hx, hb, hml, hown, hts⟩ (c_X12_atOf l g Ty G b0 a1 y3_4 k_b0) (cwSx 3 hts hG (gwC mw_1509) mw_88 mw_1507 mw_1508 rfl rfl rfl hd_X12_atOf ⟨Nat.le_trans (Nat.le_of_ble_eq_true rfl) (Nat.le_add_right 1 _), Nat.le_trans (Nat.le_of_ble_eq_true rfl) (Nat.le_add_right 23 _)⟩) ⟨PcH_blind, PcH_pre hK hH⟩ rfl rfl hl.1 rfl (lv_room (Nat.le_of_ble_eq_true rfl)) dX12_treeOf_12 ⟨Nat.zero_le _, Nat.zero_le _⟩) (fun x_4 hx_4 => ?_)
        have rx_4 : rgI (1) (24) x_4 := hx_4.1
        refine lv_istore (lv' := [(4, .int x_4), (0, .ref b0), (1, .int a1), (2, .int y2_4), (3, .int y3_4)]) hx hb dX12_treeOf_15 hl (by decide) rfl (fun ls hl => ?_)
        refine lv_iload hx hb dX12_treeOf_17 (lv_at hl 0 rfl) ?_
        refine lv_bipush (v := 24) hx hb dX12_treeOf_19 (by decide) ?_
        refine lv_icmp_eq (tgt := 43) hx hb dX12_treeOf_21 (by decide) (fun c_5 => ?_) (fun c_5 => ?_)
        · have r_6 : rgI (24) (24) x_4 := rg_w (rg_eq rl_24 c_5) (by decide) (by decide)
          obtain ⟨x_7, ex_7⟩ : ∃ y : Int32, y = y3_4 + 1 := ⟨_, rfl⟩
          have rx_7 : rgI (1) (4) x_7 := by rw [ex_7]; exact rg_w (rg_add r_3 rl_1 (by decide) (by decide)) (by decide) (by decide)
          have qx_7 : x_7.toInt = (y3_4 : Int32).toInt + 1 := by rw [ex_7]; exact rg_addE r_3 rl_1 (by decide) (by decide)
          refine lv_iinc (v := x_7) (lv' := [(3, .int x_7), (4, .int x_4), (0, .ref b0), (1, .int a1), (2, .int y2_4)]) hx hb dX12_treeOf_43 hl (k := 4) rfl (by rw [ex_7]; rfl) (by decide) rfl (fun ls hl => ?_)
          refine lv_goto (tgt := 4) hx hb dX12_treeOf_46 (by decide) ?_
          exact ih_4 y2_4 x_7 ls (rg_w rx_7 (by decide) (by decide)) (tp_0 hi0_4 r_3 qx_7 (tc_1 r_3 hx_4.2 c_5)) (by have h1 := qx_7; have h2 := r_3.1; have h3 := r_3.2; have h4 := hm_4; omega) (lv_sub hl [2, 3, 4, 0] rfl)
        · have r_8 : rgI (1) (23) x_4 := rg_w (rg_neR rx_4 rl_24 c_5) (by decide) (by decide)
          refine lv_aload_n hx hb dX12_treeOf_24 rfl (lv_at hl 1 rfl) ?_
          refine lv_bipush (v := 96) hx hb dX12_treeOf_25 (by decide) ?_
          refine lv_iload hx hb dX12_treeOf_27 (lv_at hl 0 rfl) ?_
          refine lv_iadd hx hb dX12_treeOf_29 ?_
          refine lv_topi (fun x_9 ex_9 => ?_)
          have rx_9 : rgI (97) (119) x_9 := by rw [ex_9]; exact rg_w (rg_add rl_96 r_8 (by decide) (by decide)) (by decide) (by decide)
          obtain ⟨_, rfl, o_c_10⟩ := hH b0 _ k_b0
          have o_c_10 : va_at g.1 vwCl (b0, .inl (g.2.1 1, 122, .inl (G.2.1 b0))) s.heap := o_c_10
          refine hg_iald hx hb hK o_c_10 (rg_in (n := 122) rx_9 (by decide) (by decide)) dX12_treeOf_30 ?_
          refine lv_topi (fun x_11 ex_11 => ?_)
          refine lv_if_ne (tgt := 43) hx hb dX12_treeOf_31 (by decide) (fun c_12 => ?_) (fun c_12 => ?_)
          · obtain ⟨x_13, ex_13⟩ : ∃ y : Int32, y = y3_4 + 1 := ⟨_, rfl⟩
            have rx_13 : rgI (1) (4) x_13 := by rw [ex_13]; exact rg_w (rg_add r_3 rl_1 (by decide) (by decide)) (by decide) (by decide)
            have qx_13 : x_13.toInt = (y3_4 : Int32).toInt + 1 := by rw [ex_13]; exact rg_addE r_3 rl_1 (by decide) (by decide)
            refine lv_iinc (v := x_13) (lv' := [(3, .int x_13), (4, .int x_4), (0, .ref b0), (1, .int a1), (2, .int y2_4)]) hx hb dX12_treeOf_43 hl (k := 4) rfl (by rw [ex_13]; rfl) (by decide) rfl (fun ls hl => ?_)
            refine lv_goto (tgt := 4) hx hb dX12_treeOf_46 (by decide) ?_
            exact ih_4 y2_4 x_13 ls (rg_w rx_13 (by decide) (by decide)) (tp_0 hi0_4 r_3 qx_13 (tc_2 r_3 hx_4.2 c_5 (by rw [← ex_9, ← ex_11]; exact c_12))) (by have h1 := qx_13; have h2 := r_3.1; have h3 := r_3.2; have h4 := hm_4; omega) (lv_sub hl [2, 3, 4, 0] rfl)
          · have r_14 : rgI (0) (0) x_11 := rg_w (rg_eq rl_0 c_12) (by decide) (by decide)
            have th_15 := (chd hT hm0 hx_4.2 c_5)
            refine lv_iload_n hx hb dX12_treeOf_34 rfl (lv_at hl 3 rfl) ?_
            refine lv_aload_n hx hb dX12_treeOf_35 rfl (lv_at hl 1 rfl) ?_
            refine lv_iload hx hb dX12_treeOf_36 (lv_at hl 0 rfl) ?_
            refine vp_callSi (W.runS (As := [.ref b0, .int x_4]) (rest := [.int y2_4]) ⟨hx, hb, hml, hown, hts⟩ (ihr Ty G b0 x_4 k_b0 ρ hT th_15.1 (by have q1 := th_15.2.1; have q2 := hT.2.2 (x_4 : Int32).toNatClampNeg; omega)) (cwSx 2 hts hG (gwC mw_1627) mw_88 mw_1625 mw_1626 rfl rfl rfl hd_X12_treeOf ⟨Nat.le_refl _, by show 24 + (23 + 24 * nr) ≤ 23 + 24 * (nr + 1); omega⟩) ⟨PcH_blind, PcH_pre hK hH⟩ rfl rfl hl.1 rfl (lv_room (Nat.le_of_ble_eq_true rfl)) dX12_treeOf_38 ⟨Nat.zero_le _, Nat.zero_le _⟩) (fun x_16 hx_16 => ?_)
            refine lv_iadd hx hb dX12_treeOf_41 ?_
            refine lv_topi (fun x_17 ex_17 => ?_)
            refine lv_istore_n (lv' := [(2, .int x_17), (4, .int x_4), (0, .ref b0), (1, .int a1), (3, .int y3_4)]) hx hb dX12_treeOf_42 rfl hl (by decide) rfl (fun ls hl => ?_)
            obtain ⟨x_18, ex_18⟩ : ∃ y : Int32, y = y3_4 + 1 := ⟨_, rfl⟩
            have rx_18 : rgI (1) (4) x_18 := by rw [ex_18]; exact rg_w (rg_add r_3 rl_1 (by decide) (by decide)) (by decide) (by decide)
            have qx_18 : x_18.toInt = (y3_4 : Int32).toInt + 1 := by rw [ex_18]; exact rg_addE r_3 rl_1 (by decide) (by decide)
            refine lv_iinc (v := x_18) (lv' := [(3, .int x_18), (2, .int x_17), (4, .int x_4), (0, .ref b0), (1, .int a1)]) hx hb dX12_treeOf_43 hl (k := 4) rfl (by rw [ex_18]; rfl) (by decide) rfl (fun ls hl => ?_)
            refine lv_goto (tgt := 4) hx hb dX12_treeOf_46 (by decide) ?_
            exact ih_4 x_17 x_18 ls (rg_w rx_18 (by decide) (by decide)) (tp_1 hT hm0 hi0_4 r_3 qx_18 (tc_3 r_3 hx_4.2 c_5 (by rw [← ex_9, ← ex_11]; exact c_12)) hx_16 ex_17) (by have h1 := qx_18; have h2 := r_3.1; have h3 := r_3.2; have h4 := hm_4; omega) (lv_sub hl [3, 4, 1, 0] rfl)
  refine lv_iconst (v := 1) hx hb dX12_treeOf_0 (by decide) ?_
  refine lv_istore_n (lv' := [(2, .int 1), (0, .ref b0), (1, .int a1)]) hx hb dX12_treeOf_1 rfl hl (by decide) rfl (fun ls hl => ?_)
  refine lv_iconst (v := 0) hx hb dX12_treeOf_2 (by decide) ?_
  refine lv_istore_n (lv' := [(3, .int 0), (2, .int 1), (0, .ref b0), (1, .int a1)]) hx hb dX12_treeOf_3 rfl hl (by decide) rfl (fun ls hl => ?_)
  exact L_4 _ 1 0 ls (rg_w rl_0 (by decide) (by decide)) rfl (Nat.lt_succ_self _) (lv_sub hl [2, 3, 1, 0] rfl)

set_option maxHeartbeats 4000000 in
set_option maxRecDepth 100000 in
theorem c_X12_refusesTree (l : Launch) (g : Gx) (Ty : TyM) (G : Gh) (h0 : Nat) (b0 : Nat) (a1 : Int32) (a2 : Int32) (a3 : Int32) (k_h0 : Ty h0 = some (22, 0)) (k_b0 : Ty b0 = some (30, 122)) (ρ : Nat → Nat) (hT : P1 (G.2.1 b0) ρ) : Met l yX12_refusesTree (wsG yX12_refusesTree cX12_refusesTree 5 (some .int)) ({ frames := 27, cells := 0, slots := 0, locals := 647 }) (PcH g Ty G [.ref h0, .ref b0, .int a1, .int a2, .int a3]) (vp_Si (fun r => rgI (-9) (0) r ∧ (r = 0 → (thr (G.2.1 b0) a1 ∧ thr (G.2.1 b0) a2 ∧ rgI 0 3 a3 ∧ F_X12_atOf (G.2.1 b0) a2 a3 = 24 ∧ (G.2.1 b0) (48 + a2.toNatClampNeg) = 0 ∧ ct (isT (G.2.1 b0)) 24 + TZ (G.2.1 b0) 25 a1 ≤ 24)))) 0 0 (fun _ => False) := by
  refine Met.ofW (cc := cX12_refusesTree) (maxL := 5) (ret := (some .int)) (by decide) rfl ?_
  intro p e s m args below meth c s₁ B hml hv
  obtain ⟨rfl, hK, hH⟩ := hv
  have hx := B.exec
  have hb := B.bytes
  have hr := B.returns
  have hts := atoms_spec (ws := (wsG yX12_refusesTree cX12_refusesTree 5 (some .int))) B.pre
  have hG : ∀ w ∈ GW, w.before ([.ref h0, .ref b0, .int a1, .int a2, .int a3] : List Value).toArray s = true := fun w h => hts w (List.mem_cons_of_mem _ h)
  have hown : s.vm.findClass RX12 = some m.cls := findClass_of_methodNamed B.named
  have hlocks := B.notSynchronized
  have hl := lv_entry [.ref h0, .ref b0, .int a1, .int a2, .int a3] (n := 5) (Nat.le_of_ble_eq_true rfl)
  rw [lg_entry_eq]
  generalize (lg_sl [.ref h0, .ref b0, .int a1, .int a2, .int a3] ++ List.replicate (5 - (lg_sl [.ref h0, .ref b0, .int a1, .int a2, .int a3]).length) Slot.unset).toArray = ls at hl ⊢
  have hl : lv_has ls 5 [(0, .ref h0), (1, .ref b0), (2, .int a1), (3, .int a2), (4, .int a3)] := hl
  have hmk : mdK g Ty := mdk_of hH k_h0
  refine lv_aload_n hx hb dX12_refusesTree_0 rfl (lv_at hl 1 rfl) ?_
  refine lv_iload_n hx hb dX12_refusesTree_1 rfl (lv_at hl 2 rfl) ?_
  refine vp_callSi (W.runS (As := [.ref b0, .int a1]) (rest := []) ⟨hx, hb, hml, hown, hts⟩ (c_X12_isThere l g Ty G b0 a1 k_b0) (cwSx 2 hts hG (gwC mw_1520) mw_88 mw_1518 mw_1519 rfl rfl rfl hd_X12_isThere ⟨Nat.le_of_ble_eq_true rfl, Nat.le_of_ble_eq_true rfl⟩) ⟨PcH_blind, PcH_pre hK hH⟩ rfl rfl hl.1 rfl (lv_room (Nat.le_of_ble_eq_true rfl)) dX12_refusesTree_2 ⟨Nat.zero_le _, Nat.zero_le _⟩) (fun x_1 hx_1 => ?_)
  have rx_1 : rgI (0) (1) x_1 := hx_1.1
  refine lv_if_eq (tgt := 24) hx hb dX12_refusesTree_5 (by decide) (fun c_2 => ?_) (fun c_2 => ?_)
  · have r_3 : rgI (0) (0) x_1 := rg_w (rg_eq rl_0 c_2) (by decide) (by decide)
    refine lv_iconst (v := (-1)) hx hb dX12_refusesTree_24 (by decide) ?_
    exact W.iret hx hb hr (fun t ht hW => ⟨(-1), rfl, ⟨rg_w rl_m1 (by decide) (by decide), (fun q => absurd q (by decide))⟩, ht⟩) (fun q h => by cases h) dX12_refusesTree_25
  · have th_4 : thr (G.2.1 b0) a1 := F_isThere_thr (by rw [← hx_1.2.2]; exact c_2)
    have r_5 : rgI (1) (1) x_1 := rg_w (rg_neL rx_1 rl_0 c_2) (by decide) (by decide)
    have r_6 : rgI (0) (23) a1 := rg_w (hx_1.2.1.resolve_left c_2) (by decide) (by decide)
    refine lv_aload_n hx hb dX12_refusesTree_8 rfl (lv_at hl 1 rfl) ?_
    refine lv_iload_n hx hb dX12_refusesTree_9 rfl (lv_at hl 3 rfl) ?_
    refine vp_callSi (W.runS (As := [.ref b0, .int a2]) (rest := []) ⟨hx, hb, hml, hown, hts⟩ (c_X12_isThere l g Ty G b0 a2 k_b0) (cwSx 2 hts hG (gwC mw_1520) mw_88 mw_1518 mw_1519 rfl rfl rfl hd_X12_isThere ⟨Nat.le_of_ble_eq_true rfl, Nat.le_of_ble_eq_true rfl⟩) ⟨PcH_blind, PcH_pre hK hH⟩ rfl rfl hl.1 rfl (lv_room (Nat.le_of_ble_eq_true rfl)) dX12_refusesTree_10 ⟨Nat.zero_le _, Nat.zero_le _⟩) (fun x_7 hx_7 => ?_)
    have rx_7 : rgI (0) (1) x_7 := hx_7.1
    refine lv_if_eq (tgt := 24) hx hb dX12_refusesTree_13 (by decide) (fun c_8 => ?_) (fun c_8 => ?_)
    · have r_9 : rgI (0) (0) x_7 := rg_w (rg_eq rl_0 c_8) (by decide) (by decide)
      refine lv_iconst (v := (-1)) hx hb dX12_refusesTree_24 (by decide) ?_
      exact W.iret hx hb hr (fun t ht hW => ⟨(-1), rfl, ⟨rg_w rl_m1 (by decide) (by decide), (fun q => absurd q (by decide))⟩, ht⟩) (fun q h => by cases h) dX12_refusesTree_25
    · have th_10 : thr (G.2.1 b0) a2 := F_isThere_thr (by rw [← hx_7.2.2]; exact c_8)
      have r_11 : rgI (1) (1) x_7 := rg_w (rg_neL rx_7 rl_0 c_8) (by decide) (by decide)
      have r_12 : rgI (0) (23) a2 := rg_w (hx_7.2.1.resolve_left c_8) (by decide) (by decide)
      refine lv_iload hx hb dX12_refusesTree_16 (lv_at hl 4 rfl) ?_
      refine vp_callSi (W.runS (As := [.int a3]) (rest := []) ⟨hx, hb, hml, hown, hts⟩ (c_X12_isDir l g Ty G a3 ) (cwSx 1 hts hG (gwC mw_1537) mw_88 mw_1535 mw_1536 rfl rfl rfl hd_X12_isDir ⟨Nat.le_of_ble_eq_true rfl, Nat.le_of_ble_eq_true rfl⟩) ⟨PcH_blind, PcH_pre hK hH⟩ rfl rfl hl.1 rfl (lv_room (Nat.le_of_ble_eq_true rfl)) dX12_refusesTree_18 ⟨Nat.zero_le _, Nat.zero_le _⟩) (fun x_13 hx_13 => ?_)
      have rx_13 : rgI (0) (1) x_13 := hx_13.1
      refine lv_if_ne (tgt := 26) hx hb dX12_refusesTree_21 (by decide) (fun c_14 => ?_) (fun c_14 => ?_)
      · have r_15 : rgI (1) (1) x_13 := rg_w (rg_neL rx_13 rl_0 c_14) (by decide) (by decide)
        have r_16 : rgI (0) (3) a3 := rg_w (F_isDir_rg (by rw [← hx_13.2]; exact c_14)) (by decide) (by decide)
        refine lv_aload_n hx hb dX12_refusesTree_26 rfl (lv_at hl 1 rfl) ?_
        refine lv_iload_n hx hb dX12_refusesTree_27 rfl (lv_at hl 3 rfl) ?_
        refine lv_iload hx hb dX12_refusesTree_28 (lv_at hl 4 rfl) ?_
        refine vp_callSi (W.runS (As := [.ref b0, .int a2, .int a3]) (rest := []) ⟨hx, hb, hml, hown, hts⟩ (c_X12_atOf l g Ty G b0 a2 a3 k_b0) (cwSx 3 hts hG (gwC mw_1509) mw_88 mw_1507 mw_1508 rfl rfl rfl hd_X12_atOf ⟨Nat.le_of_ble_eq_true rfl, Nat.le_of_ble_eq_true rfl⟩) ⟨PcH_blind, PcH_pre hK hH⟩ rfl rfl hl.1 rfl (lv_room (Nat.le_of_ble_eq_true rfl)) dX12_refusesTree_30 ⟨Nat.zero_le _, Nat.zero_le _⟩) (fun x_17 hx_17 => ?_)
        have rx_17 : rgI (1) (24) x_17 := hx_17.1
        refine lv_bipush (v := 24) hx hb dX12_refusesTree_33 (by decide) ?_
        refine lv_icmp_eq (tgt := 41) hx hb dX12_refusesTree_35 (by decide) (fun c_18 => ?_) (fun c_18 => ?_)
        · have r_19 : rgI (24) (24) x_17 := rg_w (rg_eq rl_24 c_18) (by decide) (by decide)
          refine lv_aload_n hx hb dX12_refusesTree_41 rfl (lv_at hl 1 rfl) ?_
          refine lv_bipush (v := 96) hx hb dX12_refusesTree_42 (by decide) ?_
          refine lv_iload_n hx hb dX12_refusesTree_44 rfl (lv_at hl 2 rfl) ?_
          refine lv_iadd hx hb dX12_refusesTree_45 ?_
          refine lv_topi (fun x_20 ex_20 => ?_)
          have rx_20 : rgI (96) (119) x_20 := by rw [ex_20]; exact rg_w (rg_add rl_96 r_6 (by decide) (by decide)) (by decide) (by decide)
          obtain ⟨_, rfl, o_c_21⟩ := hH b0 _ k_b0
          have o_c_21 : va_at g.1 vwCl (b0, .inl (g.2.1 1, 122, .inl (G.2.1 b0))) s.heap := o_c_21
          refine hg_iald hx hb hK o_c_21 (rg_in (n := 122) rx_20 (by decide) (by decide)) dX12_refusesTree_46 ?_
          refine lv_topi (fun x_22 ex_22 => ?_)
          refine lv_iconst (v := 1) hx hb dX12_refusesTree_47 (by decide) ?_
          refine lv_icmp_ne (tgt := 54) hx hb dX12_refusesTree_48 (by decide) (fun c_23 => ?_) (fun c_23 => ?_)
          · refine lv_aload_n hx hb dX12_refusesTree_54 rfl (lv_at hl 1 rfl) ?_
            refine lv_bipush (v := 48) hx hb dX12_refusesTree_55 (by decide) ?_
            refine lv_iload_n hx hb dX12_refusesTree_57 rfl (lv_at hl 3 rfl) ?_
            refine lv_iadd hx hb dX12_refusesTree_58 ?_
            refine lv_topi (fun x_24 ex_24 => ?_)
            have rx_24 : rgI (48) (71) x_24 := by rw [ex_24]; exact rg_w (rg_add rl_48 r_12 (by decide) (by decide)) (by decide) (by decide)
            refine hg_iald hx hb hK o_c_21 (rg_in (n := 122) rx_24 (by decide) (by decide)) dX12_refusesTree_59 ?_
            refine lv_topi (fun x_25 ex_25 => ?_)
            refine lv_if_eq (tgt := 66) hx hb dX12_refusesTree_60 (by decide) (fun c_26 => ?_) (fun c_26 => ?_)
            · have r_27 : rgI (0) (0) x_25 := rg_w (rg_eq rl_0 c_26) (by decide) (by decide)
              refine lv_aload_n hx hb dX12_refusesTree_66 rfl (lv_at hl 1 rfl) ?_
              refine vp_callSi (W.runS (As := [.ref b0]) (rest := []) ⟨hx, hb, hml, hown, hts⟩ (c_X12_thereOf l g Ty G b0 k_b0) (cwSx 1 hts hG (gwC mw_1552) mw_88 mw_1550 mw_1551 rfl rfl rfl hd_X12_thereOf ⟨Nat.le_of_ble_eq_true rfl, Nat.le_of_ble_eq_true rfl⟩) ⟨PcH_blind, PcH_pre hK hH⟩ rfl rfl hl.1 rfl (lv_room (Nat.le_of_ble_eq_true rfl)) dX12_refusesTree_67 ⟨Nat.zero_le _, Nat.zero_le _⟩) (fun x_28 hx_28 => ?_)
              refine vp_callSi (W.runS (As := [.int x_28]) (rest := []) ⟨hx, hb, hml, hown, hts⟩ (c_J6_bitCount_x l g Ty G x_28 ) (cwSx 1 hts hG (gwC mw_620) mw_99 mw_1553 mw_619 rfl rfl rfl hd_J6_bitCount_0f7a4 ⟨Nat.le_of_ble_eq_true rfl, Nat.le_of_ble_eq_true rfl⟩) ⟨PcH_blind, PcH_pre hK hH⟩ rfl rfl hl.1 rfl (lv_room (Nat.le_of_ble_eq_true rfl)) dX12_refusesTree_70 ⟨Nat.zero_le _, Nat.zero_le _⟩) (fun x_29 hx_29 => ?_)
              have rx_29 : rgI (0) (63) x_29 := hx_29.1
              have cq_30 : x_29 = F_J6_bitCount_0f7a4 (F_X12_thereOf (G.2.1 b0)) := by rw [← hx_28]; exact hx_29.2
              refine lv_aload_n hx hb dX12_refusesTree_73 rfl (lv_at hl 1 rfl) ?_
              refine lv_iload_n hx hb dX12_refusesTree_74 rfl (lv_at hl 2 rfl) ?_
              refine vp_callSi (W.runS (As := [.ref b0, .int a1]) (rest := [.int x_29]) ⟨hx, hb, hml, hown, hts⟩ (c_X12_treeOf l g 25 Ty G b0 a1 k_b0 ρ hT th_4 (by omega)) (cwSx 2 hts hG (gwC mw_1627) mw_88 mw_1625 mw_1626 rfl rfl rfl hd_X12_treeOf ⟨Nat.le_of_ble_eq_true rfl, Nat.le_of_ble_eq_true rfl⟩) ⟨PcH_blind, PcH_pre hK hH⟩ rfl rfl hl.1 rfl (lv_room (Nat.le_of_ble_eq_true rfl)) dX12_refusesTree_75 ⟨Nat.zero_le _, Nat.zero_le _⟩) (fun x_31 hx_31 => ?_)
              refine lv_iadd hx hb dX12_refusesTree_78 ?_
              refine lv_topi (fun x_32 ex_32 => ?_)
              refine lv_bipush (v := 24) hx hb dX12_refusesTree_79 (by decide) ?_
              refine lv_icmp_le (tgt := 89) hx hb dX12_refusesTree_81 (by decide) (fun c_33 => ?_) (fun c_33 => ?_)
              · have r_34 : rgI (-2147483648) (24) x_32 := rg_w (rg_leL (rg_top x_32) rl_24 c_33) (by decide) (by decide)
                refine lv_iconst (v := 0) hx hb dX12_refusesTree_89 (by decide) ?_
                exact W.iret hx hb hr (fun t ht hW => ⟨0, rfl, ⟨rg_w rl_0 (by decide) (by decide), (fun _ => ⟨th_4, th_10, r_16, by rw [← hx_17.2]; exact c_18, a48_0 th_10 ex_24 ex_25 c_26, rt_cnt hT th_4 cq_30 hx_31 ex_32 c_33⟩)⟩, ht⟩) (fun q h => by cases h) dX12_refusesTree_90
              · have r_35 : rgI (25) (2147483647) x_32 := rg_w (rg_ltR rl_24 (rg_top x_32) (nle_lt c_33)) (by decide) (by decide)
                refine lv_bipush (v := (-9)) hx hb dX12_refusesTree_84 (by decide) ?_
                refine lv_goto (tgt := 90) hx hb dX12_refusesTree_86 (by decide) ?_
                exact W.iret hx hb hr (fun t ht hW => ⟨(-9), rfl, ⟨rg_w rl_m9 (by decide) (by decide), (fun q => absurd q (by decide))⟩, ht⟩) (fun q h => by cases h) dX12_refusesTree_90
            · refine lv_bipush (v := (-4)) hx hb dX12_refusesTree_63 (by decide) ?_
              exact W.iret hx hb hr (fun t ht hW => ⟨(-4), rfl, ⟨rg_w rl_m4 (by decide) (by decide), (fun q => absurd q (by decide))⟩, ht⟩) (fun q h => by cases h) dX12_refusesTree_65
          · have r_36 : rgI (1) (1) x_22 := rg_w (rg_eq rl_1 c_23) (by decide) (by decide)
            refine lv_bipush (v := (-3)) hx hb dX12_refusesTree_51 (by decide) ?_
            exact W.iret hx hb hr (fun t ht hW => ⟨(-3), rfl, ⟨rg_w rl_m3 (by decide) (by decide), (fun q => absurd q (by decide))⟩, ht⟩) (fun q h => by cases h) dX12_refusesTree_53
        · have r_37 : rgI (1) (23) x_17 := rg_w (rg_neR rx_17 rl_24 c_18) (by decide) (by decide)
          refine lv_bipush (v := (-2)) hx hb dX12_refusesTree_38 (by decide) ?_
          exact W.iret hx hb hr (fun t ht hW => ⟨(-2), rfl, ⟨rg_w rl_m2 (by decide) (by decide), (fun q => absurd q (by decide))⟩, ht⟩) (fun q h => by cases h) dX12_refusesTree_40
      · have r_38 : rgI (0) (0) x_13 := rg_w (rg_eq rl_0 c_14) (by decide) (by decide)
        refine lv_iconst (v := (-1)) hx hb dX12_refusesTree_24 (by decide) ?_
        exact W.iret hx hb hr (fun t ht hW => ⟨(-1), rfl, ⟨rg_w rl_m1 (by decide) (by decide), (fun q => absurd q (by decide))⟩, ht⟩) (fun q h => by cases h) dX12_refusesTree_25

set_option maxHeartbeats 4000000 in
set_option maxRecDepth 100000 in
theorem c_X12_lay_a (l : Launch) (g : Gx) (Ty : TyM) (G : Gh) (sz : Nat) (b0 : Nat) (b1 : Nat) (a2 : Int32) (k_b0 : Ty b0 = some (30, 122)) (k_b1 : Ty b1 = some (30, 122)) (pr2 : rgI (0) (0) a2) (h01 : b0 ≠ b1) : Met l yX12_lay (wsG yX12_lay cX12_lay 4 none) ({ frames := 0, cells := 0, slots := 0, locals := 0 }) (PcT g Ty G sz [.ref b0, .ref b1, .int a2]) (QwV g Ty sz (fun u => u.1 = Ty ∧ FR [] [b1] [] G u.2 ∧ LYk (G.2.1 b0) (G.2.1 b1) (u.2.2.1 b1) a2.toNatClampNeg 122)) 0 0 (AF Ty sz) := by
  refine Met.ofW (cc := cX12_lay) (maxL := 4) (ret := none) (by decide) rfl ?_
  intro p e s m args below meth c s₁ B hml hv
  obtain ⟨rfl, hsz, hK, hH⟩ := hv
  subst hsz
  have hx := B.exec
  have hb := B.bytes
  have hr := B.returns
  have hts := atoms_spec (ws := (wsG yX12_lay cX12_lay 4 none)) B.pre
  have hG : ∀ w ∈ GW, w.before ([.ref b0, .ref b1, .int a2] : List Value).toArray s = true := fun w h => hts w (List.mem_cons_of_mem _ h)
  have hown : s.vm.findClass RX12 = some m.cls := findClass_of_methodNamed B.named
  have hlocks := B.notSynchronized
  have hl := lv_entry [.ref b0, .ref b1, .int a2] (n := 4) (Nat.le_of_ble_eq_true rfl)
  rw [lg_entry_eq]
  generalize (lg_sl [.ref b0, .ref b1, .int a2] ++ List.replicate (4 - (lg_sl [.ref b0, .ref b1, .int a2]).length) Slot.unset).toArray = ls at hl ⊢
  have hl : lv_has ls 4 [(0, .ref b0), (1, .ref b1), (2, .int a2)] := hl
  have hS : va_S (AF Ty s.heap.size) s.heap s.heap [] := va_S.rf
  have L_2 : ∀ (n : Nat) (H : Heap) (locs : List Loc) (G_2 : Gh) (fl1_2 : Nat → Int32) (y3_2 : Int32) (ls : Array Slot), FR [] [b1] [] G G_2 → G_2.2.1 b1 = fl1_2 → rgI (0) (0) a2 → rgI (0) (122) y3_2 → LYk (G.2.1 b0) (G.2.1 b1) fl1_2 a2.toNatClampNeg (y3_2 : Int32).toNatClampNeg → (122 - (y3_2).toInt).toNat < n → lv_has ls 4 [(0, .ref b0), (1, .ref b1), (2, .int a2), (3, .int y3_2)] → HT g Ty G_2 H → va_S (AF Ty s.heap.size) s.heap H locs → Wm p l e (wsG yX12_lay cX12_lay 4 none) ({ frames := 0, cells := 0, slots := 0, locals := 0 }) s m [.ref b0, .ref b1, .int a2] below meth c H locs (0) (0) (QwV g Ty s.heap.size (fun u => u.1 = Ty ∧ FR [] [b1] [] G u.2 ∧ LYk (G.2.1 b0) (G.2.1 b1) (u.2.2.1 b1) a2.toNatClampNeg 122)) 0 0 (AF Ty s.heap.size) (F0 m 2 ls []) := by
    intro n
    induction n with
    | zero => intro H locs G_2 fl1_2 y3_2 ls fr_2 efl1_2 ry2_2 ry3_2 hi0_2 hm; exact absurd hm (Nat.not_lt_zero _)
    | succ n ih_2 =>
      intro H locs G_2 fl1_2 y3_2 ls fr_2 efl1_2 ry2_2 ry3_2 hi0_2 hm_2 hl hH hS
      refine lv_iload_n hx hb dX12_lay_2 rfl (lv_at hl 3 rfl) ?_
      refine lv_bipush (v := 122) hx hb dX12_lay_3 (by decide) ?_
      refine lv_icmp_ge (tgt := 22) hx hb dX12_lay_5 (by decide) (fun c_1 => ?_) (fun c_1 => ?_)
      · have r_2 : rgI (122) (122) y3_2 := rg_w (rg_leR rl_122 ry3_2 c_1) (by decide) (by decide)
        exact W.vret hx hb hr (fun t ht hWm => ⟨⟨(Ty, G_2), rfl, ⟨rfl, ⟨fr_2, (by rw [efl1_2]; exact LYk_e hi0_2 r_2)⟩⟩, by show HT g Ty G_2 t.heap; rw [ht]; exact hH⟩, hS.F ht⟩) hS.2.2 dX12_lay_22
      · have r_3 : rgI (0) (121) y3_2 := rg_w (rg_ltL ry3_2 rl_122 (nle_lt c_1)) (by decide) (by decide)
        refine lv_aload_n hx hb dX12_lay_8 rfl (lv_at hl 1 rfl) ?_
        refine lv_iload_n hx hb dX12_lay_9 rfl (lv_at hl 2 rfl) ?_
        refine lv_iload_n hx hb dX12_lay_10 rfl (lv_at hl 3 rfl) ?_
        refine lv_iadd hx hb dX12_lay_11 ?_
        refine lv_topi (fun x_4 ex_4 => ?_)
        have rx_4 : rgI (0) (121) x_4 := by rw [ex_4]; exact rg_w (rg_add ry2_2 r_3 (by decide) (by decide)) (by decide) (by decide)
        refine lv_aload_n hx hb dX12_lay_12 rfl (lv_at hl 0 rfl) ?_
        refine lv_iload_n hx hb dX12_lay_13 rfl (lv_at hl 3 rfl) ?_
        obtain ⟨_, rfl, o_c_5⟩ := hH b0 _ k_b0
        have o_c_5 : va_at g.1 vwCl (b0, .inl (g.2.1 1, 122, .inl (G_2.2.1 b0))) H := o_c_5
        refine hg_iald hx hb hK o_c_5 (rg_in (n := 122) r_3 (by decide) (by decide)) dX12_lay_14 ?_
        rw [(fr_2.2.1 b0 ⟨h01, trivial⟩)]
        refine lv_topi (fun x_6 ex_6 => ?_)
        obtain ⟨_, rfl, o_c_7⟩ := hH b1 _ k_b1
        have o_c_7 : va_at g.1 vwCl (b1, .inl (g.2.1 1, 122, .inl (G_2.2.1 b1))) H := o_c_7
        refine hg_iast hx hb hK hS o_c_7 (AF.of k_b1) (rg_in (n := 122) rx_4 (by decide) (by decide)) dX12_lay_15 (fun H locs o_c_7 hz oq hS => ?_)
        obtain ⟨G_8, eG_8⟩ : ∃ z : Gh, z = aset G_2 b1 (upd (G_2.2.1 b1) (x_4 : Int32).toNatClampNeg x_6) := ⟨_, rfl⟩
        have hH : HT g Ty G_8 H := by rw [eG_8]; exact HT.putA (upd (G_2.2.1 b1) (x_4 : Int32).toNatClampNeg x_6) hH k_b1 cf30 o_c_7 oq
        obtain ⟨f_9, ef_9⟩ : ∃ z : Nat → Int32, z = (upd fl1_2 (x_4 : Int32).toNatClampNeg x_6) := ⟨_, rfl⟩
        have eaf_9 : G_8 = aset G_2 b1 f_9 := by rw [eG_8, ef_9, efl1_2]
        have fr_10 : FR [] [b1] [] G G_8 := FR.a fr_2 eaf_9 (fun b h => h.1)
        have w_11 : G_8.2.1 b0 = (G.2.1 b0) := by rw [eaf_9]; exact (aset_ne h01).trans (fr_2.2.1 b0 ⟨h01, trivial⟩)
        have w_12 : G_8.2.1 b1 = f_9 := by rw [eaf_9]; exact aset_eq
        clear oq hz
        obtain ⟨x_13, ex_13⟩ : ∃ y : Int32, y = y3_2 + 1 := ⟨_, rfl⟩
        have rx_13 : rgI (1) (122) x_13 := by rw [ex_13]; exact rg_w (rg_add r_3 rl_1 (by decide) (by decide)) (by decide) (by decide)
        have qx_13 : x_13.toInt = (y3_2 : Int32).toInt + 1 := by rw [ex_13]; exact rg_addE r_3 rl_1 (by decide) (by decide)
        refine lv_iinc (v := x_13) (lv' := [(3, .int x_13), (0, .ref b0), (1, .ref b1), (2, .int a2)]) hx hb dX12_lay_16 hl (k := 3) rfl (by rw [ex_13]; rfl) (by decide) rfl (fun ls hl => ?_)
        refine lv_goto (tgt := 2) hx hb dX12_lay_19 (by decide) ?_
        exact ih_2 H locs G_8 f_9 x_13 ls fr_10 w_12 ry2_2 (rg_w rx_13 (by decide) (by decide)) (LYk_s hi0_2 r_3 qx_13 (ly_i ex_4 pr2 r_3) ex_6 ef_9) (by have h1 := qx_13; have h2 := r_3.1; have h3 := r_3.2; have h4 := hm_2; omega) (lv_sub hl [1, 2, 3, 0] rfl) hH hS
  refine lv_iconst (v := 0) hx hb dX12_lay_0 (by decide) ?_
  refine lv_istore_n (lv' := [(3, .int 0), (0, .ref b0), (1, .ref b1), (2, .int a2)]) hx hb dX12_lay_1 rfl hl (by decide) rfl (fun ls hl => ?_)
  exact L_2 _ s.heap [] G (G.2.1 b1) 0 ls FR.rf rfl pr2 (rg_w rl_0 (by decide) (by decide)) LYk_0 (Nat.lt_succ_self _) (lv_sub hl [1, 2, 3, 0] rfl) hH hS

set_option maxHeartbeats 4000000 in
set_option maxRecDepth 100000 in
theorem c_X12_lay_u (l : Launch) (g : Gx) (Ty : TyM) (G : Gh) (sz : Nat) (b0 : Nat) (b1 : Nat) (a2 : Int32) (k_b0 : Ty b0 = some (30, 122)) (k_b1 : Ty b1 = some (30, 1464)) (pr2 : rgI (0) (1342) a2) (h01 : b0 ≠ b1) : Met l yX12_lay (wsG yX12_lay cX12_lay 4 none) ({ frames := 0, cells := 0, slots := 0, locals := 0 }) (PcT g Ty G sz [.ref b0, .ref b1, .int a2]) (QwV g Ty sz (fun u => u.1 = Ty ∧ FR [] [b1] [] G u.2 ∧ LYk (G.2.1 b0) (G.2.1 b1) (u.2.2.1 b1) a2.toNatClampNeg 122)) 0 0 (AF Ty sz) := by
  refine Met.ofW (cc := cX12_lay) (maxL := 4) (ret := none) (by decide) rfl ?_
  intro p e s m args below meth c s₁ B hml hv
  obtain ⟨rfl, hsz, hK, hH⟩ := hv
  subst hsz
  have hx := B.exec
  have hb := B.bytes
  have hr := B.returns
  have hts := atoms_spec (ws := (wsG yX12_lay cX12_lay 4 none)) B.pre
  have hG : ∀ w ∈ GW, w.before ([.ref b0, .ref b1, .int a2] : List Value).toArray s = true := fun w h => hts w (List.mem_cons_of_mem _ h)
  have hown : s.vm.findClass RX12 = some m.cls := findClass_of_methodNamed B.named
  have hlocks := B.notSynchronized
  have hl := lv_entry [.ref b0, .ref b1, .int a2] (n := 4) (Nat.le_of_ble_eq_true rfl)
  rw [lg_entry_eq]
  generalize (lg_sl [.ref b0, .ref b1, .int a2] ++ List.replicate (4 - (lg_sl [.ref b0, .ref b1, .int a2]).length) Slot.unset).toArray = ls at hl ⊢
  have hl : lv_has ls 4 [(0, .ref b0), (1, .ref b1), (2, .int a2)] := hl
  have hS : va_S (AF Ty s.heap.size) s.heap s.heap [] := va_S.rf
  have L_2 : ∀ (n : Nat) (H : Heap) (locs : List Loc) (G_2 : Gh) (fl1_2 : Nat → Int32) (y3_2 : Int32) (ls : Array Slot), FR [] [b1] [] G G_2 → G_2.2.1 b1 = fl1_2 → rgI (0) (1342) a2 → rgI (0) (122) y3_2 → LYk (G.2.1 b0) (G.2.1 b1) fl1_2 a2.toNatClampNeg (y3_2 : Int32).toNatClampNeg → (122 - (y3_2).toInt).toNat < n → lv_has ls 4 [(0, .ref b0), (1, .ref b1), (2, .int a2), (3, .int y3_2)] → HT g Ty G_2 H → va_S (AF Ty s.heap.size) s.heap H locs → Wm p l e (wsG yX12_lay cX12_lay 4 none) ({ frames := 0, cells := 0, slots := 0, locals := 0 }) s m [.ref b0, .ref b1, .int a2] below meth c H locs (0) (0) (QwV g Ty s.heap.size (fun u => u.1 = Ty ∧ FR [] [b1] [] G u.2 ∧ LYk (G.2.1 b0) (G.2.1 b1) (u.2.2.1 b1) a2.toNatClampNeg 122)) 0 0 (AF Ty s.heap.size) (F0 m 2 ls []) := by
    intro n
    induction n with
    | zero => intro H locs G_2 fl1_2 y3_2 ls fr_2 efl1_2 ry2_2 ry3_2 hi0_2 hm; exact absurd hm (Nat.not_lt_zero _)
    | succ n ih_2 =>
      intro H locs G_2 fl1_2 y3_2 ls fr_2 efl1_2 ry2_2 ry3_2 hi0_2 hm_2 hl hH hS
      refine lv_iload_n hx hb dX12_lay_2 rfl (lv_at hl 3 rfl) ?_
      refine lv_bipush (v := 122) hx hb dX12_lay_3 (by decide) ?_
      refine lv_icmp_ge (tgt := 22) hx hb dX12_lay_5 (by decide) (fun c_1 => ?_) (fun c_1 => ?_)
      · have r_2 : rgI (122) (122) y3_2 := rg_w (rg_leR rl_122 ry3_2 c_1) (by decide) (by decide)
        exact W.vret hx hb hr (fun t ht hWm => ⟨⟨(Ty, G_2), rfl, ⟨rfl, ⟨fr_2, (by rw [efl1_2]; exact LYk_e hi0_2 r_2)⟩⟩, by show HT g Ty G_2 t.heap; rw [ht]; exact hH⟩, hS.F ht⟩) hS.2.2 dX12_lay_22
      · have r_3 : rgI (0) (121) y3_2 := rg_w (rg_ltL ry3_2 rl_122 (nle_lt c_1)) (by decide) (by decide)
        refine lv_aload_n hx hb dX12_lay_8 rfl (lv_at hl 1 rfl) ?_
        refine lv_iload_n hx hb dX12_lay_9 rfl (lv_at hl 2 rfl) ?_
        refine lv_iload_n hx hb dX12_lay_10 rfl (lv_at hl 3 rfl) ?_
        refine lv_iadd hx hb dX12_lay_11 ?_
        refine lv_topi (fun x_4 ex_4 => ?_)
        have rx_4 : rgI (0) (1463) x_4 := by rw [ex_4]; exact rg_w (rg_add ry2_2 r_3 (by decide) (by decide)) (by decide) (by decide)
        refine lv_aload_n hx hb dX12_lay_12 rfl (lv_at hl 0 rfl) ?_
        refine lv_iload_n hx hb dX12_lay_13 rfl (lv_at hl 3 rfl) ?_
        obtain ⟨_, rfl, o_c_5⟩ := hH b0 _ k_b0
        have o_c_5 : va_at g.1 vwCl (b0, .inl (g.2.1 1, 122, .inl (G_2.2.1 b0))) H := o_c_5
        refine hg_iald hx hb hK o_c_5 (rg_in (n := 122) r_3 (by decide) (by decide)) dX12_lay_14 ?_
        rw [(fr_2.2.1 b0 ⟨h01, trivial⟩)]
        refine lv_topi (fun x_6 ex_6 => ?_)
        obtain ⟨_, rfl, o_c_7⟩ := hH b1 _ k_b1
        have o_c_7 : va_at g.1 vwCl (b1, .inl (g.2.1 1, 1464, .inl (G_2.2.1 b1))) H := o_c_7
        refine hg_iast hx hb hK hS o_c_7 (AF.of k_b1) (rg_in (n := 1464) rx_4 (by decide) (by decide)) dX12_lay_15 (fun H locs o_c_7 hz oq hS => ?_)
        obtain ⟨G_8, eG_8⟩ : ∃ z : Gh, z = aset G_2 b1 (upd (G_2.2.1 b1) (x_4 : Int32).toNatClampNeg x_6) := ⟨_, rfl⟩
        have hH : HT g Ty G_8 H := by rw [eG_8]; exact HT.putA (upd (G_2.2.1 b1) (x_4 : Int32).toNatClampNeg x_6) hH k_b1 cf30 o_c_7 oq
        obtain ⟨f_9, ef_9⟩ : ∃ z : Nat → Int32, z = (upd fl1_2 (x_4 : Int32).toNatClampNeg x_6) := ⟨_, rfl⟩
        have eaf_9 : G_8 = aset G_2 b1 f_9 := by rw [eG_8, ef_9, efl1_2]
        have fr_10 : FR [] [b1] [] G G_8 := FR.a fr_2 eaf_9 (fun b h => h.1)
        have w_11 : G_8.2.1 b0 = (G.2.1 b0) := by rw [eaf_9]; exact (aset_ne h01).trans (fr_2.2.1 b0 ⟨h01, trivial⟩)
        have w_12 : G_8.2.1 b1 = f_9 := by rw [eaf_9]; exact aset_eq
        clear oq hz
        obtain ⟨x_13, ex_13⟩ : ∃ y : Int32, y = y3_2 + 1 := ⟨_, rfl⟩
        have rx_13 : rgI (1) (122) x_13 := by rw [ex_13]; exact rg_w (rg_add r_3 rl_1 (by decide) (by decide)) (by decide) (by decide)
        have qx_13 : x_13.toInt = (y3_2 : Int32).toInt + 1 := by rw [ex_13]; exact rg_addE r_3 rl_1 (by decide) (by decide)
        refine lv_iinc (v := x_13) (lv' := [(3, .int x_13), (0, .ref b0), (1, .ref b1), (2, .int a2)]) hx hb dX12_lay_16 hl (k := 3) rfl (by rw [ex_13]; rfl) (by decide) rfl (fun ls hl => ?_)
        refine lv_goto (tgt := 2) hx hb dX12_lay_19 (by decide) ?_
        exact ih_2 H locs G_8 f_9 x_13 ls fr_10 w_12 ry2_2 (rg_w rx_13 (by decide) (by decide)) (LYk_s hi0_2 r_3 qx_13 (ly_i ex_4 pr2 r_3) ex_6 ef_9) (by have h1 := qx_13; have h2 := r_3.1; have h3 := r_3.2; have h4 := hm_2; omega) (lv_sub hl [1, 2, 3, 0] rfl) hH hS
  refine lv_iconst (v := 0) hx hb dX12_lay_0 (by decide) ?_
  refine lv_istore_n (lv' := [(3, .int 0), (0, .ref b0), (1, .ref b1), (2, .int a2)]) hx hb dX12_lay_1 rfl hl (by decide) rfl (fun ls hl => ?_)
  exact L_2 _ s.heap [] G (G.2.1 b1) 0 ls FR.rf rfl pr2 (rg_w rl_0 (by decide) (by decide)) LYk_0 (Nat.lt_succ_self _) (lv_sub hl [1, 2, 3, 0] rfl) hH hS

set_option maxHeartbeats 4000000 in
set_option maxRecDepth 100000 in
theorem c_X12_lay_k (l : Launch) (g : Gx) (Ty : TyM) (G : Gh) (sz : Nat) (b0 : Nat) (b1 : Nat) (a2 : Int32) (k_b0 : Ty b0 = some (30, 122)) (k_b1 : Ty b1 = some (30, 244)) (pr2 : rgI (0) (122) a2) (h01 : b0 ≠ b1) : Met l yX12_lay (wsG yX12_lay cX12_lay 4 none) ({ frames := 0, cells := 0, slots := 0, locals := 0 }) (PcT g Ty G sz [.ref b0, .ref b1, .int a2]) (QwV g Ty sz (fun u => u.1 = Ty ∧ FR [] [b1] [] G u.2 ∧ LYk (G.2.1 b0) (G.2.1 b1) (u.2.2.1 b1) a2.toNatClampNeg 122)) 0 0 (AF Ty sz) := by
  refine Met.ofW (cc := cX12_lay) (maxL := 4) (ret := none) (by decide) rfl ?_
  intro p e s m args below meth c s₁ B hml hv
  obtain ⟨rfl, hsz, hK, hH⟩ := hv
  subst hsz
  have hx := B.exec
  have hb := B.bytes
  have hr := B.returns
  have hts := atoms_spec (ws := (wsG yX12_lay cX12_lay 4 none)) B.pre
  have hG : ∀ w ∈ GW, w.before ([.ref b0, .ref b1, .int a2] : List Value).toArray s = true := fun w h => hts w (List.mem_cons_of_mem _ h)
  have hown : s.vm.findClass RX12 = some m.cls := findClass_of_methodNamed B.named
  have hlocks := B.notSynchronized
  have hl := lv_entry [.ref b0, .ref b1, .int a2] (n := 4) (Nat.le_of_ble_eq_true rfl)
  rw [lg_entry_eq]
  generalize (lg_sl [.ref b0, .ref b1, .int a2] ++ List.replicate (4 - (lg_sl [.ref b0, .ref b1, .int a2]).length) Slot.unset).toArray = ls at hl ⊢
  have hl : lv_has ls 4 [(0, .ref b0), (1, .ref b1), (2, .int a2)] := hl
  have hS : va_S (AF Ty s.heap.size) s.heap s.heap [] := va_S.rf
  have L_2 : ∀ (n : Nat) (H : Heap) (locs : List Loc) (G_2 : Gh) (fl1_2 : Nat → Int32) (y3_2 : Int32) (ls : Array Slot), FR [] [b1] [] G G_2 → G_2.2.1 b1 = fl1_2 → rgI (0) (122) a2 → rgI (0) (122) y3_2 → LYk (G.2.1 b0) (G.2.1 b1) fl1_2 a2.toNatClampNeg (y3_2 : Int32).toNatClampNeg → (122 - (y3_2).toInt).toNat < n → lv_has ls 4 [(0, .ref b0), (1, .ref b1), (2, .int a2), (3, .int y3_2)] → HT g Ty G_2 H → va_S (AF Ty s.heap.size) s.heap H locs → Wm p l e (wsG yX12_lay cX12_lay 4 none) ({ frames := 0, cells := 0, slots := 0, locals := 0 }) s m [.ref b0, .ref b1, .int a2] below meth c H locs (0) (0) (QwV g Ty s.heap.size (fun u => u.1 = Ty ∧ FR [] [b1] [] G u.2 ∧ LYk (G.2.1 b0) (G.2.1 b1) (u.2.2.1 b1) a2.toNatClampNeg 122)) 0 0 (AF Ty s.heap.size) (F0 m 2 ls []) := by
    intro n
    induction n with
    | zero => intro H locs G_2 fl1_2 y3_2 ls fr_2 efl1_2 ry2_2 ry3_2 hi0_2 hm; exact absurd hm (Nat.not_lt_zero _)
    | succ n ih_2 =>
      intro H locs G_2 fl1_2 y3_2 ls fr_2 efl1_2 ry2_2 ry3_2 hi0_2 hm_2 hl hH hS
      refine lv_iload_n hx hb dX12_lay_2 rfl (lv_at hl 3 rfl) ?_
      refine lv_bipush (v := 122) hx hb dX12_lay_3 (by decide) ?_
      refine lv_icmp_ge (tgt := 22) hx hb dX12_lay_5 (by decide) (fun c_1 => ?_) (fun c_1 => ?_)
      · have r_2 : rgI (122) (122) y3_2 := rg_w (rg_leR rl_122 ry3_2 c_1) (by decide) (by decide)
        exact W.vret hx hb hr (fun t ht hWm => ⟨⟨(Ty, G_2), rfl, ⟨rfl, ⟨fr_2, (by rw [efl1_2]; exact LYk_e hi0_2 r_2)⟩⟩, by show HT g Ty G_2 t.heap; rw [ht]; exact hH⟩, hS.F ht⟩) hS.2.2 dX12_lay_22
      · have r_3 : rgI (0) (121) y3_2 := rg_w (rg_ltL ry3_2 rl_122 (nle_lt c_1)) (by decide) (by decide)
        refine lv_aload_n hx hb dX12_lay_8 rfl (lv_at hl 1 rfl) ?_
        refine lv_iload_n hx hb dX12_lay_9 rfl (lv_at hl 2 rfl) ?_
        refine lv_iload_n hx hb dX12_lay_10 rfl (lv_at hl 3 rfl) ?_
        refine lv_iadd hx hb dX12_lay_11 ?_
        refine lv_topi (fun x_4 ex_4 => ?_)
        have rx_4 : rgI (0) (243) x_4 := by rw [ex_4]; exact rg_w (rg_add ry2_2 r_3 (by decide) (by decide)) (by decide) (by decide)
        refine lv_aload_n hx hb dX12_lay_12 rfl (lv_at hl 0 rfl) ?_
        refine lv_iload_n hx hb dX12_lay_13 rfl (lv_at hl 3 rfl) ?_
        obtain ⟨_, rfl, o_c_5⟩ := hH b0 _ k_b0
        have o_c_5 : va_at g.1 vwCl (b0, .inl (g.2.1 1, 122, .inl (G_2.2.1 b0))) H := o_c_5
        refine hg_iald hx hb hK o_c_5 (rg_in (n := 122) r_3 (by decide) (by decide)) dX12_lay_14 ?_
        rw [(fr_2.2.1 b0 ⟨h01, trivial⟩)]
        refine lv_topi (fun x_6 ex_6 => ?_)
        obtain ⟨_, rfl, o_c_7⟩ := hH b1 _ k_b1
        have o_c_7 : va_at g.1 vwCl (b1, .inl (g.2.1 1, 244, .inl (G_2.2.1 b1))) H := o_c_7
        refine hg_iast hx hb hK hS o_c_7 (AF.of k_b1) (rg_in (n := 244) rx_4 (by decide) (by decide)) dX12_lay_15 (fun H locs o_c_7 hz oq hS => ?_)
        obtain ⟨G_8, eG_8⟩ : ∃ z : Gh, z = aset G_2 b1 (upd (G_2.2.1 b1) (x_4 : Int32).toNatClampNeg x_6) := ⟨_, rfl⟩
        have hH : HT g Ty G_8 H := by rw [eG_8]; exact HT.putA (upd (G_2.2.1 b1) (x_4 : Int32).toNatClampNeg x_6) hH k_b1 cf30 o_c_7 oq
        obtain ⟨f_9, ef_9⟩ : ∃ z : Nat → Int32, z = (upd fl1_2 (x_4 : Int32).toNatClampNeg x_6) := ⟨_, rfl⟩
        have eaf_9 : G_8 = aset G_2 b1 f_9 := by rw [eG_8, ef_9, efl1_2]
        have fr_10 : FR [] [b1] [] G G_8 := FR.a fr_2 eaf_9 (fun b h => h.1)
        have w_11 : G_8.2.1 b0 = (G.2.1 b0) := by rw [eaf_9]; exact (aset_ne h01).trans (fr_2.2.1 b0 ⟨h01, trivial⟩)
        have w_12 : G_8.2.1 b1 = f_9 := by rw [eaf_9]; exact aset_eq
        clear oq hz
        obtain ⟨x_13, ex_13⟩ : ∃ y : Int32, y = y3_2 + 1 := ⟨_, rfl⟩
        have rx_13 : rgI (1) (122) x_13 := by rw [ex_13]; exact rg_w (rg_add r_3 rl_1 (by decide) (by decide)) (by decide) (by decide)
        have qx_13 : x_13.toInt = (y3_2 : Int32).toInt + 1 := by rw [ex_13]; exact rg_addE r_3 rl_1 (by decide) (by decide)
        refine lv_iinc (v := x_13) (lv' := [(3, .int x_13), (0, .ref b0), (1, .ref b1), (2, .int a2)]) hx hb dX12_lay_16 hl (k := 3) rfl (by rw [ex_13]; rfl) (by decide) rfl (fun ls hl => ?_)
        refine lv_goto (tgt := 2) hx hb dX12_lay_19 (by decide) ?_
        exact ih_2 H locs G_8 f_9 x_13 ls fr_10 w_12 ry2_2 (rg_w rx_13 (by decide) (by decide)) (LYk_s hi0_2 r_3 qx_13 (ly_i ex_4 pr2 r_3) ex_6 ef_9) (by have h1 := qx_13; have h2 := r_3.1; have h3 := r_3.2; have h4 := hm_2; omega) (lv_sub hl [1, 2, 3, 0] rfl) hH hS
  refine lv_iconst (v := 0) hx hb dX12_lay_0 (by decide) ?_
  refine lv_istore_n (lv' := [(3, .int 0), (0, .ref b0), (1, .ref b1), (2, .int a2)]) hx hb dX12_lay_1 rfl hl (by decide) rfl (fun ls hl => ?_)
  exact L_2 _ s.heap [] G (G.2.1 b1) 0 ls FR.rf rfl pr2 (rg_w rl_0 (by decide) (by decide)) LYk_0 (Nat.lt_succ_self _) (lv_sub hl [1, 2, 3, 0] rfl) hH hS
