set_option maxHeartbeats 4000000 in
set_option maxRecDepth 100000 in
theorem c_J1_canEncode_9a6ad (l : Launch) (g : Gx) (A : Nat → Prop) (a0 : Int32) : Met l yJ1_canEncode_9a6ad (wsG yJ1_canEncode_9a6ad cJ1_canEncode_9a6ad 1 (some .boolean)) ({ frames := 0, cells := 0, slots := 0, locals := 0 }) (PcB g A [.int a0]) (vp_Si (fun r => rgI (0) (1) r)) 0 0 (fun _ => False) := by
  refine Met.ofW (cc := cJ1_canEncode_9a6ad) (maxL := 1) (ret := (some .boolean)) (by decide) rfl ?_
  intro p e s m args below meth c s₁ B hml hv
  obtain ⟨rfl, hK, hO⟩ := hv
  have hS : va_S A s.heap s.heap [] := va_S.rf
  have hx := B.exec
  have hb := B.bytes
  have hr := B.returns
  have hts := atoms_spec (ws := (wsG yJ1_canEncode_9a6ad cJ1_canEncode_9a6ad 1 (some .boolean))) B.pre
  have hG : ∀ w ∈ GW, w.before ([.int a0] : List Value).toArray s = true := fun w h => hts w (List.mem_cons_of_mem _ h)
  have hown : s.vm.findClass "java/lang/StringLatin1" = some m.cls := findClass_of_methodNamed B.named
  have hlocks := B.notSynchronized
  have hl := lv_entry [.int a0] (n := 1) (Nat.le_of_ble_eq_true rfl)
  rw [lg_entry_eq]
  generalize (lg_sl [.int a0] ++ List.replicate (1 - (lg_sl [.int a0]).length) Slot.unset).toArray = ls at hl ⊢
  have hl : lv_has ls 1 [(0, .int a0)] := hl
  have L_15 : ∀ (ls : Array Slot), lv_has ls 1 [] → Wm p l e (wsG yJ1_canEncode_9a6ad cJ1_canEncode_9a6ad 1 (some .boolean)) ({ frames := 0, cells := 0, slots := 0, locals := 0 }) s m [.int a0] below meth c s.heap [] (0) (0) (vp_Si (fun r => rgI (0) (1) r)) 0 0 (fun _ => False) (F0 m 15 ls []) := by
    intro ls hl
    refine lv_iconst (v := 0) hx hb dJ1_canEncode_9a6ad_15 (by decide) ?_
    exact W.zret hx hb hr rfl (fun t ht hW => ⟨0, rfl, rg_w rl_0 (by decide) (by decide), ht⟩) (fun q h => by cases h) dJ1_canEncode_9a6ad_16
  refine lv_iload_n hx hb dJ1_canEncode_9a6ad_0 rfl (lv_at hl 0 rfl) ?_
  refine lv_if_lt (tgt := 15) hx hb dJ1_canEncode_9a6ad_1 (by decide) (fun c_1 => ?_) (fun c_1 => ?_)
  · have r_2 : rgI (-2147483648) (-1) a0 := rg_w (rg_ltL (rg_top a0) rl_0 c_1) (by decide) (by decide)
    exact L_15  ls (lv_sub hl [] rfl)
  · have r_3 : rgI (0) (2147483647) a0 := rg_w (rg_leR rl_0 (rg_top a0) (nlt_le c_1)) (by decide) (by decide)
    refine lv_iload_n hx hb dJ1_canEncode_9a6ad_4 rfl (lv_at hl 0 rfl) ?_
    refine lv_sipush (v := 255) hx hb dJ1_canEncode_9a6ad_5 (by decide) ?_
    refine lv_icmp_gt (tgt := 15) hx hb dJ1_canEncode_9a6ad_8 (by decide) (fun c_4 => ?_) (fun c_4 => ?_)
    · have r_5 : rgI (256) (2147483647) a0 := rg_w (rg_ltR rl_255 r_3 c_4) (by decide) (by decide)
      exact L_15  ls (lv_sub hl [] rfl)
    · have r_6 : rgI (0) (255) a0 := rg_w (rg_leL r_3 rl_255 (nlt_le c_4)) (by decide) (by decide)
      refine lv_iconst (v := 1) hx hb dJ1_canEncode_9a6ad_11 (by decide) ?_
      refine lv_goto (tgt := 16) hx hb dJ1_canEncode_9a6ad_12 (by decide) ?_
      exact W.zret hx hb hr rfl (fun t ht hW => ⟨1, rfl, rg_w rl_1 (by decide) (by decide), ht⟩) (fun q h => by cases h) dJ1_canEncode_9a6ad_16

set_option maxHeartbeats 4000000 in
set_option maxRecDepth 100000 in
theorem c_J1_indexOfChar_4cfef (l : Launch) (g : Gx) (A : Nat → Prop) (a1 : Int32) (a2 : Int32) (a3 : Int32) (pr2 : rgI (0) (7) a2) (pr3 : rgI (0) (7) a3) : Met l yJ1_indexOfChar_4cfef (wsG yJ1_indexOfChar_4cfef cJ1_indexOfChar_4cfef 6 (some .int)) ({ frames := 0, cells := 0, slots := 0, locals := 0 }) (PcB g A [.ref (g.2.2 62), .int a1, .int a2, .int a3]) (vp_Si (fun r => True)) 0 0 (fun _ => False) := by
  refine Met.ofW (cc := cJ1_indexOfChar_4cfef) (maxL := 6) (ret := (some .int)) (by decide) rfl ?_
  intro p e s m args below meth c s₁ B hml hv
  obtain ⟨rfl, hK, hO⟩ := hv
  have hS : va_S A s.heap s.heap [] := va_S.rf
  have hx := B.exec
  have hb := B.bytes
  have hr := B.returns
  have hts := atoms_spec (ws := (wsG yJ1_indexOfChar_4cfef cJ1_indexOfChar_4cfef 6 (some .int))) B.pre
  have hG : ∀ w ∈ GW, w.before ([.ref (g.2.2 62), .int a1, .int a2, .int a3] : List Value).toArray s = true := fun w h => hts w (List.mem_cons_of_mem _ h)
  have hown : s.vm.findClass "java/lang/StringLatin1" = some m.cls := findClass_of_methodNamed B.named
  have hlocks := B.notSynchronized
  have hl := lv_entry [.ref (g.2.2 62), .int a1, .int a2, .int a3] (n := 6) (Nat.le_of_ble_eq_true rfl)
  rw [lg_entry_eq]
  generalize (lg_sl [.ref (g.2.2 62), .int a1, .int a2, .int a3] ++ List.replicate (6 - (lg_sl [.ref (g.2.2 62), .int a1, .int a2, .int a3]).length) Slot.unset).toArray = ls at hl ⊢
  have hl : lv_has ls 6 [(0, .ref (g.2.2 62)), (1, .int a1), (2, .int a2), (3, .int a3)] := hl
  have L_7 : ∀ (n : Nat) (y4_7 : Int32) (y5_7 : Int32) (ls : Array Slot), rgI (0) (7) a3 → rgI (0) (7) y5_7 → (7 - (y5_7).toInt).toNat < n → lv_has ls 6 [(0, .ref (g.2.2 62)), (3, .int a3), (4, .int y4_7), (5, .int y5_7)] → Wm p l e (wsG yJ1_indexOfChar_4cfef cJ1_indexOfChar_4cfef 6 (some .int)) ({ frames := 0, cells := 0, slots := 0, locals := 0 }) s m [.ref (g.2.2 62), .int a1, .int a2, .int a3] below meth c s.heap [] (0) (0) (vp_Si (fun r => True)) 0 0 (fun _ => False) (F0 m 7 ls []) := by
    intro n
    induction n with
    | zero => intro y4_7 y5_7 ls ry3_7 ry5_7 hm; exact absurd hm (Nat.not_lt_zero _)
    | succ n ih_7 =>
      intro y4_7 y5_7 ls ry3_7 ry5_7 hm_7 hl
      refine lv_iload hx hb dJ1_indexOfChar_4cfef_7 (lv_at hl 3 rfl) ?_
      refine lv_iload_n hx hb dJ1_indexOfChar_4cfef_9 rfl (lv_at hl 1 rfl) ?_
      refine lv_icmp_ge (tgt := 31) hx hb dJ1_indexOfChar_4cfef_10 (by decide) (fun c_1 => ?_) (fun c_1 => ?_)
      · refine lv_iconst (v := (-1)) hx hb dJ1_indexOfChar_4cfef_31 (by decide) ?_
        exact W.iret hx hb hr (fun t ht hW => ⟨(-1), rfl, trivial, ht⟩) (fun q h => by cases h) dJ1_indexOfChar_4cfef_32
      · have r_2 : rgI (0) (6) y5_7 := rg_w (rg_ltL ry5_7 ry3_7 (nle_lt c_1)) (by decide) (by decide)
        have r_3 : rgI (1) (7) a3 := rg_w (rg_ltR ry5_7 ry3_7 (nle_lt c_1)) (by decide) (by decide)
        refine lv_aload_n hx hb dJ1_indexOfChar_4cfef_13 rfl (lv_at hl 0 rfl) ?_
        refine lv_iload hx hb dJ1_indexOfChar_4cfef_14 (lv_at hl 3 rfl) ?_
        refine va_tb hx hb hO.2.2.2.2.2.1 hS (rg_in (n := 7) r_2 (by decide) (by decide)) rfl dJ1_indexOfChar_4cfef_16 ?_
        refine lv_topi (fun x_4 ex_4 => ?_)
        refine lv_iload hx hb dJ1_indexOfChar_4cfef_17 (lv_at hl 2 rfl) ?_
        refine lv_icmp_ne (tgt := 25) hx hb dJ1_indexOfChar_4cfef_19 (by decide) (fun c_5 => ?_) (fun c_5 => ?_)
        · obtain ⟨x_6, ex_6⟩ : ∃ y : Int32, y = y5_7 + 1 := ⟨_, rfl⟩
          have rx_6 : rgI (1) (7) x_6 := by rw [ex_6]; exact rg_w (rg_add r_2 rl_1 (by decide) (by decide)) (by decide) (by decide)
          have qx_6 : x_6.toInt = (y5_7 : Int32).toInt + 1 := by rw [ex_6]; exact rg_addE r_2 rl_1 (by decide) (by decide)
          refine lv_iinc (v := x_6) (lv' := [(5, .int x_6), (0, .ref (g.2.2 62)), (3, .int a3), (4, .int y4_7)]) hx hb dJ1_indexOfChar_4cfef_25 hl (k := 3) rfl (by rw [ex_6]; rfl) (by decide) rfl (fun ls hl => ?_)
          refine lv_goto (tgt := 7) hx hb dJ1_indexOfChar_4cfef_28 (by decide) ?_
          exact ih_7 y4_7 x_6 ls (rg_w r_3 (by decide) (by decide)) (rg_w rx_6 (by decide) (by decide)) (by have h1 := qx_6; have h2 := r_2.1; have h3 := r_2.2; have h4 := hm_7; omega) (lv_sub hl [1, 2, 3, 0] rfl)
        · refine lv_iload hx hb dJ1_indexOfChar_4cfef_22 (lv_at hl 3 rfl) ?_
          exact W.iret hx hb hr (fun t ht hW => ⟨y5_7, rfl, trivial, ht⟩) (fun q h => by cases h) dJ1_indexOfChar_4cfef_24
  refine lv_iload_n hx hb dJ1_indexOfChar_4cfef_0 rfl (lv_at hl 1 rfl) ?_
  refine lv_i2b hx hb dJ1_indexOfChar_4cfef_1 rfl ?_
  refine lv_topi (fun x_7 ex_7 => ?_)
  refine lv_istore (lv' := [(4, .int x_7), (0, .ref (g.2.2 62)), (1, .int a1), (2, .int a2), (3, .int a3)]) hx hb dJ1_indexOfChar_4cfef_2 hl (by decide) rfl (fun ls hl => ?_)
  refine lv_iload_n hx hb dJ1_indexOfChar_4cfef_4 rfl (lv_at hl 3 rfl) ?_
  refine lv_istore (lv' := [(5, .int a2), (4, .int x_7), (0, .ref (g.2.2 62)), (1, .int a1), (2, .int a2), (3, .int a3)]) hx hb dJ1_indexOfChar_4cfef_5 hl (by decide) rfl (fun ls hl => ?_)
  exact L_7 _ x_7 a2 ls pr3 pr2 (Nat.lt_succ_self _) (lv_sub hl [2, 5, 1, 0] rfl)

set_option maxHeartbeats 4000000 in
set_option maxRecDepth 100000 in
theorem c_J1_indexOf_4cfef (l : Launch) (g : Gx) (A : Nat → Prop) (a1 : Int32) (a2 : Int32) (a3 : Int32) : Met l yJ1_indexOf_4cfef (wsG yJ1_indexOf_4cfef cJ1_indexOf_4cfef 4 (some .int)) ({ frames := 1, cells := 0, slots := 0, locals := 25 }) (PcB g A [.ref (g.2.2 62), .int a1, .int a2, .int a3]) (vp_Si (fun r => True)) 0 0 (fun _ => False) := by
  refine Met.ofW (cc := cJ1_indexOf_4cfef) (maxL := 4) (ret := (some .int)) (by decide) rfl ?_
  intro p e s m args below meth c s₁ B hml hv
  obtain ⟨rfl, hK, hO⟩ := hv
  have hS : va_S A s.heap s.heap [] := va_S.rf
  have hx := B.exec
  have hb := B.bytes
  have hr := B.returns
  have hts := atoms_spec (ws := (wsG yJ1_indexOf_4cfef cJ1_indexOf_4cfef 4 (some .int))) B.pre
  have hG : ∀ w ∈ GW, w.before ([.ref (g.2.2 62), .int a1, .int a2, .int a3] : List Value).toArray s = true := fun w h => hts w (List.mem_cons_of_mem _ h)
  have hown : s.vm.findClass "java/lang/StringLatin1" = some m.cls := findClass_of_methodNamed B.named
  have hlocks := B.notSynchronized
  have hl := lv_entry [.ref (g.2.2 62), .int a1, .int a2, .int a3] (n := 4) (Nat.le_of_ble_eq_true rfl)
  rw [lg_entry_eq]
  generalize (lg_sl [.ref (g.2.2 62), .int a1, .int a2, .int a3] ++ List.replicate (4 - (lg_sl [.ref (g.2.2 62), .int a1, .int a2, .int a3]).length) Slot.unset).toArray = ls at hl ⊢
  have hl : lv_has ls 4 [(0, .ref (g.2.2 62)), (1, .int a1), (2, .int a2), (3, .int a3)] := hl
  refine lv_iload_n hx hb dJ1_indexOf_4cfef_0 rfl (lv_at hl 1 rfl) ?_
  refine vp_callSi (W.runS (As := [.int a1]) (rest := []) ⟨hx, hb, hml, hown, hts⟩ (c_J1_canEncode_9a6ad l g  A a1 ) (cwSx 1 hts hG (gwC mw_471) mw_90 mw_469 mw_470 rfl rfl rfl hd_J1_canEncode_9a6ad ⟨Nat.le_of_ble_eq_true rfl, Nat.le_of_ble_eq_true rfl⟩) ⟨PcB_blind, PcB_pre hK hO hS⟩ rfl rfl hl.1 rfl (lv_room (Nat.le_of_ble_eq_true rfl)) dJ1_indexOf_4cfef_1 ⟨Nat.zero_le _, Nat.zero_le _⟩) (fun x_1 hx_1 => ?_)
  have rx_1 : rgI (0) (1) x_1 := hx_1
  refine lv_if_ne (tgt := 9) hx hb dJ1_indexOf_4cfef_4 (by decide) (fun c_2 => ?_) (fun c_2 => ?_)
  · have r_3 : rgI (1) (1) x_1 := rg_w (rg_neL rx_1 rl_0 c_2) (by decide) (by decide)
    refine lv_iload_n hx hb dJ1_indexOf_4cfef_9 rfl (lv_at hl 2 rfl) ?_
    refine lv_iconst (v := 0) hx hb dJ1_indexOf_4cfef_10 (by decide) ?_
    refine va_mmax hx hb (by rw [hml]; exact hl.1.symm) hown (hG _ mw_472) (hG _ mw_473) (hG _ mw_91) (hG _ mw_474) (Nat.le_of_ble_eq_true rfl) (Nat.le_of_ble_eq_true rfl) (Nat.le_of_ble_eq_true rfl) (Nat.le_of_ble_eq_true rfl) dJ1_indexOf_4cfef_11 ?_
    refine lv_topi (fun x_4 ex_4 => ?_)
    have rx_4 : rgI (0) (2147483647) x_4 := by rw [ex_4]; exact rg_w (show rgI (0) (2147483647) _ from rg_mx (rg_top a2) rl_0 (by decide) (by decide) (by decide) (by decide)) (by decide) (by decide)
    refine lv_istore_n (lv' := [(2, .int x_4), (0, .ref (g.2.2 62)), (1, .int a1), (3, .int a3)]) hx hb dJ1_indexOf_4cfef_14 rfl hl (by decide) rfl (fun ls hl => ?_)
    refine lv_iload_n hx hb dJ1_indexOf_4cfef_15 rfl (lv_at hl 3 rfl) ?_
    refine lv_aload_n hx hb dJ1_indexOf_4cfef_16 rfl (lv_at hl 1 rfl) ?_
    refine va_tlen (v := 7) hx hb hO.2.2.2.2.2.1 hS rfl dJ1_indexOf_4cfef_17 ?_
    refine va_mmin hx hb (by rw [hml]; exact hl.1.symm) hown (hG _ mw_475) (hG _ mw_476) (hG _ mw_91) (hG _ mw_477) (Nat.le_of_ble_eq_true rfl) (Nat.le_of_ble_eq_true rfl) (Nat.le_of_ble_eq_true rfl) (Nat.le_of_ble_eq_true rfl) dJ1_indexOf_4cfef_18 ?_
    refine lv_topi (fun x_5 ex_5 => ?_)
    have rx_5 : rgI (-2147483648) (7) x_5 := by rw [ex_5]; exact rg_w (show rgI (-2147483648) (7) _ from rg_mn (rg_top a3) rl_7 (by decide) (by decide) (by decide) (by decide)) (by decide) (by decide)
    refine lv_istore_n (lv' := [(3, .int x_5), (2, .int x_4), (0, .ref (g.2.2 62)), (1, .int a1)]) hx hb dJ1_indexOf_4cfef_21 rfl hl (by decide) rfl (fun ls hl => ?_)
    refine lv_iload_n hx hb dJ1_indexOf_4cfef_22 rfl (lv_at hl 1 rfl) ?_
    refine lv_iload_n hx hb dJ1_indexOf_4cfef_23 rfl (lv_at hl 0 rfl) ?_
    refine lv_icmp_lt (tgt := 29) hx hb dJ1_indexOf_4cfef_24 (by decide) (fun c_6 => ?_) (fun c_6 => ?_)
    · have r_7 : rgI (0) (6) x_4 := rg_w (rg_ltL rx_4 rx_5 c_6) (by decide) (by decide)
      have r_8 : rgI (1) (7) x_5 := rg_w (rg_ltR rx_4 rx_5 c_6) (by decide) (by decide)
      refine lv_aload_n hx hb dJ1_indexOf_4cfef_29 rfl (lv_at hl 2 rfl) ?_
      refine lv_iload_n hx hb dJ1_indexOf_4cfef_30 rfl (lv_at hl 3 rfl) ?_
      refine lv_iload_n hx hb dJ1_indexOf_4cfef_31 rfl (lv_at hl 1 rfl) ?_
      refine lv_iload_n hx hb dJ1_indexOf_4cfef_32 rfl (lv_at hl 0 rfl) ?_
      refine vp_callSi (W.runS (As := [.ref (g.2.2 62), .int a1, .int x_4, .int x_5]) (rest := []) ⟨hx, hb, hml, hown, hts⟩ (c_J1_indexOfChar_4cfef l g  A a1 x_4 x_5 (rg_w r_7 (by decide) (by decide)) (rg_w r_8 (by decide) (by decide))) (cwSx 4 hts hG (gwC mw_480) mw_90 mw_478 mw_479 rfl rfl rfl hd_J1_indexOfChar_4cfef ⟨Nat.le_of_ble_eq_true rfl, Nat.le_of_ble_eq_true rfl⟩) ⟨PcB_blind, PcB_pre hK hO hS⟩ rfl rfl hl.1 rfl (lv_room (Nat.le_of_ble_eq_true rfl)) dJ1_indexOf_4cfef_33 ⟨Nat.zero_le _, Nat.zero_le _⟩) (fun x_9 hx_9 => ?_)
      exact W.iret hx hb hr (fun t ht hW => ⟨x_9, rfl, trivial, ht⟩) (fun q h => by cases h) dJ1_indexOf_4cfef_36
    · refine lv_iconst (v := (-1)) hx hb dJ1_indexOf_4cfef_27 (by decide) ?_
      exact W.iret hx hb hr (fun t ht hW => ⟨(-1), rfl, trivial, ht⟩) (fun q h => by cases h) dJ1_indexOf_4cfef_28
  · have r_10 : rgI (0) (0) x_1 := rg_w (rg_eq rl_0 c_2) (by decide) (by decide)
    refine lv_iconst (v := (-1)) hx hb dJ1_indexOf_4cfef_7 (by decide) ?_
    exact W.iret hx hb hr (fun t ht hW => ⟨(-1), rfl, trivial, ht⟩) (fun q h => by cases h) dJ1_indexOf_4cfef_8

set_option maxHeartbeats 4000000 in
set_option maxRecDepth 100000 in
theorem c_J0_coder_7d493 (l : Launch) (g : Gx) (A : Nat → Prop)  : Met l yJ0_coder_7d493 (wsG yJ0_coder_7d493 cJ0_coder_7d493 1 (some .byte)) ({ frames := 0, cells := 0, slots := 0, locals := 0 }) (PcB g A [.ref (g.2.2 61)]) (vp_Si (fun r => rgI (0) (0) r)) 0 0 (fun _ => False) := by
  refine Met.ofW (cc := cJ0_coder_7d493) (maxL := 1) (ret := (some .byte)) (by decide) rfl ?_
  intro p e s m args below meth c s₁ B hml hv
  obtain ⟨rfl, hK, hO⟩ := hv
  have hS : va_S A s.heap s.heap [] := va_S.rf
  have hx := B.exec
  have hb := B.bytes
  have hr := B.returns
  have hts := atoms_spec (ws := (wsG yJ0_coder_7d493 cJ0_coder_7d493 1 (some .byte))) B.pre
  have hG : ∀ w ∈ GW, w.before ([.ref (g.2.2 61)] : List Value).toArray s = true := fun w h => hts w (List.mem_cons_of_mem _ h)
  have hown : s.vm.findClass "java/lang/String" = some m.cls := findClass_of_methodNamed B.named
  have hlocks := B.notSynchronized
  have hl := lv_entry [.ref (g.2.2 61)] (n := 1) (Nat.le_of_ble_eq_true rfl)
  rw [lg_entry_eq]
  generalize (lg_sl [.ref (g.2.2 61)] ++ List.replicate (1 - (lg_sl [.ref (g.2.2 61)]).length) Slot.unset).toArray = ls at hl ⊢
  have hl : lv_has ls 1 [(0, .ref (g.2.2 61))] := hl
  refine va_gets hx hb hO.2.2.2.2.2.2.1 hS hown (hG _ mw_456) (fun _ h => h) dJ0_coder_7d493_0 ?_
  refine lv_if_eq (tgt := 13) hx hb dJ0_coder_7d493_3 (by decide) (fun c_1 => ?_) (fun c_1 => ?_)
  · exact rg_noE rl_1 rl_0 c_1 (by decide)
  · refine lv_aload_n hx hb dJ0_coder_7d493_6 rfl (lv_at hl 0 rfl) ?_
    refine vk_getf hx hb hO.2.2.2.1 hS hown (hG _ mw_1903) (fun _ h => h) dJ0_coder_7d493_7 ?_
    refine lv_goto (tgt := 14) hx hb dJ0_coder_7d493_10 (by decide) ?_
    exact W.zret hx hb hr rfl (fun t ht hW => ⟨0, rfl, rg_w rl_0 (by decide) (by decide), ht⟩) (fun q h => by cases h) dJ0_coder_7d493_14

set_option maxHeartbeats 4000000 in
set_option maxRecDepth 100000 in
theorem c_J0_isLatin1_aae02 (l : Launch) (g : Gx) (A : Nat → Prop)  : Met l yJ0_isLatin1_aae02 (wsG yJ0_isLatin1_aae02 cJ0_isLatin1_aae02 1 (some .boolean)) ({ frames := 0, cells := 0, slots := 0, locals := 0 }) (PcB g A [.ref (g.2.2 61)]) (vp_Si (fun r => rgI (1) (1) r)) 0 0 (fun _ => False) := by
  refine Met.ofW (cc := cJ0_isLatin1_aae02) (maxL := 1) (ret := (some .boolean)) (by decide) rfl ?_
  intro p e s m args below meth c s₁ B hml hv
  obtain ⟨rfl, hK, hO⟩ := hv
  have hS : va_S A s.heap s.heap [] := va_S.rf
  have hx := B.exec
  have hb := B.bytes
  have hr := B.returns
  have hts := atoms_spec (ws := (wsG yJ0_isLatin1_aae02 cJ0_isLatin1_aae02 1 (some .boolean))) B.pre
  have hG : ∀ w ∈ GW, w.before ([.ref (g.2.2 61)] : List Value).toArray s = true := fun w h => hts w (List.mem_cons_of_mem _ h)
  have hown : s.vm.findClass "java/lang/String" = some m.cls := findClass_of_methodNamed B.named
  have hlocks := B.notSynchronized
  have hl := lv_entry [.ref (g.2.2 61)] (n := 1) (Nat.le_of_ble_eq_true rfl)
  rw [lg_entry_eq]
  generalize (lg_sl [.ref (g.2.2 61)] ++ List.replicate (1 - (lg_sl [.ref (g.2.2 61)]).length) Slot.unset).toArray = ls at hl ⊢
  have hl : lv_has ls 1 [(0, .ref (g.2.2 61))] := hl
  refine va_gets hx hb hO.2.2.2.2.2.2.1 hS hown (hG _ mw_456) (fun _ h => h) dJ0_isLatin1_aae02_0 ?_
  refine lv_if_eq (tgt := 17) hx hb dJ0_isLatin1_aae02_3 (by decide) (fun c_1 => ?_) (fun c_1 => ?_)
  · exact rg_noE rl_1 rl_0 c_1 (by decide)
  · refine lv_aload_n hx hb dJ0_isLatin1_aae02_6 rfl (lv_at hl 0 rfl) ?_
    refine vk_getf hx hb hO.2.2.2.1 hS hown (hG _ mw_1903) (fun _ h => h) dJ0_isLatin1_aae02_7 ?_
    refine lv_if_ne (tgt := 17) hx hb dJ0_isLatin1_aae02_10 (by decide) (fun c_2 => ?_) (fun c_2 => ?_)
    · exact absurd rfl c_2
    · refine lv_iconst (v := 1) hx hb dJ0_isLatin1_aae02_13 (by decide) ?_
      refine lv_goto (tgt := 18) hx hb dJ0_isLatin1_aae02_14 (by decide) ?_
      exact W.zret hx hb hr rfl (fun t ht hW => ⟨1, rfl, rg_w rl_1 (by decide) (by decide), ht⟩) (fun q h => by cases h) dJ0_isLatin1_aae02_18

set_option maxHeartbeats 4000000 in
set_option maxRecDepth 100000 in
theorem c_J0_length_8abf5 (l : Launch) (g : Gx) (A : Nat → Prop)  : Met l yJ0_length_8abf5 (wsG yJ0_length_8abf5 cJ0_length_8abf5 1 (some .int)) ({ frames := 1, cells := 0, slots := 0, locals := 20 }) (PcB g A [.ref (g.2.2 61)]) (vp_Si (fun r => True)) 0 0 (fun _ => False) := by
  refine Met.ofW (cc := cJ0_length_8abf5) (maxL := 1) (ret := (some .int)) (by decide) rfl ?_
  intro p e s m args below meth c s₁ B hml hv
  obtain ⟨rfl, hK, hO⟩ := hv
  have hS : va_S A s.heap s.heap [] := va_S.rf
  have hx := B.exec
  have hb := B.bytes
  have hr := B.returns
  have hts := atoms_spec (ws := (wsG yJ0_length_8abf5 cJ0_length_8abf5 1 (some .int))) B.pre
  have hG : ∀ w ∈ GW, w.before ([.ref (g.2.2 61)] : List Value).toArray s = true := fun w h => hts w (List.mem_cons_of_mem _ h)
  have hown : s.vm.findClass "java/lang/String" = some m.cls := findClass_of_methodNamed B.named
  have hlocks := B.notSynchronized
  have hl := lv_entry [.ref (g.2.2 61)] (n := 1) (Nat.le_of_ble_eq_true rfl)
  rw [lg_entry_eq]
  generalize (lg_sl [.ref (g.2.2 61)] ++ List.replicate (1 - (lg_sl [.ref (g.2.2 61)]).length) Slot.unset).toArray = ls at hl ⊢
  have hl : lv_has ls 1 [(0, .ref (g.2.2 61))] := hl
  refine lv_aload_n hx hb dJ0_length_8abf5_0 rfl (lv_at hl 0 rfl) ?_
  refine vk_getf hx hb hO.2.2.2.2.1 hS hown (hG _ mw_1904) (fun _ h => h) dJ0_length_8abf5_1 ?_
  refine va_tlen (v := 7) hx hb hO.2.2.2.2.2.1 hS rfl dJ0_length_8abf5_4 ?_
  refine lv_aload_n hx hb dJ0_length_8abf5_5 rfl (lv_at hl 0 rfl) ?_
  refine vp_callSi (W.runV (As := []) (rest := [.int 7]) ⟨hx, hb, hml, hown, hts⟩ (c_J0_coder_7d493 l g  A  ) (cwV 0 hts (gwV mw_462 mw_463 mw_464 mw_89 mw_465) rfl rfl rfl hv_J0_coder_7d493 ⟨Nat.le_of_ble_eq_true rfl, Nat.le_of_ble_eq_true rfl⟩) ⟨PcB_blind, OC_recv hO hS, PcB_pre hK hO hS⟩ rfl rfl hl.1 rfl (lv_room (Nat.le_of_ble_eq_true rfl)) dJ0_length_8abf5_6 ⟨Nat.zero_le _, Nat.zero_le _⟩) (fun x_1 hx_1 => ?_)
  have rx_1 : rgI (0) (0) x_1 := hx_1
  refine lv_ishr hx hb dJ0_length_8abf5_9 ?_
  refine lv_topi (fun x_2 ex_2 => ?_)
  exact W.iret hx hb hr (fun t ht hW => ⟨x_2, rfl, trivial, ht⟩) (fun q h => by cases h) dJ0_length_8abf5_10

set_option maxHeartbeats 4000000 in
set_option maxRecDepth 100000 in
theorem c_J0_indexOf_7cf53 (l : Launch) (g : Gx) (A : Nat → Prop) (a0 : Int32) (a1 : Int32) : Met l yJ0_indexOf_7cf53 (wsG yJ0_indexOf_7cf53 cJ0_indexOf_7cf53 3 (some .int)) ({ frames := 5, cells := 0, slots := 0, locals := 116 }) (PcB g A [.ref (g.2.2 61), .int a0, .int a1]) (vp_Si (fun r => True)) 0 0 (fun _ => False) := by
  refine Met.ofW (cc := cJ0_indexOf_7cf53) (maxL := 3) (ret := (some .int)) (by decide) rfl ?_
  intro p e s m args below meth c s₁ B hml hv
  obtain ⟨rfl, hK, hO⟩ := hv
  have hS : va_S A s.heap s.heap [] := va_S.rf
  have hx := B.exec
  have hb := B.bytes
  have hr := B.returns
  have hts := atoms_spec (ws := (wsG yJ0_indexOf_7cf53 cJ0_indexOf_7cf53 3 (some .int))) B.pre
  have hG : ∀ w ∈ GW, w.before ([.ref (g.2.2 61), .int a0, .int a1] : List Value).toArray s = true := fun w h => hts w (List.mem_cons_of_mem _ h)
  have hown : s.vm.findClass "java/lang/String" = some m.cls := findClass_of_methodNamed B.named
  have hlocks := B.notSynchronized
  have hl := lv_entry [.ref (g.2.2 61), .int a0, .int a1] (n := 3) (Nat.le_of_ble_eq_true rfl)
  rw [lg_entry_eq]
  generalize (lg_sl [.ref (g.2.2 61), .int a0, .int a1] ++ List.replicate (3 - (lg_sl [.ref (g.2.2 61), .int a0, .int a1]).length) Slot.unset).toArray = ls at hl ⊢
  have hl : lv_has ls 3 [(0, .ref (g.2.2 61)), (1, .int a0), (2, .int a1)] := hl
  refine lv_aload_n hx hb dJ0_indexOf_7cf53_0 rfl (lv_at hl 0 rfl) ?_
  refine vp_callSi (W.runV (As := []) (rest := []) ⟨hx, hb, hml, hown, hts⟩ (c_J0_isLatin1_aae02 l g  A  ) (cwV 0 hts (gwV mw_452 mw_453 mw_454 mw_89 mw_455) rfl rfl rfl hv_J0_isLatin1_aae02 ⟨Nat.le_of_ble_eq_true rfl, Nat.le_of_ble_eq_true rfl⟩) ⟨PcB_blind, OC_recv hO hS, PcB_pre hK hO hS⟩ rfl rfl hl.1 rfl (lv_room (Nat.le_of_ble_eq_true rfl)) dJ0_indexOf_7cf53_1 ⟨Nat.zero_le _, Nat.zero_le _⟩) (fun x_1 hx_1 => ?_)
  have rx_1 : rgI (1) (1) x_1 := hx_1
  refine lv_if_eq (tgt := 23) hx hb dJ0_indexOf_7cf53_4 (by decide) (fun c_2 => ?_) (fun c_2 => ?_)
  · exact rg_noE rx_1 rl_0 c_2 (by decide)
  · refine lv_aload_n hx hb dJ0_indexOf_7cf53_7 rfl (lv_at hl 0 rfl) ?_
    refine vk_getf hx hb hO.2.2.2.2.1 hS hown (hG _ mw_1904) (fun _ h => h) dJ0_indexOf_7cf53_8 ?_
    refine lv_iload_n hx hb dJ0_indexOf_7cf53_11 rfl (lv_at hl 1 rfl) ?_
    refine lv_iload_n hx hb dJ0_indexOf_7cf53_12 rfl (lv_at hl 2 rfl) ?_
    refine lv_aload_n hx hb dJ0_indexOf_7cf53_13 rfl (lv_at hl 0 rfl) ?_
    refine vp_callSi (W.runV (As := []) (rest := [.int a1, .int a0, .ref (g.2.2 62)]) ⟨hx, hb, hml, hown, hts⟩ (c_J0_length_8abf5 l g  A  ) (cwV 0 hts (gwV mw_458 mw_459 mw_460 mw_89 mw_461) rfl rfl rfl hv_J0_length_8abf5 ⟨Nat.le_of_ble_eq_true rfl, Nat.le_of_ble_eq_true rfl⟩) ⟨PcB_blind, OC_recv hO hS, PcB_pre hK hO hS⟩ rfl rfl hl.1 rfl (lv_room (Nat.le_of_ble_eq_true rfl)) dJ0_indexOf_7cf53_14 ⟨Nat.zero_le _, Nat.zero_le _⟩) (fun x_3 hx_3 => ?_)
    refine vp_callSi (W.runS (As := [.ref (g.2.2 62), .int a0, .int a1, .int x_3]) (rest := []) ⟨hx, hb, hml, hown, hts⟩ (c_J1_indexOf_4cfef l g  A a0 a1 x_3 ) (cwSx 4 hts hG (gwC mw_468) mw_90 mw_466 mw_467 rfl rfl rfl hd_J1_indexOf_4cfef ⟨Nat.le_of_ble_eq_true rfl, Nat.le_of_ble_eq_true rfl⟩) ⟨PcB_blind, PcB_pre hK hO hS⟩ rfl rfl hl.1 rfl (lv_room (Nat.le_of_ble_eq_true rfl)) dJ0_indexOf_7cf53_17 ⟨Nat.zero_le _, Nat.zero_le _⟩) (fun x_4 hx_4 => ?_)
    refine lv_goto (tgt := 36) hx hb dJ0_indexOf_7cf53_20 (by decide) ?_
    exact W.iret hx hb hr (fun t ht hW => ⟨x_4, rfl, trivial, ht⟩) (fun q h => by cases h) dJ0_indexOf_7cf53_36

set_option maxHeartbeats 4000000 in
set_option maxRecDepth 100000 in
theorem c_J0_indexOf_0f7a4 (l : Launch) (g : Gx) (A : Nat → Prop) (a0 : Int32) : Met l yJ0_indexOf_0f7a4 (wsG yJ0_indexOf_0f7a4 cJ0_indexOf_0f7a4 2 (some .int)) ({ frames := 6, cells := 0, slots := 0, locals := 138 }) (PcB g A [.ref (g.2.2 61), .int a0]) (vp_Si (fun r => True)) 0 0 (fun _ => False) := by
  refine Met.ofW (cc := cJ0_indexOf_0f7a4) (maxL := 2) (ret := (some .int)) (by decide) rfl ?_
  intro p e s m args below meth c s₁ B hml hv
  obtain ⟨rfl, hK, hO⟩ := hv
  have hS : va_S A s.heap s.heap [] := va_S.rf
  have hx := B.exec
  have hb := B.bytes
  have hr := B.returns
  have hts := atoms_spec (ws := (wsG yJ0_indexOf_0f7a4 cJ0_indexOf_0f7a4 2 (some .int))) B.pre
  have hG : ∀ w ∈ GW, w.before ([.ref (g.2.2 61), .int a0] : List Value).toArray s = true := fun w h => hts w (List.mem_cons_of_mem _ h)
  have hown : s.vm.findClass "java/lang/String" = some m.cls := findClass_of_methodNamed B.named
  have hlocks := B.notSynchronized
  have hl := lv_entry [.ref (g.2.2 61), .int a0] (n := 2) (Nat.le_of_ble_eq_true rfl)
  rw [lg_entry_eq]
  generalize (lg_sl [.ref (g.2.2 61), .int a0] ++ List.replicate (2 - (lg_sl [.ref (g.2.2 61), .int a0]).length) Slot.unset).toArray = ls at hl ⊢
  have hl : lv_has ls 2 [(0, .ref (g.2.2 61)), (1, .int a0)] := hl
  refine lv_aload_n hx hb dJ0_indexOf_0f7a4_0 rfl (lv_at hl 0 rfl) ?_
  refine lv_iload_n hx hb dJ0_indexOf_0f7a4_1 rfl (lv_at hl 1 rfl) ?_
  refine lv_iconst (v := 0) hx hb dJ0_indexOf_0f7a4_2 (by decide) ?_
  refine vp_callSi (W.runV (As := [.int a0, .int 0]) (rest := []) ⟨hx, hb, hml, hown, hts⟩ (c_J0_indexOf_7cf53 l g  A a0 0 ) (cwV 2 hts (gwV mw_448 mw_449 mw_450 mw_89 mw_451) rfl rfl rfl hv_J0_indexOf_7cf53 ⟨Nat.le_of_ble_eq_true rfl, Nat.le_of_ble_eq_true rfl⟩) ⟨PcB_blind, OC_recv hO hS, PcB_pre hK hO hS⟩ rfl rfl hl.1 rfl (lv_room (Nat.le_of_ble_eq_true rfl)) dJ0_indexOf_0f7a4_3 ⟨Nat.zero_le _, Nat.zero_le _⟩) (fun x_1 hx_1 => ?_)
  exact W.iret hx hb hr (fun t ht hW => ⟨x_1, rfl, trivial, ht⟩) (fun q h => by cases h) dJ0_indexOf_0f7a4_6
