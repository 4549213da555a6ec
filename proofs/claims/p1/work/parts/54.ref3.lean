def F_X12_spreadOf_16 (f0 : Nat → Int32) : Nat → Int32 → Int32 → Int32 → Int32
  | 0, y2, _, _ => y2
  | n + 1, y2, y3, y4 => (if (24 : Int32) ≤ y4 then y2 else (if (F_X12_has y2 y4) = (0 : Int32) then (F_X12_spreadOf_16 f0 n y2 y3 (y4 + (1 : Int32))) else (if (f0 (Int32.toNatClampNeg ((48 : Int32) + y4))) = (0 : Int32) then (F_X12_spreadOf_16 f0 n y2 y3 (y4 + (1 : Int32))) else (F_X12_spreadOf_16 f0 n (y2 ||| ((F_X12_inGroup (f0) (f0 (Int32.toNatClampNeg ((48 : Int32) + y4)))) ||| (F_X12_slavesOf (f0) (f0 (Int32.toNatClampNeg ((48 : Int32) + y4)))))) y3 (y4 + (1 : Int32))))))
def F_X12_spreadOf_6 (f0 : Nat → Int32) : Nat → Int32 → Int32 → Int32
  | 0, y2, _ => y2
  | n + 1, y2, y3 => (if y3 = y2 then y2 else (F_X12_spreadOf_6 f0 n (F_X12_spreadOf_16 f0 26 y2 y2 (0 : Int32)) y2))
def F_X12_spreadOf (f0 : Nat → Int32) (a1 : Int32) : Int32 := (F_X12_spreadOf_6 f0 33554434 ((1 : Int32) <<< (a1 &&& 31)) (0 : Int32))
set_option maxHeartbeats 4000000 in
set_option maxRecDepth 100000 in
theorem c_X12_spreadOf (l : Launch) (g : Gx) (Ty : TyM) (G : Gh) (b0 : Nat) (a1 : Int32) (k_b0 : Ty b0 = some (30, 122)) (hm0 : thr (G.2.1 b0) a1) : Met l yX12_spreadOf (wsG yX12_spreadOf cX12_spreadOf 5 (some .int)) ({ frames := 3, cells := 0, slots := 0, locals := 66 }) (PcH g Ty G [.ref b0, .int a1]) (vp_Si (fun r => (SB (G.2.1 b0) r) ∧ r = F_X12_spreadOf (G.2.1 b0) a1)) 0 0 (fun _ => False) := by
  refine Met.ofW (cc := cX12_spreadOf) (maxL := 5) (ret := (some .int)) (by decide) rfl ?_
  intro p e s m args below meth c s₁ B hml hv
  obtain ⟨rfl, hK, hH⟩ := hv
  have hx := B.exec
  have hb := B.bytes
  have hr := B.returns
  have hts := atoms_spec (ws := (wsG yX12_spreadOf cX12_spreadOf 5 (some .int))) B.pre
  have hG : ∀ w ∈ GW, w.before ([.ref b0, .int a1] : List Value).toArray s = true := fun w h => hts w (List.mem_cons_of_mem _ h)
  have hown : s.vm.findClass RX12 = some m.cls := findClass_of_methodNamed B.named
  have hlocks := B.notSynchronized
  have hl := lv_entry [.ref b0, .int a1] (n := 5) (Nat.le_of_ble_eq_true rfl)
  rw [lg_entry_eq]
  generalize (lg_sl [.ref b0, .int a1] ++ List.replicate (5 - (lg_sl [.ref b0, .int a1]).length) Slot.unset).toArray = ls at hl ⊢
  have hl : lv_has ls 5 [(0, .ref b0), (1, .int a1)] := hl
  have hv : (F_X12_spreadOf_6 (G.2.1 b0) 33554434 ((1 : Int32) <<< (a1 &&& 31)) (0 : Int32)) = F_X12_spreadOf (G.2.1 b0) a1 := rfl
  have L_6 : ∀ (n_6 : Nat) (y2_6 : Int32) (y3_6 : Int32) (ls : Array Slot), SB (G.2.1 b0) y2_6 → sp_m y3_6 y2_6 < n_6 → lv_has ls 5 [(0, .ref b0), (2, .int y2_6), (3, .int y3_6)] → (F_X12_spreadOf_6 (G.2.1 b0) n_6 y2_6 y3_6) = F_X12_spreadOf (G.2.1 b0) a1 → Wm p l e (wsG yX12_spreadOf cX12_spreadOf 5 (some .int)) ({ frames := 3, cells := 0, slots := 0, locals := 66 }) s m [.ref b0, .int a1] below meth c s.heap [] (0) (0) (vp_Si (fun r => (SB (G.2.1 b0) r) ∧ r = F_X12_spreadOf (G.2.1 b0) a1)) 0 0 (fun _ => False) (F0 m 6 ls []) := by
    intro n_6
    induction n_6 with
    | zero => intro y2_6 y3_6 ls hi0_6 hm; exact absurd hm (Nat.not_lt_zero _)
    | succ n_6 ih_6 =>
      intro y2_6 y3_6 ls hi0_6 hm_6 hl hv
      have L_16 : ∀ (n_16 : Nat) (y2_16 : Int32) (y4_16 : Int32) (ls : Array Slot), rgI (0) (24) y4_16 → SB (G.2.1 b0) y2_16 → tn y2_6 ≤ tn y2_16 → ¬ y3_6 = y2_6 → (24 - (y4_16).toInt).toNat < n_16 → lv_has ls 5 [(0, .ref b0), (2, .int y2_16), (3, .int y2_6), (4, .int y4_16)] → (F_X12_spreadOf_6 (G.2.1 b0) n_6 (F_X12_spreadOf_16 (G.2.1 b0) n_16 y2_16 y2_6 y4_16) y2_6) = F_X12_spreadOf (G.2.1 b0) a1 → Wm p l e (wsG yX12_spreadOf cX12_spreadOf 5 (some .int)) ({ frames := 3, cells := 0, slots := 0, locals := 66 }) s m [.ref b0, .int a1] below meth c s.heap [] (0) (0) (vp_Si (fun r => (SB (G.2.1 b0) r) ∧ r = F_X12_spreadOf (G.2.1 b0) a1)) 0 0 (fun _ => False) (F0 m 16 ls []) := by
        intro n_16
        induction n_16 with
        | zero => intro y2_16 y4_16 ls ry4_16 hi0_16 hi1_16 hi2_16 hm; exact absurd hm (Nat.not_lt_zero _)
        | succ n_16 ih_16 =>
          intro y2_16 y4_16 ls ry4_16 hi0_16 hi1_16 hi2_16 hm_16 hl hv
          have L_68 : ∀ (y2_68 : Int32) (ls : Array Slot), rgI (0) (23) y4_16 → SB (G.2.1 b0) y2_68 → tn y2_6 ≤ tn y2_68 → ¬ y3_6 = y2_6 → lv_has ls 5 [(0, .ref b0), (2, .int y2_68), (3, .int y2_6), (4, .int y4_16)] → (F_X12_spreadOf_6 (G.2.1 b0) n_6 (F_X12_spreadOf_16 (G.2.1 b0) n_16 y2_68 y2_6 (y4_16 + (1 : Int32))) y2_6) = F_X12_spreadOf (G.2.1 b0) a1 → Wm p l e (wsG yX12_spreadOf cX12_spreadOf 5 (some .int)) ({ frames := 3, cells := 0, slots := 0, locals := 66 }) s m [.ref b0, .int a1] below meth c s.heap [] (0) (0) (vp_Si (fun r => (SB (G.2.1 b0) r) ∧ r = F_X12_spreadOf (G.2.1 b0) a1)) 0 0 (fun _ => False) (F0 m 68 ls []) := by
            intro y2_68 ls ry4_68 hi0_68 hi1_68 hi2_68 hl hv
            obtain ⟨x_1, ex_1⟩ : ∃ y : Int32, y = y4_16 + 1 := ⟨_, rfl⟩
            try rw [← ex_1] at hv
            have rx_1 : rgI (1) (24) x_1 := by rw [ex_1]; exact rg_w (rg_add ry4_68 rl_1 (by decide) (by decide)) (by decide) (by decide)
            have qx_1 : x_1.toInt = (y4_16 : Int32).toInt + 1 := by rw [ex_1]; exact rg_addE ry4_68 rl_1 (by decide) (by decide)
            refine lv_iinc (v := x_1) (lv' := [(4, .int x_1), (0, .ref b0), (2, .int y2_68), (3, .int y2_6)]) hx hb dX12_spreadOf_68 hl (k := 3) rfl (by rw [ex_1]; rfl) (by decide) rfl (fun ls hl => ?_)
            refine lv_goto (tgt := 16) hx hb dX12_spreadOf_71 (by decide) ?_
            exact ih_16 y2_68 x_1 ls (rg_w rx_1 (by decide) (by decide)) hi0_68 hi1_68 hi2_68 (by have h1 := qx_1; have h2 := ry4_68.1; have h3 := ry4_68.2; have h4 := hm_16; omega) (lv_sub hl [1, 2, 3, 0] rfl) hv
          rw [F_X12_spreadOf_16] at hv
          refine lv_iload hx hb dX12_spreadOf_16 (lv_at hl 3 rfl) ?_
          refine lv_bipush (v := 24) hx hb dX12_spreadOf_18 (by decide) ?_
          refine lv_icmp_ge (tgt := 74) hx hb dX12_spreadOf_20 (by decide) (fun c_2 => ?_) (fun c_2 => ?_)
          · rw [if_pos c_2] at hv
            have r_3 : rgI (24) (24) y4_16 := rg_w (rg_leR rl_24 ry4_16 c_2) (by decide) (by decide)
            refine lv_goto (tgt := 6) hx hb dX12_spreadOf_74 (by decide) ?_
            exact ih_6 y2_16 y2_6 ls hi0_16 (sp_dec hm_6 hi2_16 hi1_16 hi0_16) (lv_sub hl [0, 1, 2] rfl) hv
          · rw [if_neg c_2] at hv
            have r_4 : rgI (0) (23) y4_16 := rg_w (rg_ltL ry4_16 rl_24 (nle_lt c_2)) (by decide) (by decide)
            refine lv_iload_n hx hb dX12_spreadOf_23 rfl (lv_at hl 1 rfl) ?_
            refine lv_iload hx hb dX12_spreadOf_24 (lv_at hl 3 rfl) ?_
            refine vp_callSi (W.runS (As := [.int y2_16, .int y4_16]) (rest := []) ⟨hx, hb, hml, hown, hts⟩ (c_X12_has l g Ty G y2_16 y4_16 ) (cwSx 2 hts hG (gwC mw_1563) mw_88 mw_1561 mw_1562 rfl rfl rfl hd_X12_has ⟨Nat.le_of_ble_eq_true rfl, Nat.le_of_ble_eq_true rfl⟩) ⟨PcH_blind, PcH_pre hK hH⟩ rfl rfl hl.1 rfl (lv_room (Nat.le_of_ble_eq_true rfl)) dX12_spreadOf_26 ⟨Nat.zero_le _, Nat.zero_le _⟩) (fun x_5 hx_5 => ?_)
            have rx_5 : rgI (0) (1) x_5 := hx_5.1
            try rw [← hx_5.2] at hv
            refine lv_if_eq (tgt := 68) hx hb dX12_spreadOf_29 (by decide) (fun c_6 => ?_) (fun c_6 => ?_)
            · rw [if_pos c_6] at hv
              have r_7 : rgI (0) (0) x_5 := rg_w (rg_eq rl_0 c_6) (by decide) (by decide)
              exact L_68 y2_16 ls r_4 hi0_16 hi1_16 hi2_16 (lv_sub hl [0, 1, 2, 3] rfl) hv
            · rw [if_neg c_6] at hv
              have r_8 : rgI (1) (1) x_5 := rg_w (rg_neL rx_5 rl_0 c_6) (by decide) (by decide)
              refine lv_aload_n hx hb dX12_spreadOf_32 rfl (lv_at hl 0 rfl) ?_
              refine lv_bipush (v := 48) hx hb dX12_spreadOf_33 (by decide) ?_
              refine lv_iload hx hb dX12_spreadOf_35 (lv_at hl 3 rfl) ?_
              refine lv_iadd hx hb dX12_spreadOf_37 ?_
              refine lv_topi (fun x_9 ex_9 => ?_)
              try rw [← ex_9] at hv
              have rx_9 : rgI (48) (71) x_9 := by rw [ex_9]; exact rg_w (rg_add rl_48 r_4 (by decide) (by decide)) (by decide) (by decide)
              obtain ⟨_, rfl, o_c_10⟩ := hH b0 _ k_b0
              have o_c_10 : va_at g.1 vwCl (b0, .inl (g.2.1 1, 122, .inl (G.2.1 b0))) s.heap := o_c_10
              refine hg_iald hx hb hK o_c_10 (rg_in (n := 122) rx_9 (by decide) (by decide)) dX12_spreadOf_38 ?_
              refine lv_topi (fun x_11 ex_11 => ?_)
              try rw [← ex_11] at hv
              refine lv_if_eq (tgt := 68) hx hb dX12_spreadOf_39 (by decide) (fun c_12 => ?_) (fun c_12 => ?_)
              · rw [if_pos c_12] at hv
                have r_13 : rgI (0) (0) x_11 := rg_w (rg_eq rl_0 c_12) (by decide) (by decide)
                exact L_68 y2_16 ls r_4 hi0_16 hi1_16 hi2_16 (lv_sub hl [0, 1, 2, 3] rfl) hv
              · rw [if_neg c_12] at hv
                refine lv_iload_n hx hb dX12_spreadOf_42 rfl (lv_at hl 1 rfl) ?_
                refine lv_aload_n hx hb dX12_spreadOf_43 rfl (lv_at hl 0 rfl) ?_
                refine lv_aload_n hx hb dX12_spreadOf_44 rfl (lv_at hl 0 rfl) ?_
                refine lv_bipush (v := 48) hx hb dX12_spreadOf_45 (by decide) ?_
                refine lv_iload hx hb dX12_spreadOf_47 (lv_at hl 3 rfl) ?_
                refine lv_iadd hx hb dX12_spreadOf_49 ?_
                refine lv_topi (fun x_14 ex_14 => ?_)
                try rw [← ex_14] at hv
                have rx_14 : rgI (48) (71) x_14 := by rw [ex_14]; exact rg_w (rg_add rl_48 r_4 (by decide) (by decide)) (by decide) (by decide)
                have q_15 : x_9 = x_14 := ex_9.trans ex_14.symm
                subst q_15
                refine hg_iald hx hb hK o_c_10 (rg_in (n := 122) rx_14 (by decide) (by decide)) dX12_spreadOf_50 ?_
                refine lv_topi (fun x_16 ex_16 => ?_)
                try rw [← ex_16] at hv
                have q_17 : x_11 = x_16 := ex_11.trans ex_16.symm
                subst q_17
                refine vp_callSi (W.runS (As := [.ref b0, .int x_11]) (rest := [.int y2_16]) ⟨hx, hb, hml, hown, hts⟩ (c_X12_inGroup l g Ty G b0 x_11 k_b0) (cwSx 2 hts hG (gwC mw_1566) mw_88 mw_1564 mw_1565 rfl rfl rfl hd_X12_inGroup ⟨Nat.le_of_ble_eq_true rfl, Nat.le_of_ble_eq_true rfl⟩) ⟨PcH_blind, PcH_pre hK hH⟩ rfl rfl hl.1 rfl (lv_room (Nat.le_of_ble_eq_true rfl)) dX12_spreadOf_51 ⟨Nat.zero_le _, Nat.zero_le _⟩) (fun x_18 hx_18 => ?_)
                try rw [← hx_18] at hv
                refine lv_aload_n hx hb dX12_spreadOf_54 rfl (lv_at hl 0 rfl) ?_
                refine lv_aload_n hx hb dX12_spreadOf_55 rfl (lv_at hl 0 rfl) ?_
                refine lv_bipush (v := 48) hx hb dX12_spreadOf_56 (by decide) ?_
                refine lv_iload hx hb dX12_spreadOf_58 (lv_at hl 3 rfl) ?_
                refine lv_iadd hx hb dX12_spreadOf_60 ?_
                refine lv_topi (fun x_19 ex_19 => ?_)
                try rw [← ex_19] at hv
                have rx_19 : rgI (48) (71) x_19 := by rw [ex_19]; exact rg_w (rg_add rl_48 r_4 (by decide) (by decide)) (by decide) (by decide)
                have q_20 : x_9 = x_19 := ex_9.trans ex_19.symm
                subst q_20
                refine hg_iald hx hb hK o_c_10 (rg_in (n := 122) rx_19 (by decide) (by decide)) dX12_spreadOf_61 ?_
                refine lv_topi (fun x_21 ex_21 => ?_)
                try rw [← ex_21] at hv
                have q_22 : x_11 = x_21 := ex_11.trans ex_21.symm
                subst q_22
                refine vp_callSi (W.runS (As := [.ref b0, .int x_11]) (rest := [.int x_18, .int y2_16]) ⟨hx, hb, hml, hown, hts⟩ (c_X12_slavesOf l g Ty G b0 x_11 k_b0) (cwSx 2 hts hG (gwC mw_1569) mw_88 mw_1567 mw_1568 rfl rfl rfl hd_X12_slavesOf ⟨Nat.le_of_ble_eq_true rfl, Nat.le_of_ble_eq_true rfl⟩) ⟨PcH_blind, PcH_pre hK hH⟩ rfl rfl hl.1 rfl (lv_room (Nat.le_of_ble_eq_true rfl)) dX12_spreadOf_62 ⟨Nat.zero_le _, Nat.zero_le _⟩) (fun x_23 hx_23 => ?_)
                try rw [← hx_23] at hv
                refine lv_ior hx hb dX12_spreadOf_65 ?_
                refine lv_topi (fun x_24 ex_24 => ?_)
                try rw [← ex_24] at hv
                refine lv_ior hx hb dX12_spreadOf_66 ?_
                refine lv_topi (fun x_25 ex_25 => ?_)
                try rw [← ex_25] at hv
                refine lv_istore_n (lv' := [(2, .int x_25), (0, .ref b0), (3, .int y2_6), (4, .int y4_16)]) hx hb dX12_spreadOf_67 rfl hl (by decide) rfl (fun ls hl => ?_)
                exact L_68 x_25 ls r_4 (by rw [ex_25]; exact SB.or hi0_16 (by rw [ex_24]; exact (SB.or (by rw [hx_18]; exact SB_inGroup) (by rw [hx_23]; exact SB_slavesOf)))) (by rw [ex_25]; exact Nat.le_trans hi1_16 (tn_or _ _)) hi2_16 (lv_sub hl [1, 0, 2, 3] rfl) hv
      rw [F_X12_spreadOf_6] at hv
      refine lv_iload_n hx hb dX12_spreadOf_6 rfl (lv_at hl 2 rfl) ?_
      refine lv_iload_n hx hb dX12_spreadOf_7 rfl (lv_at hl 1 rfl) ?_
      refine lv_icmp_eq (tgt := 77) hx hb dX12_spreadOf_8 (by decide) (fun c_26 => ?_) (fun c_26 => ?_)
      · rw [if_pos c_26] at hv
        refine lv_iload_n hx hb dX12_spreadOf_77 rfl (lv_at hl 1 rfl) ?_
        exact W.iret hx hb hr (fun t ht hW => ⟨y2_6, rfl, ⟨hi0_6, hv⟩, ht⟩) (fun q h => by cases h) dX12_spreadOf_78
      · rw [if_neg c_26] at hv
        refine lv_iload_n hx hb dX12_spreadOf_11 rfl (lv_at hl 1 rfl) ?_
        refine lv_istore_n (lv' := [(3, .int y2_6), (0, .ref b0), (2, .int y2_6)]) hx hb dX12_spreadOf_12 rfl hl (by decide) rfl (fun ls hl => ?_)
        refine lv_iconst (v := 0) hx hb dX12_spreadOf_13 (by decide) ?_
        refine lv_istore (lv' := [(4, .int 0), (3, .int y2_6), (0, .ref b0), (2, .int y2_6)]) hx hb dX12_spreadOf_14 hl (by decide) rfl (fun ls hl => ?_)
        exact L_16 26 y2_6 0 ls (rg_w rl_0 (by decide) (by decide)) hi0_6 (Nat.le_refl _) c_26 (by decide) (lv_sub hl [2, 3, 1, 0] rfl) hv
  refine lv_iconst (v := 1) hx hb dX12_spreadOf_0 (by decide) ?_
  refine lv_iload_n hx hb dX12_spreadOf_1 rfl (lv_at hl 1 rfl) ?_
  refine lv_ishl hx hb dX12_spreadOf_2 ?_
  refine lv_topi (fun x_27 ex_27 => ?_)
  try rw [← ex_27] at hv
  refine lv_istore_n (lv' := [(2, .int x_27), (0, .ref b0), (1, .int a1)]) hx hb dX12_spreadOf_3 rfl hl (by decide) rfl (fun ls hl => ?_)
  refine lv_iconst (v := 0) hx hb dX12_spreadOf_4 (by decide) ?_
  refine lv_istore_n (lv' := [(3, .int 0), (2, .int x_27), (0, .ref b0), (1, .int a1)]) hx hb dX12_spreadOf_5 rfl hl (by decide) rfl (fun ls hl => ?_)
  exact L_6 33554434 x_27 0 ls (by rw [ex_27]; exact SB.one hm0) (sp_le _ _) (lv_sub hl [2, 1, 0] rfl) hv
