theorem ru_ix {k n : Int32} {a b : Int} (hk : rgI a b k) (c : ¬ n ≤ k) (hn : n.toInt ≤ 40) (ha : 0 ≤ a := by decide) : vp_in k 40 := by
  have := fz_lt.mp (nle_lt c); have := hk.1
  exact vp_in_iff.mpr ⟨by omega, by omega⟩

set_option maxHeartbeats 4000000 in
set_option maxRecDepth 100000 in
theorem c_X12_rule (l : Launch) (g : Gx) (Ty : TyM) (G : Gh) (sz : Nat) (h0 : Nat) (k_h0 : Ty h0 = some (22, 0)) (Bd : Int) (hI : OI g Bd G) (hBd : Bd ≤ 1900000) (hLD : LD g) : Met l yX12_rule (wsG yX12_rule cX12_rule 3 (some .int)) ({ frames := 339, cells := 0, slots := 0, locals := 7939 }) (PcT g Ty G sz [.ref h0]) (QwI g Ty sz (fun r u => u.1 = Ty ∧ FR [102, 107, 108, 109, 110, 114, 105, 113] [(g.2.2 111)] [106] G u.2 ∧ OI g (Bd + 1000) u.2 ∧ rgI 0 0 (u.2.1 102))) 0 0 (AF Ty sz) := by
  refine Met.ofW (cc := cX12_rule) (maxL := 3) (ret := (some .int)) (by decide) rfl ?_
  intro p e s m args below meth c s₁ B hml hv
  obtain ⟨rfl, hsz, hK, hH⟩ := hv
  subst hsz
  have hx := B.exec
  have hb := B.bytes
  have hr := B.returns
  have hts := atoms_spec (ws := (wsG yX12_rule cX12_rule 3 (some .int))) B.pre
  have hG : ∀ w ∈ GW, w.before ([.ref h0] : List Value).toArray s = true := fun w h => hts w (List.mem_cons_of_mem _ h)
  have hown : s.vm.findClass RX12 = some m.cls := findClass_of_methodNamed B.named
  have hlocks := B.notSynchronized
  have hl := lv_entry [.ref h0] (n := 3) (Nat.le_of_ble_eq_true rfl)
  rw [lg_entry_eq]
  generalize (lg_sl [.ref h0] ++ List.replicate (3 - (lg_sl [.ref h0]).length) Slot.unset).toArray = ls at hl ⊢
  have hl : lv_has ls 3 [(0, .ref h0)] := hl
  have hmk : mdK g Ty := mdk_of hH k_h0
  have hS : va_S (AF Ty s.heap.size) s.heap s.heap [] := va_S.rf
  obtain ⟨⟨σ0, hTS0⟩, h10, hBB0⟩ := id hI.ti
  obtain ⟨ρ, hT⟩ := hTS0.1
  have L_26 : ∀ (n : Nat) (H : Heap) (locs : List Loc) (G_26 : Gh) (fl4_26 : Nat → Int32) (y1_26 : Int32) (y2_26 : Int32) (ls : Array Slot), rgI (0) (0) (G_26.1 102) → rgI (0) (40) (G_26.1 113) → FR [102, 107, 108, 109, 110, 114, 105, 113] [(g.2.2 111)] [106] G G_26 → G_26.2.1 (g.2.2 111) = fl4_26 → rgI (0) (80) y1_26 → rgI (0) (2147483647) y2_26 → (y1_26 : Int32).toInt ≤ 40 → (80 - (y2_26).toInt).toNat < n → lv_has ls 3 [(0, .ref h0), (1, .int y1_26), (2, .int y2_26)] → HT g Ty G_26 H → va_S (AF Ty s.heap.size) s.heap H locs → Wm p l e (wsG yX12_rule cX12_rule 3 (some .int)) ({ frames := 339, cells := 0, slots := 0, locals := 7939 }) s m [.ref h0] below meth c H locs (0) (0) (QwI g Ty s.heap.size (fun r u => u.1 = Ty ∧ FR [102, 107, 108, 109, 110, 114, 105, 113] [(g.2.2 111)] [106] G u.2 ∧ OI g (Bd + 1000) u.2 ∧ rgI 0 0 (u.2.1 102))) 0 0 (AF Ty s.heap.size) (F0 m 26 ls []) := by
    intro n
    induction n with
    | zero => intro H locs G_26 fl4_26 y1_26 y2_26 ls rg102_26 rg113_26 frL_26 efl4_26 ry1_26 ry2_26 hi0_26 hm; exact absurd hm (Nat.not_lt_zero _)
    | succ n ih_26 =>
      intro H locs G_26 fl4_26 y1_26 y2_26 ls rg102_26 rg113_26 frL_26 efl4_26 ry1_26 ry2_26 hi0_26 hm_26 hl hH hS
      refine lv_iload_n hx hb dX12_rule_26 rfl (lv_at hl 2 rfl) ?_
      refine lv_iload_n hx hb dX12_rule_27 rfl (lv_at hl 1 rfl) ?_
      refine lv_icmp_ge (tgt := 49) hx hb dX12_rule_28 (by decide) (fun c_1 => ?_) (fun c_1 => ?_)
      · refine lv_aload_n hx hb dX12_rule_49 rfl (lv_at hl 0 rfl) ?_
        refine lv_iload_n hx hb dX12_rule_50 rfl (lv_at hl 1 rfl) ?_
        have r4_2 : rgI 0 40 y1_26 := ⟨(ry1_26).1, hi0_26⟩
        obtain ⟨_, ⟨rfl, t_4, hk_5⟩, o_c_3⟩ := hH h0 _ k_h0
        refine hg_put (ty := .int) hx hb hG igX12 tyX12 tyX12_ok nmX12 hown hK hS o_c_3 (AF.of k_h0) rfl 13 (by decide) (hG _ mw_1297) rfl (by decide +kernel) rfl rfl (Nat.le_of_ble_eq_true rfl) dX12_rule_51 (fun H locs o_c_3 hz oq hS => ?_)
        obtain ⟨G_6, eG_6⟩ : ∃ z : Gh, z = gset G_26 113 y1_26 := ⟨_, rfl⟩
        have hH : HT g Ty G_6 H := by rw [eG_6]; exact HT.putN 113 y1_26 hH k_h0 ⟨rfl, t_4, hk_5⟩ o_c_3 oq (Or.inr (Or.inr (Or.inr (Or.inr (Or.inr ⟨by decide, t_4⟩)))))
        have fr_7 : FR [102, 107, 108, 109, 110, 114, 105, 113] [(g.2.2 111)] [106] G G_6 := FR.n frL_26 eG_6 (by decide)
        have u_8 : G_6.1 102 = (G_26.1 102) := by rw [eG_6]; exact (gs_ne (by decide))
        have u_9 : G_6.1 104 = (G.1 104) := by rw [eG_6]; exact (gs_ne (by decide)).trans (frL_26.1 104 (by decide))
        have u_10 : G_6.1 122 = (G.1 122) := by rw [eG_6]; exact (gs_ne (by decide)).trans (frL_26.1 122 (by decide))
        have u_11 : G_6.1 133 = (G.1 133) := by rw [eG_6]; exact (gs_ne (by decide)).trans (frL_26.1 133 (by decide))
        have u_12 : G_6.1 137 = (G.1 137) := by rw [eG_6]; exact (gs_ne (by decide)).trans (frL_26.1 137 (by decide))
        have u_13 : G_6.1 113 = y1_26 := by rw [eG_6]; exact gs_eq
        have w_14 : G_6.2.1 (g.2.2 100) = (G.2.1 (g.2.2 100)) := by rw [eG_6]; exact (frL_26.2.1 (g.2.2 100) ⟨(ne_kd hmk.1 hmk.2.2.2.2.2.2.2.2.2.2.2.2.2.2.2.2.2.2.2.2.1 (by decide)), trivial⟩)
        have w_15 : G_6.2.1 (g.2.2 121) = (G.2.1 (g.2.2 121)) := by rw [eG_6]; exact (frL_26.2.1 (g.2.2 121) ⟨(ne_kd hmk.2.2.2.2.2.1 hmk.2.2.2.2.2.2.2.2.2.2.2.2.2.2.2.2.2.2.2.2.1 (by decide)), trivial⟩)
        have w_16 : G_6.2.1 (g.2.2 140) = (G.2.1 (g.2.2 140)) := by rw [eG_6]; exact (frL_26.2.1 (g.2.2 140) ⟨(ne_kd hmk.2.2.2.2.2.2.2.2.2.2.2.2.2.2.2.2.2.2.1 hmk.2.2.2.2.2.2.2.2.2.2.2.2.2.2.2.2.2.2.2.2.1 (by decide)), trivial⟩)
        have w_17 : G_6.2.1 (g.2.2 141) = (G.2.1 (g.2.2 141)) := by rw [eG_6]; exact (frL_26.2.1 (g.2.2 141) ⟨(ne_kd hmk.2.2.2.2.2.2.2.2.2.2.2.2.2.2.2.2.2.2.2.1 hmk.2.2.2.2.2.2.2.2.2.2.2.2.2.2.2.2.2.2.2.2.1 (by decide)), trivial⟩)
        have w_18 : G_6.2.1 (g.2.2 111) = fl4_26 := by rw [eG_6]; exact efl4_26
        have u_19 : G_6.2.2 111 = some (g.2.2 111) := by rw [eG_6]; exact ((frL_26.2.2 111 (by decide)).trans hI.r111)
        have u_20 : G_6.2.2 112 = some (g.2.2 112) := by rw [eG_6]; exact ((frL_26.2.2 112 (by decide)).trans hI.r112)
        clear oq hz
        refine lv_iconst (v := 0) hx hb dX12_rule_54 (by decide) ?_
        exact W.iret hx hb hr (fun t ht hWm => ⟨⟨0, (Ty, G_6), rfl, ⟨rfl, ⟨fr_7, ⟨⟨(by rw [u_8]; exact (rg_w rg102_26 (by decide) (by decide))), (by rw [u_9]; exact (rg_w hI.a104 (by decide) (by decide))), (by rw [u_13]; exact (rg_w r4_2 (by decide) (by decide))), (by rw [u_10]; exact (rg_w hI.a122 (by decide) (by decide))), (by rw [u_11]; exact (rg_w hI.a133 (by decide) (by decide))), (by rw [u_12]; exact (rg_w hI.a137 (by decide) (by decide))), u_19, u_20, (by rw [w_14]; exact (hI.ti.hi (show Bd ≤ Bd + 1000 by omega))), (hI.un2 (show Bd ≤ Bd + 1000 by omega) w_15 u_10), (hI.ke2 (show Bd ≤ Bd + 1000 by omega) w_16 w_17)⟩, (by rw [u_8]; exact (rg_w rg102_26 (by decide) (by decide)))⟩⟩⟩, by show HT g Ty G_6 t.heap; rw [ht]; exact hH⟩, hS.F ht⟩) hS.2.2 dX12_rule_55
      · have r_21 : rgI (0) (79) y2_26 := rg_w (rg_ltL ry2_26 ry1_26 (nle_lt c_1)) (by decide) (by decide)
        have r_22 : rgI (1) (80) y1_26 := rg_w (rg_ltR ry2_26 ry1_26 (nle_lt c_1)) (by decide) (by decide)
        refine lv_aload_n hx hb dX12_rule_31 rfl (lv_at hl 0 rfl) ?_
        obtain ⟨_, ⟨rfl, t_24, hk_25⟩, o_c_23⟩ := hH h0 _ k_h0
        refine hg_get hx hb hG igX12 hown hK o_c_23 rfl 11 (by decide) (hG _ mw_1295) rfl dX12_rule_32 ?_
        rw [show va_rf (G_26.2.2 111) = Value.ref (g.2.2 111) by rw [((frL_26.2.2 111 (by decide)).trans hI.r111)]; rfl]
        refine lv_iload_n hx hb dX12_rule_35 rfl (lv_at hl 2 rfl) ?_
        refine lv_aload_n hx hb dX12_rule_36 rfl (lv_at hl 0 rfl) ?_
        refine hg_get hx hb hG igX12 hown hK o_c_23 rfl 1 (by decide) (hG _ mw_1285) rfl dX12_rule_37 ?_
        refine lv_iload_n hx hb dX12_rule_40 rfl (lv_at hl 2 rfl) ?_
        obtain ⟨_, rfl, o_c_26⟩ := hH (g.2.2 101) _ hk_25.2.1
        have o_c_26 : va_at g.1 vwCl ((g.2.2 101), .inl (g.2.1 0, 80, .inl (G_26.2.1 (g.2.2 101)))) H := o_c_26
        refine hg_bald hx hb hK o_c_26 (rg_in (n := 80) r_21 (by decide) (by decide)) dX12_rule_41 ?_
        refine lv_topi (fun x_27 ex_27 => ?_)
        obtain ⟨_, rfl, o_c_28⟩ := hH (g.2.2 111) _ hmk.2.2.2.2.2.2.2.2.2.2.2.2.2.2.2.2.2.2.2.2.1
        have o_c_28 : va_at g.1 vwCl ((g.2.2 111), .inl (g.2.1 0, 40, .inl (G_26.2.1 (g.2.2 111)))) H := o_c_28
        have in_29 : vp_in y2_26 40 := (ru_ix r_21 c_1 hi0_26)
        refine hg_bast hx hb hK hS o_c_28 (AF.of hmk.2.2.2.2.2.2.2.2.2.2.2.2.2.2.2.2.2.2.2.2.1) in_29 dX12_rule_42 (fun H locs o_c_28 hz oq hS => ?_)
        obtain ⟨G_30, eG_30⟩ : ∃ z : Gh, z = aset G_26 (g.2.2 111) (upd (G_26.2.1 (g.2.2 111)) (y2_26 : Int32).toNatClampNeg (vp_nar .byte x_27)) := ⟨_, rfl⟩
        have hH : HT g Ty G_30 H := by rw [eG_30]; exact HT.putA (upd (G_26.2.1 (g.2.2 111)) (y2_26 : Int32).toNatClampNeg (vp_nar .byte x_27)) hH hmk.2.2.2.2.2.2.2.2.2.2.2.2.2.2.2.2.2.2.2.2.1 cf31 o_c_28 oq
        obtain ⟨f_31, ef_31⟩ : ∃ z : Nat → Int32, z = (upd fl4_26 (y2_26 : Int32).toNatClampNeg (vp_nar .byte x_27)) := ⟨_, rfl⟩
        have eaf_31 : G_30 = aset G_26 (g.2.2 111) f_31 := by rw [eG_30, ef_31, efl4_26]
        have fr_32 : FR [102, 107, 108, 109, 110, 114, 105, 113] [(g.2.2 111)] [106] G G_30 := FR.a frL_26 eaf_31 (fun b h => h.1)
        have u_33 : G_30.1 102 = (G_26.1 102) := by rw [eaf_31]; exact rfl
        have u_34 : G_30.1 113 = (G_26.1 113) := by rw [eaf_31]; exact rfl
        have u_35 : G_30.1 104 = (G.1 104) := by rw [eaf_31]; exact (frL_26.1 104 (by decide))
        have u_36 : G_30.1 122 = (G.1 122) := by rw [eaf_31]; exact (frL_26.1 122 (by decide))
        have u_37 : G_30.1 133 = (G.1 133) := by rw [eaf_31]; exact (frL_26.1 133 (by decide))
        have u_38 : G_30.1 137 = (G.1 137) := by rw [eaf_31]; exact (frL_26.1 137 (by decide))
        have w_39 : G_30.2.1 (g.2.2 100) = (G.2.1 (g.2.2 100)) := by rw [eaf_31]; exact (aset_ne (ne_kd hmk.1 hmk.2.2.2.2.2.2.2.2.2.2.2.2.2.2.2.2.2.2.2.2.1 (by decide))).trans (frL_26.2.1 (g.2.2 100) ⟨(ne_kd hmk.1 hmk.2.2.2.2.2.2.2.2.2.2.2.2.2.2.2.2.2.2.2.2.1 (by decide)), trivial⟩)
        have w_40 : G_30.2.1 (g.2.2 121) = (G.2.1 (g.2.2 121)) := by rw [eaf_31]; exact (aset_ne (ne_kd hmk.2.2.2.2.2.1 hmk.2.2.2.2.2.2.2.2.2.2.2.2.2.2.2.2.2.2.2.2.1 (by decide))).trans (frL_26.2.1 (g.2.2 121) ⟨(ne_kd hmk.2.2.2.2.2.1 hmk.2.2.2.2.2.2.2.2.2.2.2.2.2.2.2.2.2.2.2.2.1 (by decide)), trivial⟩)
        have w_41 : G_30.2.1 (g.2.2 140) = (G.2.1 (g.2.2 140)) := by rw [eaf_31]; exact (aset_ne (ne_kd hmk.2.2.2.2.2.2.2.2.2.2.2.2.2.2.2.2.2.2.1 hmk.2.2.2.2.2.2.2.2.2.2.2.2.2.2.2.2.2.2.2.2.1 (by decide))).trans (frL_26.2.1 (g.2.2 140) ⟨(ne_kd hmk.2.2.2.2.2.2.2.2.2.2.2.2.2.2.2.2.2.2.1 hmk.2.2.2.2.2.2.2.2.2.2.2.2.2.2.2.2.2.2.2.2.1 (by decide)), trivial⟩)
        have w_42 : G_30.2.1 (g.2.2 141) = (G.2.1 (g.2.2 141)) := by rw [eaf_31]; exact (aset_ne (ne_kd hmk.2.2.2.2.2.2.2.2.2.2.2.2.2.2.2.2.2.2.2.1 hmk.2.2.2.2.2.2.2.2.2.2.2.2.2.2.2.2.2.2.2.2.1 (by decide))).trans (frL_26.2.1 (g.2.2 141) ⟨(ne_kd hmk.2.2.2.2.2.2.2.2.2.2.2.2.2.2.2.2.2.2.2.1 hmk.2.2.2.2.2.2.2.2.2.2.2.2.2.2.2.2.2.2.2.2.1 (by decide)), trivial⟩)
        have w_43 : G_30.2.1 (g.2.2 111) = f_31 := by rw [eaf_31]; exact aset_eq
        have u_44 : G_30.2.2 111 = some (g.2.2 111) := by rw [eaf_31]; exact ((frL_26.2.2 111 (by decide)).trans hI.r111)
        have u_45 : G_30.2.2 112 = some (g.2.2 112) := by rw [eaf_31]; exact ((frL_26.2.2 112 (by decide)).trans hI.r112)
        clear oq hz
        obtain ⟨x_46, ex_46⟩ : ∃ y : Int32, y = y2_26 + 1 := ⟨_, rfl⟩
        have rx_46 : rgI (1) (80) x_46 := by rw [ex_46]; exact rg_w (rg_add r_21 rl_1 (by decide) (by decide)) (by decide) (by decide)
        have qx_46 : x_46.toInt = (y2_26 : Int32).toInt + 1 := by rw [ex_46]; exact rg_addE r_21 rl_1 (by decide) (by decide)
        refine lv_iinc (v := x_46) (lv' := [(2, .int x_46), (0, .ref h0), (1, .int y1_26)]) hx hb dX12_rule_43 hl (k := 2) rfl (by rw [ex_46]; rfl) (by decide) rfl (fun ls hl => ?_)
        refine lv_goto (tgt := 26) hx hb dX12_rule_46 (by decide) ?_
        exact ih_26 H locs G_30 f_31 y1_26 x_46 ls (by rw [u_33]; exact rg_w rg102_26 (by decide) (by decide)) (by rw [u_34]; exact rg_w rg113_26 (by decide) (by decide)) fr_32 w_43 (rg_w r_22 (by decide) (by decide)) (rg_w rx_46 (by decide) (by decide)) hi0_26 (by have h1 := qx_46; have h2 := r_21.1; have h3 := r_21.2; have h4 := hm_26; omega) (lv_sub hl [1, 2, 0] rfl) hH hS
  refine lv_aload_n hx hb dX12_rule_0 rfl (lv_at hl 0 rfl) ?_
  refine lv_iconst (v := 0) hx hb dX12_rule_1 (by decide) ?_
  obtain ⟨_, ⟨rfl, t_48, hk_49⟩, o_c_47⟩ := hH h0 _ k_h0
  refine hg_put (ty := .int) hx hb hG igX12 tyX12 tyX12_ok nmX12 hown hK hS o_c_47 (AF.of k_h0) rfl 5 (by decide) (hG _ mw_1289) rfl (by decide +kernel) rfl rfl (Nat.le_of_ble_eq_true rfl) dX12_rule_2 (fun H locs o_c_47 hz oq hS => ?_)
  obtain ⟨G_50, eG_50⟩ : ∃ z : Gh, z = gset G 105 0 := ⟨_, rfl⟩
  have hH : HT g Ty G_50 H := by rw [eG_50]; exact HT.putN 105 0 hH k_h0 ⟨rfl, t_48, hk_49⟩ o_c_47 oq (Or.inr (Or.inr (Or.inr (Or.inr (Or.inr ⟨by decide, t_48⟩)))))
  have fr_51 : FR [102, 107, 108, 109, 110, 114, 105, 113] [(g.2.2 111)] [106] G G_50 := FR.n FR.rf eG_50 (by decide)
  have u_52 : G_50.1 102 = (G.1 102) := by rw [eG_50]; exact (gs_ne (by decide))
  have u_53 : G_50.1 104 = (G.1 104) := by rw [eG_50]; exact (gs_ne (by decide))
  have u_54 : G_50.1 113 = (G.1 113) := by rw [eG_50]; exact (gs_ne (by decide))
  have u_55 : G_50.1 122 = (G.1 122) := by rw [eG_50]; exact (gs_ne (by decide))
  have u_56 : G_50.1 133 = (G.1 133) := by rw [eG_50]; exact (gs_ne (by decide))
  have u_57 : G_50.1 137 = (G.1 137) := by rw [eG_50]; exact (gs_ne (by decide))
  have u_58 : G_50.1 105 = 0 := by rw [eG_50]; exact gs_eq
  have w_59 : G_50.2.1 (g.2.2 100) = (G.2.1 (g.2.2 100)) := by rw [eG_50]; exact rfl
  have w_60 : G_50.2.1 (g.2.2 121) = (G.2.1 (g.2.2 121)) := by rw [eG_50]; exact rfl
  have w_61 : G_50.2.1 (g.2.2 140) = (G.2.1 (g.2.2 140)) := by rw [eG_50]; exact rfl
  have w_62 : G_50.2.1 (g.2.2 141) = (G.2.1 (g.2.2 141)) := by rw [eG_50]; exact rfl
  have w_63 : G_50.2.1 (g.2.2 111) = (G.2.1 (g.2.2 111)) := by rw [eG_50]; exact rfl
  have u_64 : G_50.2.2 111 = some (g.2.2 111) := by rw [eG_50]; exact hI.r111
  have u_65 : G_50.2.2 112 = some (g.2.2 112) := by rw [eG_50]; exact hI.r112
  clear oq hz
  refine lv_aload_n hx hb dX12_rule_5 rfl (lv_at hl 0 rfl) ?_
  obtain ⟨_, ⟨rfl, t_67, hk_68⟩, o_c_66⟩ := hH h0 _ k_h0
  refine hg_get hx hb hG igX12 hown hK o_c_66 rfl 2 (by decide) (hG _ mw_1286) rfl dX12_rule_6 ?_
  rw [u_52]
  refine lv_istore_n (lv' := [(1, .int (G.1 102)), (0, .ref h0)]) hx hb dX12_rule_9 rfl hl (by decide) rfl (fun ls hl => ?_)
  refine lv_aload_n hx hb dX12_rule_10 rfl (lv_at hl 1 rfl) ?_
  refine va_calli (va_runV (As := []) (rest := []) ⟨hx, hb, hml, hown, hts⟩ (c_X12_readRule l g Ty G_50 H.size h0 k_h0 (by rw [u_52]; exact (rg_w hI.a102 (by decide) (by decide)))) (cwV 0 hts (gwV mw_1431 mw_1433 mw_31 mw_88 mw_1434) rfl rfl rfl hv_X12_readRule ⟨Nat.le_of_ble_eq_true rfl, Nat.le_of_ble_eq_true rfl⟩) ⟨PcT_blind, hg_recv hK o_c_66 rfl, PcT_pre hK hH⟩ rfl rfl hl.1 rfl (lv_room (Nat.le_of_ble_eq_true rfl)) dX12_rule_11 ⟨Nat.zero_le _, Nat.zero_le _⟩) hS (fun q _ h => AF.mono hS.1 h) (fun q h => AF.mono hS.1 h) (fun x_69 ux_69 t H locs ht hvm hx_69 hB hz hk hS => ?_)
  obtain ⟨hx_69, fx_69⟩ := hx_69
  obtain ⟨eTx_69, eGx_69⟩ := fx_69
  obtain ⟨G_70, eG_70⟩ : ∃ z, z = ux_69.2 := ⟨_, rfl⟩
  rw [← eG_70] at eGx_69
  obtain ⟨hfr_71, hex_72⟩ := eGx_69
  have fr_73 : FR [102, 107, 108, 109, 110, 114, 105, 113] [(g.2.2 111)] [106] G G_70 := FR.tr fr_51 hfr_71 (by decide) (fun _ _ => trivial) (by decide)
  have u_74 : G_70.1 104 = (G.1 104) := (hfr_71.1 104 (by decide)).trans u_53
  have u_75 : G_70.1 113 = (G.1 113) := (hfr_71.1 113 (by decide)).trans u_54
  have u_76 : G_70.1 122 = (G.1 122) := (hfr_71.1 122 (by decide)).trans u_55
  have u_77 : G_70.1 133 = (G.1 133) := (hfr_71.1 133 (by decide)).trans u_56
  have u_78 : G_70.1 137 = (G.1 137) := (hfr_71.1 137 (by decide)).trans u_57
  have u_79 : G_70.1 105 = 0 := (hfr_71.1 105 (by decide)).trans u_58
  have w_80 : G_70.2.1 (g.2.2 100) = (G.2.1 (g.2.2 100)) := (hfr_71.2.1 (g.2.2 100) trivial).trans w_59
  have w_81 : G_70.2.1 (g.2.2 121) = (G.2.1 (g.2.2 121)) := (hfr_71.2.1 (g.2.2 121) trivial).trans w_60
  have w_82 : G_70.2.1 (g.2.2 140) = (G.2.1 (g.2.2 140)) := (hfr_71.2.1 (g.2.2 140) trivial).trans w_61
  have w_83 : G_70.2.1 (g.2.2 141) = (G.2.1 (g.2.2 141)) := (hfr_71.2.1 (g.2.2 141) trivial).trans w_62
  have w_84 : G_70.2.1 (g.2.2 111) = (G.2.1 (g.2.2 111)) := (hfr_71.2.1 (g.2.2 111) trivial).trans w_63
  have u_85 : G_70.2.2 111 = some (g.2.2 111) := (hfr_71.2.2 111 (by decide)).trans u_64
  have u_86 : G_70.2.2 112 = some (g.2.2 112) := (hfr_71.2.2 112 (by decide)).trans u_65
  have u_87 : G_70.1 102 = 0 := hex_72.1
  have r40_88 : ¬ x_69 = 0 → ((G.1 102) : Int32).toInt ≤ 40 := (by rw [← u_52]; exact hex_72.2)
  have hH : HT g Ty G_70 H := by rw [← ht, ← eTx_69, eG_70]; exact hB
  have rx_69 : rgI (0) (1) x_69 := hx_69
  refine lv_if_ne (tgt := 24) hx hb dX12_rule_14 (by decide) (fun c_89 => ?_) (fun c_89 => ?_)
  · have r_90 : rgI (1) (1) x_69 := rg_w (rg_neL rx_69 rl_0 c_89) (by decide) (by decide)
    refine lv_iconst (v := 0) hx hb dX12_rule_24 (by decide) ?_
    refine lv_istore_n (lv' := [(2, .int 0), (1, .int (G.1 102)), (0, .ref h0)]) hx hb dX12_rule_25 rfl hl (by decide) rfl (fun ls hl => ?_)
    exact L_26 _ H locs G_70 (G.2.1 (g.2.2 111)) (G.1 102) 0 ls (by rw [u_87]; exact rg_w rl_0 (by decide) (by decide)) (by rw [u_75]; exact rg_w hI.a113 (by decide) (by decide)) fr_73 w_84 hI.a102 (rg_w rl_0 (by decide) (by decide)) (r40_88 c_89) (Nat.lt_succ_self _) (lv_sub hl [2, 1, 0] rfl) hH hS
  · have r_91 : rgI (0) (0) x_69 := rg_w (rg_eq rl_0 c_89) (by decide) (by decide)
    refine lv_iconst (v := (-1)) hx hb dX12_rule_17 (by decide) ?_
    refine lv_aload_n hx hb dX12_rule_18 rfl (lv_at hl 1 rfl) ?_
    obtain ⟨_, ⟨rfl, t_93, hk_94⟩, o_c_92⟩ := hH h0 _ k_h0
    refine hg_get hx hb hG igX12 hown hK o_c_92 rfl 10 (by decide) (hG _ mw_1294) rfl dX12_rule_19 ?_
    refine lv_isub hx hb dX12_rule_22 ?_
    refine lv_topi (fun x_95 ex_95 => ?_)
    exact W.iret hx hb hr (fun t ht hWm => ⟨⟨x_95, (Ty, G_70), rfl, ⟨rfl, ⟨fr_73, ⟨⟨(by rw [u_87]; exact (rg_w rl_0 (by decide) (by decide))), (by rw [u_74]; exact (rg_w hI.a104 (by decide) (by decide))), (by rw [u_75]; exact (rg_w hI.a113 (by decide) (by decide))), (by rw [u_76]; exact (rg_w hI.a122 (by decide) (by decide))), (by rw [u_77]; exact (rg_w hI.a133 (by decide) (by decide))), (by rw [u_78]; exact (rg_w hI.a137 (by decide) (by decide))), u_85, u_86, (by rw [w_80]; exact (hI.ti.hi (show Bd ≤ Bd + 1000 by omega))), (hI.un2 (show Bd ≤ Bd + 1000 by omega) w_81 u_76), (hI.ke2 (show Bd ≤ Bd + 1000 by omega) w_82 w_83)⟩, (by rw [u_87]; exact (rg_w rl_0 (by decide) (by decide)))⟩⟩⟩, by show HT g Ty G_70 t.heap; rw [ht]; exact hH⟩, hS.F ht⟩) hS.2.2 dX12_rule_23

set_option maxHeartbeats 4000000 in
set_option maxRecDepth 100000 in
theorem c_X12_bringsOf (l : Launch) (g : Gx) (Ty : TyM) (G : Gh) (sz : Nat) (h0 : Nat) (a0 : Int32) (a1 : Int32) (k_h0 : Ty h0 = some (22, 0)) (ρ : Nat → Nat) (hT : P1 (G.2.1 (g.2.2 100)) ρ) (rl : Nat) (krl : Ty rl = some (31, 40)) (hr1 : G.2.2 111 = some rl) (hr3 : rgI 0 40 (G.1 113)) : Met l yX12_bringsOf (wsG yX12_bringsOf cX12_bringsOf 3 (some .int)) ({ frames := 341, cells := 0, slots := 0, locals := 7993 }) (PcT g Ty G sz [.ref h0, .int a0, .int a1]) (QwI g Ty sz (fun r u => u.1 = Ty ∧ FR [107, 108, 109, 110, 114] [(g.2.2 115)] [106] G u.2)) 0 0 (AF Ty sz) := by
  refine Met.ofW (cc := cX12_bringsOf) (maxL := 3) (ret := (some .int)) (by decide) rfl ?_
  intro p e s m args below meth c s₁ B hml hv
  obtain ⟨rfl, hsz, hK, hH⟩ := hv
  subst hsz
  have hx := B.exec
  have hb := B.bytes
  have hr := B.returns
  have hts := atoms_spec (ws := (wsG yX12_bringsOf cX12_bringsOf 3 (some .int))) B.pre
  have hG : ∀ w ∈ GW, w.before ([.ref h0, .int a0, .int a1] : List Value).toArray s = true := fun w h => hts w (List.mem_cons_of_mem _ h)
  have hown : s.vm.findClass RX12 = some m.cls := findClass_of_methodNamed B.named
  have hlocks := B.notSynchronized
  have hl := lv_entry [.ref h0, .int a0, .int a1] (n := 3) (Nat.le_of_ble_eq_true rfl)
  rw [lg_entry_eq]
  generalize (lg_sl [.ref h0, .int a0, .int a1] ++ List.replicate (3 - (lg_sl [.ref h0, .int a0, .int a1]).length) Slot.unset).toArray = ls at hl ⊢
  have hl : lv_has ls 3 [(0, .ref h0), (1, .int a0), (2, .int a1)] := hl
  have hmk : mdK g Ty := mdk_of hH k_h0
  have hS : va_S (AF Ty s.heap.size) s.heap s.heap [] := va_S.rf
  refine lv_aload_n hx hb dX12_bringsOf_0 rfl (lv_at hl 0 rfl) ?_
  refine lv_aload_n hx hb dX12_bringsOf_1 rfl (lv_at hl 0 rfl) ?_
  obtain ⟨_, ⟨rfl, t_2, hk_3⟩, o_c_1⟩ := hH h0 _ k_h0
  refine hg_get hx hb hG igX12 hown hK o_c_1 rfl 0 (by decide) (hG _ mw_1284) rfl dX12_bringsOf_2 ?_
  refine lv_iload_n hx hb dX12_bringsOf_5 rfl (lv_at hl 1 rfl) ?_
  refine lv_iload_n hx hb dX12_bringsOf_6 rfl (lv_at hl 2 rfl) ?_
  refine va_calli (va_runV (As := [.ref (g.2.2 100), .int a0, .int a1]) (rest := []) ⟨hx, hb, hml, hown, hts⟩ (c_X12_refusesComing l g Ty G s.heap.size h0 (g.2.2 100) a0 a1 k_h0 (hk_3.1) ρ hT rl krl hr1 hr3) (cwV 3 hts (gwV mw_1546 mw_1548 mw_50 mw_88 mw_1549) rfl rfl rfl hv_X12_refusesComing ⟨Nat.le_of_ble_eq_true rfl, Nat.le_of_ble_eq_true rfl⟩) ⟨PcT_blind, hg_recv hK o_c_1 rfl, PcT_pre hK hH⟩ rfl rfl hl.1 rfl (lv_room (Nat.le_of_ble_eq_true rfl)) dX12_bringsOf_7 ⟨Nat.zero_le _, Nat.zero_le _⟩) hS (fun q _ h => AF.mono hS.1 h) (fun q h => AF.mono hS.1 h) (fun x_4 ux_4 t H locs ht hvm hx_4 hB hz hk hS => ?_)
  obtain ⟨hx_4, fx_4⟩ := hx_4
  obtain ⟨eTx_4, eGx_4⟩ := fx_4
  obtain ⟨G_5, eG_5⟩ : ∃ z, z = ux_4.2 := ⟨_, rfl⟩
  rw [← eG_5] at eGx_4
  have fr_6 : FR [107, 108, 109, 110, 114] [(g.2.2 115)] [106] G G_5 := FR.tr FR.rf eGx_4 (by decide) (fun b h => ⟨h.1, trivial⟩) (by decide)
  have u_7 : G_5.1 113 = (G.1 113) := (eGx_4.1 113 (by decide))
  have w_8 : G_5.2.1 (g.2.2 100) = (G.2.1 (g.2.2 100)) := (eGx_4.2.1 (g.2.2 100) ⟨(ne_kd hmk.1 hmk.2.2.2.1 (by decide)), trivial⟩)
  have w_9 : G_5.2.1 rl = (G.2.1 rl) := (eGx_4.2.1 rl ⟨(ne_kd krl hmk.2.2.2.1 (by decide)), trivial⟩)
  have u_10 : G_5.2.2 111 = some rl := (eGx_4.2.2 111 (by decide)).trans hr1
  have hH : HT g Ty G_5 H := by rw [← ht, ← eTx_4, eG_5]; exact hB
  have rx_4 : rgI (-9) (0) x_4 := hx_4.1
  refine lv_if_ge (tgt := 17) hx hb dX12_bringsOf_10 (by decide) (fun c_11 => ?_) (fun c_11 => ?_)
  · have r_12 : rgI (0) (0) x_4 := rg_w (rg_leR rl_0 rx_4 c_11) (by decide) (by decide)
    have c0_13 := hx_4.2 (rg_00 rx_4 c_11)
    refine lv_iconst (v := 1) hx hb dX12_bringsOf_17 (by decide) ?_
    refine lv_aload_n hx hb dX12_bringsOf_18 rfl (lv_at hl 0 rfl) ?_
    refine lv_aload_n hx hb dX12_bringsOf_19 rfl (lv_at hl 0 rfl) ?_
    obtain ⟨_, ⟨rfl, t_15, hk_16⟩, o_c_14⟩ := hH h0 _ k_h0
    refine hg_get hx hb hG igX12 hown hK o_c_14 rfl 0 (by decide) (hG _ mw_1284) rfl dX12_bringsOf_20 ?_
    refine lv_iload_n hx hb dX12_bringsOf_23 rfl (lv_at hl 1 rfl) ?_
    refine lv_iload_n hx hb dX12_bringsOf_24 rfl (lv_at hl 2 rfl) ?_
    refine va_calli (va_runV (As := [.ref (g.2.2 100), .int a0, .int a1]) (rest := [.int 1]) ⟨hx, hb, hml, hown, hts⟩ (c_X12_hitsOf l g Ty G_5 H.size h0 (g.2.2 100) a0 a1 k_h0 (hk_16.1) ρ (by rw [w_8]; exact hT) (by rw [w_8]; exact c0_13.1) rl krl u_10 (by rw [u_7]; exact hr3)) (cwV 3 hts (gwV mw_1554 mw_1556 mw_51 mw_88 mw_1557) rfl rfl rfl hv_X12_hitsOf ⟨Nat.le_of_ble_eq_true rfl, Nat.le_of_ble_eq_true rfl⟩) ⟨PcT_blind, hg_recv hK o_c_14 rfl, PcT_pre hK hH⟩ rfl rfl hl.1 rfl (lv_room (Nat.le_of_ble_eq_true rfl)) dX12_bringsOf_25 ⟨Nat.zero_le _, Nat.zero_le _⟩) hS (fun q _ h => AF.mono hS.1 h) (fun q h => AF.mono hS.1 h) (fun x_17 ux_17 t H locs ht hvm hx_17 hB hz hk hS => ?_)
    obtain ⟨hx_17, fx_17⟩ := hx_17
    obtain ⟨eTx_17, eGx_17⟩ := fx_17
    obtain ⟨G_18, eG_18⟩ : ∃ z, z = ux_17.2 := ⟨_, rfl⟩
    rw [← eG_18] at eGx_17
    have fr_19 : FR [107, 108, 109, 110, 114] [(g.2.2 115)] [106] G G_18 := FR.tr fr_6 eGx_17 (by decide) (fun b h => ⟨h.1, trivial⟩) (by decide)
    have u_20 : G_18.1 113 = (G.1 113) := (eGx_17.1 113 (by decide)).trans u_7
    have w_21 : G_18.2.1 (g.2.2 100) = (G.2.1 (g.2.2 100)) := (eGx_17.2.1 (g.2.2 100) ⟨(ne_kd hmk.1 hmk.2.2.2.1 (by decide)), trivial⟩).trans w_8
    have w_22 : G_18.2.1 rl = (G.2.1 rl) := (eGx_17.2.1 rl ⟨(ne_kd krl hmk.2.2.2.1 (by decide)), trivial⟩).trans w_9
    have u_23 : G_18.2.2 111 = some rl := (eGx_17.2.2 111 (by decide)).trans u_10
    have hH : HT g Ty G_18 H := by rw [← ht, ← eTx_17, eG_18]; exact hB
    have tx_24 := hx_17.1
    try rw [w_8] at tx_24
    try rw [w_9] at tx_24
    try rw [u_7] at tx_24
    have tx_25 := hx_17.2
    try rw [w_8] at tx_25
    try rw [w_9] at tx_25
    try rw [u_7] at tx_25
    refine vp_callSi (W.runS (As := [.int x_17]) (rest := [.int 1]) ⟨hx, hb, hml, hown, hts⟩ (c_J6_bitCount_x l g Ty G_18 x_17 ) (cwSx 1 hts hG (gwC mw_620) mw_99 mw_1553 mw_619 rfl rfl rfl hd_J6_bitCount_0f7a4 ⟨Nat.le_of_ble_eq_true rfl, Nat.le_of_ble_eq_true rfl⟩) ⟨PcH_blind, PcH_pre hK hH⟩ rfl rfl hl.1 rfl (lv_room (Nat.le_of_ble_eq_true rfl)) dX12_bringsOf_28 ⟨Nat.zero_le _, Nat.zero_le _⟩) (fun x_26 hx_26 => ?_)
    have rx_26 : rgI (0) (63) x_26 := hx_26.1
    refine lv_iadd hx hb dX12_bringsOf_31 ?_
    refine lv_topi (fun x_27 ex_27 => ?_)
    have rx_27 : rgI (1) (64) x_27 := by rw [ex_27]; exact rg_w (rg_add rl_1 rx_26 (by decide) (by decide)) (by decide) (by decide)
    exact W.iret hx hb hr (fun t ht hWm => ⟨⟨x_27, (Ty, G_18), rfl, ⟨rfl, fr_19⟩, by show HT g Ty G_18 t.heap; rw [ht]; exact hH⟩, hS.F ht⟩) hS.2.2 dX12_bringsOf_32
  · have r_28 : rgI (-9) (-1) x_4 := rg_w (rg_ltL rx_4 rl_0 (nle_lt c_11)) (by decide) (by decide)
    refine lv_iconst (v := 0) hx hb dX12_bringsOf_13 (by decide) ?_
    refine lv_goto (tgt := 32) hx hb dX12_bringsOf_14 (by decide) ?_
    exact W.iret hx hb hr (fun t ht hWm => ⟨⟨0, (Ty, G_5), rfl, ⟨rfl, fr_6⟩, by show HT g Ty G_5 t.heap; rw [ht]; exact hH⟩, hS.F ht⟩) hS.2.2 dX12_bringsOf_32

set_option maxHeartbeats 4000000 in
set_option maxRecDepth 100000 in
theorem c_X12_law (l : Launch) (g : Gx) (Ty : TyM) (G : Gh) (sz : Nat) (h0 : Nat) (a0 : Int32) (a1 : Int32) (k_h0 : Ty h0 = some (22, 0)) (Bd : Int) (hI : OI g Bd G) (hBd : Bd ≤ 1900000) (hLD : LD g) : Met l yX12_law (wsG yX12_law cX12_law 8 (some .int)) ({ frames := 342, cells := 0, slots := 0, locals := 8015 }) (PcT g Ty G sz [.ref h0, .int a0, .int a1]) (QwI g Ty sz (fun r u => u.1 = Ty ∧ FR [102, 107, 108, 109, 110, 114, 104, 105, 113] [(g.2.2 115), (g.2.2 112)] [106, 111] G u.2 ∧ OI g (Bd + 1000) u.2 ∧ rgI 0 0 (u.2.1 102))) 0 0 (AF Ty sz) := by
  refine Met.ofW (cc := cX12_law) (maxL := 8) (ret := (some .int)) (by decide) rfl ?_
  intro p e s m args below meth c s₁ B hml hv
  obtain ⟨rfl, hsz, hK, hH⟩ := hv
  subst hsz
  have hx := B.exec
  have hb := B.bytes
  have hr := B.returns
  have hts := atoms_spec (ws := (wsG yX12_law cX12_law 8 (some .int))) B.pre
  have hG : ∀ w ∈ GW, w.before ([.ref h0, .int a0, .int a1] : List Value).toArray s = true := fun w h => hts w (List.mem_cons_of_mem _ h)
  have hown : s.vm.findClass RX12 = some m.cls := findClass_of_methodNamed B.named
  have hlocks := B.notSynchronized
  have hl := lv_entry [.ref h0, .int a0, .int a1] (n := 8) (Nat.le_of_ble_eq_true rfl)
  rw [lg_entry_eq]
  generalize (lg_sl [.ref h0, .int a0, .int a1] ++ List.replicate (8 - (lg_sl [.ref h0, .int a0, .int a1]).length) Slot.unset).toArray = ls at hl ⊢
  have hl : lv_has ls 8 [(0, .ref h0), (1, .int a0), (2, .int a1)] := hl
  have hmk : mdK g Ty := mdk_of hH k_h0
  have hS : va_S (AF Ty s.heap.size) s.heap s.heap [] := va_S.rf
  obtain ⟨⟨σ0, hTS0⟩, h10, hBB0⟩ := id hI.ti
  obtain ⟨ρ, hT⟩ := hTS0.1
  have L_83 : ∀ (n : Nat) (H : Heap) (locs : List Loc) (G_83 : Gh) (fl5_83 : Nat → Int32) (y3_83 : Int32) (y4_83 : Int32) (y6_83 : Int32) (y7_83 : Int32) (ls : Array Slot), rgI (0) (40) (G_83.1 113) → rgI (0) (0) (G_83.1 102) → rgI (0) (32) (G_83.1 104) → FR [102, 107, 108, 109, 110, 114, 104, 105, 113] [(g.2.2 115), (g.2.2 112)] [106, 111] G G_83 → G_83.2.1 (g.2.2 112) = fl5_83 → G_83.2.2 111 = some (g.2.2 112) → rgI (0) (23) a0 → rgI (0) (3) a1 → rgI (0) (40) y3_83 → Ty (g.2.2 111) = some (31, 40) → rgI (0) (40) y6_83 → rgI (0) (2147483647) y7_83 → (40 - (y7_83).toInt).toNat < n → lv_has ls 8 [(0, .ref h0), (1, .int a0), (2, .int a1), (3, .int y3_83), (4, .int y4_83), (5, .ref (g.2.2 111)), (6, .int y6_83), (7, .int y7_83)] → HT g Ty G_83 H → va_S (AF Ty s.heap.size) s.heap H locs → Wm p l e (wsG yX12_law cX12_law 8 (some .int)) ({ frames := 342, cells := 0, slots := 0, locals := 8015 }) s m [.ref h0, .int a0, .int a1] below meth c H locs (0) (0) (QwI g Ty s.heap.size (fun r u => u.1 = Ty ∧ FR [102, 107, 108, 109, 110, 114, 104, 105, 113] [(g.2.2 115), (g.2.2 112)] [106, 111] G u.2 ∧ OI g (Bd + 1000) u.2 ∧ rgI 0 0 (u.2.1 102))) 0 0 (AF Ty s.heap.size) (F0 m 83 ls []) := by
    intro n
    induction n with
    | zero => intro H locs G_83 fl5_83 y3_83 y4_83 y6_83 y7_83 ls rg113_83 rg102_83 rg104_83 frL_83 efl5_83 lr111_83 ry1_83 ry2_83 ry3_83 ky5_83 ry6_83 ry7_83 hm; exact absurd hm (Nat.not_lt_zero _)
    | succ n ih_83 =>
      intro H locs G_83 fl5_83 y3_83 y4_83 y6_83 y7_83 ls rg113_83 rg102_83 rg104_83 frL_83 efl5_83 lr111_83 ry1_83 ry2_83 ry3_83 ky5_83 ry6_83 ry7_83 hm_83 hl hH hS
      refine lv_iload hx hb dX12_law_83 (lv_at hl 7 rfl) ?_
      refine lv_iload_n hx hb dX12_law_85 rfl (lv_at hl 3 rfl) ?_
      refine lv_icmp_ge (tgt := 109) hx hb dX12_law_86 (by decide) (fun c_1 => ?_) (fun c_1 => ?_)
      · refine lv_aload_n hx hb dX12_law_109 rfl (lv_at hl 0 rfl) ?_
        refine lv_iload_n hx hb dX12_law_110 rfl (lv_at hl 1 rfl) ?_
        refine lv_iload_n hx hb dX12_law_111 rfl (lv_at hl 2 rfl) ?_
        obtain ⟨_, ⟨rfl, t_3, hk_4⟩, o_c_2⟩ := hH h0 _ k_h0
        refine va_calli (va_runV (As := [.int a0, .int a1]) (rest := []) ⟨hx, hb, hml, hown, hts⟩ (c_X12_bringsOf l g Ty G_83 H.size h0 a0 a1 k_h0 ρ (by rw [(frL_83.2.1 (g.2.2 100) ⟨(ne_kd hmk.1 hmk.2.2.2.1 (by decide)), (ne_kd hmk.1 hmk.2.2.2.2.2.2.2.2.2.2.2.2.2.2.2.2.2.2.2.2.2 (by decide)), trivial⟩)]; exact hT) (g.2.2 112) hmk.2.2.2.2.2.2.2.2.2.2.2.2.2.2.2.2.2.2.2.2.2 lr111_83 rg113_83) (cwV 2 hts (gwV mw_1853 mw_1855 mw_72 mw_88 mw_1856) rfl rfl rfl hv_X12_bringsOf ⟨Nat.le_of_ble_eq_true rfl, Nat.le_of_ble_eq_true rfl⟩) ⟨PcT_blind, hg_recv hK o_c_2 rfl, PcT_pre hK hH⟩ rfl rfl hl.1 rfl (lv_room (Nat.le_of_ble_eq_true rfl)) dX12_law_112 ⟨Nat.zero_le _, Nat.zero_le _⟩) hS (fun q _ h => AF.mono hS.1 h) (fun q h => AF.mono hS.1 h) (fun x_5 ux_5 t H locs ht hvm hx_5 hB hz hk hS => ?_)
        obtain ⟨eTx_5, eGx_5⟩ := hx_5
        obtain ⟨G_6, eG_6⟩ : ∃ z, z = ux_5.2 := ⟨_, rfl⟩
        rw [← eG_6] at eGx_5
        have fr_7 : FR [102, 107, 108, 109, 110, 114, 104, 105, 113] [(g.2.2 115), (g.2.2 112)] [106, 111] G G_6 := FR.tr frL_83 eGx_5 (by decide) (fun b h => ⟨h.1, trivial⟩) (by decide)
        have u_8 : G_6.1 113 = (G_83.1 113) := (eGx_5.1 113 (by decide))
        have u_9 : G_6.1 102 = (G_83.1 102) := (eGx_5.1 102 (by decide))
        have u_10 : G_6.1 104 = (G_83.1 104) := (eGx_5.1 104 (by decide))
        have u_11 : G_6.1 122 = (G.1 122) := (eGx_5.1 122 (by decide)).trans (frL_83.1 122 (by decide))
        have u_12 : G_6.1 133 = (G.1 133) := (eGx_5.1 133 (by decide)).trans (frL_83.1 133 (by decide))
        have u_13 : G_6.1 137 = (G.1 137) := (eGx_5.1 137 (by decide)).trans (frL_83.1 137 (by decide))
        have w_14 : G_6.2.1 (g.2.2 100) = (G.2.1 (g.2.2 100)) := (eGx_5.2.1 (g.2.2 100) ⟨(ne_kd hmk.1 hmk.2.2.2.1 (by decide)), trivial⟩).trans (frL_83.2.1 (g.2.2 100) ⟨(ne_kd hmk.1 hmk.2.2.2.1 (by decide)), (ne_kd hmk.1 hmk.2.2.2.2.2.2.2.2.2.2.2.2.2.2.2.2.2.2.2.2.2 (by decide)), trivial⟩)
        have w_15 : G_6.2.1 (g.2.2 121) = (G.2.1 (g.2.2 121)) := (eGx_5.2.1 (g.2.2 121) ⟨(ne_kd hmk.2.2.2.2.2.1 hmk.2.2.2.1 (by decide)), trivial⟩).trans (frL_83.2.1 (g.2.2 121) ⟨(ne_kd hmk.2.2.2.2.2.1 hmk.2.2.2.1 (by decide)), (ne_kd hmk.2.2.2.2.2.1 hmk.2.2.2.2.2.2.2.2.2.2.2.2.2.2.2.2.2.2.2.2.2 (by decide)), trivial⟩)
        have w_16 : G_6.2.1 (g.2.2 140) = (G.2.1 (g.2.2 140)) := (eGx_5.2.1 (g.2.2 140) ⟨(ne_kd hmk.2.2.2.2.2.2.2.2.2.2.2.2.2.2.2.2.2.2.1 hmk.2.2.2.1 (by decide)), trivial⟩).trans (frL_83.2.1 (g.2.2 140) ⟨(ne_kd hmk.2.2.2.2.2.2.2.2.2.2.2.2.2.2.2.2.2.2.1 hmk.2.2.2.1 (by decide)), (ne_kd hmk.2.2.2.2.2.2.2.2.2.2.2.2.2.2.2.2.2.2.1 hmk.2.2.2.2.2.2.2.2.2.2.2.2.2.2.2.2.2.2.2.2.2 (by decide)), trivial⟩)
        have w_17 : G_6.2.1 (g.2.2 141) = (G.2.1 (g.2.2 141)) := (eGx_5.2.1 (g.2.2 141) ⟨(ne_kd hmk.2.2.2.2.2.2.2.2.2.2.2.2.2.2.2.2.2.2.2.1 hmk.2.2.2.1 (by decide)), trivial⟩).trans (frL_83.2.1 (g.2.2 141) ⟨(ne_kd hmk.2.2.2.2.2.2.2.2.2.2.2.2.2.2.2.2.2.2.2.1 hmk.2.2.2.1 (by decide)), (ne_kd hmk.2.2.2.2.2.2.2.2.2.2.2.2.2.2.2.2.2.2.2.1 hmk.2.2.2.2.2.2.2.2.2.2.2.2.2.2.2.2.2.2.2.2.2 (by decide)), trivial⟩)
        have w_18 : G_6.2.1 (g.2.2 111) = (G.2.1 (g.2.2 111)) := (eGx_5.2.1 (g.2.2 111) ⟨(ne_kd hmk.2.2.2.2.2.2.2.2.2.2.2.2.2.2.2.2.2.2.2.2.1 hmk.2.2.2.1 (by decide)), trivial⟩).trans (frL_83.2.1 (g.2.2 111) ⟨(ne_kd hmk.2.2.2.2.2.2.2.2.2.2.2.2.2.2.2.2.2.2.2.2.1 hmk.2.2.2.1 (by decide)), (hLD 111 (by decide) 112 (by decide) (by decide)), trivial⟩)
        have w_19 : G_6.2.1 (g.2.2 112) = fl5_83 := (eGx_5.2.1 (g.2.2 112) ⟨(ne_kd hmk.2.2.2.2.2.2.2.2.2.2.2.2.2.2.2.2.2.2.2.2.2 hmk.2.2.2.1 (by decide)), trivial⟩).trans efl5_83
        have u_20 : G_6.2.2 112 = some (g.2.2 112) := (eGx_5.2.2 112 (by decide)).trans ((frL_83.2.2 112 (by decide)).trans hI.r112)
        have u_21 : G_6.2.2 111 = some (g.2.2 112) := (eGx_5.2.2 111 (by decide)).trans lr111_83
        have hH : HT g Ty G_6 H := by rw [← ht, ← eTx_5, eG_6]; exact hB
        refine lv_istore (lv' := [(7, .int x_5), (0, .ref h0), (1, .int a0), (2, .int a1), (3, .int y3_83), (4, .int y4_83), (5, .ref (g.2.2 111)), (6, .int y6_83)]) hx hb dX12_law_115 hl (by decide) rfl (fun ls hl => ?_)
        refine lv_aload_n hx hb dX12_law_117 rfl (lv_at hl 1 rfl) ?_
        refine lv_aload hx hb dX12_law_118 (lv_at hl 6 rfl) ?_
        obtain ⟨_, ⟨rfl, t_23, hk_24⟩, o_c_22⟩ := hH h0 _ k_h0
        refine hg_put (ty := (.array .byte)) hx hb hG igX12 tyX12 tyX12_ok nmX12 hown hK hS o_c_22 (AF.of k_h0) rfl 11 (by decide) (hG _ mw_1295) rfl (by decide +kernel) rfl rfl (Nat.le_of_ble_eq_true rfl) dX12_law_120 (fun H locs o_c_22 hz oq hS => ?_)
        obtain ⟨G_25, eG_25⟩ : ∃ z : Gh, z = rset G_6 111 (some (g.2.2 111)) := ⟨_, rfl⟩
        have hH : HT g Ty G_25 H := by rw [eG_25]; exact HT.putR 111 (some (g.2.2 111)) hH k_h0 ⟨rfl, t_23, hk_24⟩ o_c_22 oq t_23
        have fr_26 : FR [102, 107, 108, 109, 110, 114, 104, 105, 113] [(g.2.2 115), (g.2.2 112)] [106, 111] G G_25 := FR.r fr_7 eG_25 (by decide)
        have u_27 : G_25.1 113 = (G_83.1 113) := by rw [eG_25]; exact u_8
        have u_28 : G_25.1 102 = (G_83.1 102) := by rw [eG_25]; exact u_9
        have u_29 : G_25.1 104 = (G_83.1 104) := by rw [eG_25]; exact u_10
        have u_30 : G_25.1 122 = (G.1 122) := by rw [eG_25]; exact u_11
        have u_31 : G_25.1 133 = (G.1 133) := by rw [eG_25]; exact u_12
        have u_32 : G_25.1 137 = (G.1 137) := by rw [eG_25]; exact u_13
        have w_33 : G_25.2.1 (g.2.2 100) = (G.2.1 (g.2.2 100)) := by rw [eG_25]; exact w_14
        have w_34 : G_25.2.1 (g.2.2 121) = (G.2.1 (g.2.2 121)) := by rw [eG_25]; exact w_15
        have w_35 : G_25.2.1 (g.2.2 140) = (G.2.1 (g.2.2 140)) := by rw [eG_25]; exact w_16
        have w_36 : G_25.2.1 (g.2.2 141) = (G.2.1 (g.2.2 141)) := by rw [eG_25]; exact w_17
        have w_37 : G_25.2.1 (g.2.2 111) = (G.2.1 (g.2.2 111)) := by rw [eG_25]; exact w_18
        have w_38 : G_25.2.1 (g.2.2 112) = fl5_83 := by rw [eG_25]; exact w_19
        have u_39 : G_25.2.2 112 = some (g.2.2 112) := by rw [eG_25]; exact (rset_ne (by decide)).trans u_20
        have u_40 : G_25.2.2 111 = some (g.2.2 111) := by rw [eG_25]; exact rset_eq
        clear oq hz
        refine lv_aload_n hx hb dX12_law_123 rfl (lv_at hl 1 rfl) ?_
        refine lv_iload hx hb dX12_law_124 (lv_at hl 7 rfl) ?_
        obtain ⟨_, ⟨rfl, t_42, hk_43⟩, o_c_41⟩ := hH h0 _ k_h0
        refine hg_put (ty := .int) hx hb hG igX12 tyX12 tyX12_ok nmX12 hown hK hS o_c_41 (AF.of k_h0) rfl 13 (by decide) (hG _ mw_1297) rfl (by decide +kernel) rfl rfl (Nat.le_of_ble_eq_true rfl) dX12_law_126 (fun H locs o_c_41 hz oq hS => ?_)
        obtain ⟨G_44, eG_44⟩ : ∃ z : Gh, z = gset G_25 113 y6_83 := ⟨_, rfl⟩
        have hH : HT g Ty G_44 H := by rw [eG_44]; exact HT.putN 113 y6_83 hH k_h0 ⟨rfl, t_42, hk_43⟩ o_c_41 oq (Or.inr (Or.inr (Or.inr (Or.inr (Or.inr ⟨by decide, t_42⟩)))))
        have fr_45 : FR [102, 107, 108, 109, 110, 114, 104, 105, 113] [(g.2.2 115), (g.2.2 112)] [106, 111] G G_44 := FR.n fr_26 eG_44 (by decide)
        have u_46 : G_44.1 102 = (G_83.1 102) := by rw [eG_44]; exact (gs_ne (by decide)).trans u_28
        have u_47 : G_44.1 104 = (G_83.1 104) := by rw [eG_44]; exact (gs_ne (by decide)).trans u_29
        have u_48 : G_44.1 122 = (G.1 122) := by rw [eG_44]; exact (gs_ne (by decide)).trans u_30
        have u_49 : G_44.1 133 = (G.1 133) := by rw [eG_44]; exact (gs_ne (by decide)).trans u_31
        have u_50 : G_44.1 137 = (G.1 137) := by rw [eG_44]; exact (gs_ne (by decide)).trans u_32
        have u_51 : G_44.1 113 = y6_83 := by rw [eG_44]; exact gs_eq
        have w_52 : G_44.2.1 (g.2.2 100) = (G.2.1 (g.2.2 100)) := by rw [eG_44]; exact w_33
        have w_53 : G_44.2.1 (g.2.2 121) = (G.2.1 (g.2.2 121)) := by rw [eG_44]; exact w_34
        have w_54 : G_44.2.1 (g.2.2 140) = (G.2.1 (g.2.2 140)) := by rw [eG_44]; exact w_35
        have w_55 : G_44.2.1 (g.2.2 141) = (G.2.1 (g.2.2 141)) := by rw [eG_44]; exact w_36
        have w_56 : G_44.2.1 (g.2.2 111) = (G.2.1 (g.2.2 111)) := by rw [eG_44]; exact w_37
        have w_57 : G_44.2.1 (g.2.2 112) = fl5_83 := by rw [eG_44]; exact w_38
        have u_58 : G_44.2.2 112 = some (g.2.2 112) := by rw [eG_44]; exact u_39
        have u_59 : G_44.2.2 111 = some (g.2.2 111) := by rw [eG_44]; exact u_40
        clear oq hz
        refine lv_aload_n hx hb dX12_law_129 rfl (lv_at hl 1 rfl) ?_
        refine lv_iconst (v := 0) hx hb dX12_law_130 (by decide) ?_
        obtain ⟨_, ⟨rfl, t_61, hk_62⟩, o_c_60⟩ := hH h0 _ k_h0
        refine hg_put (ty := .int) hx hb hG igX12 tyX12 tyX12_ok nmX12 hown hK hS o_c_60 (AF.of k_h0) rfl 4 (by decide) (hG _ mw_1288) rfl (by decide +kernel) rfl rfl (Nat.le_of_ble_eq_true rfl) dX12_law_131 (fun H locs o_c_60 hz oq hS => ?_)
        obtain ⟨G_63, eG_63⟩ : ∃ z : Gh, z = gset G_44 104 0 := ⟨_, rfl⟩
        have hH : HT g Ty G_63 H := by rw [eG_63]; exact HT.putN 104 0 hH k_h0 ⟨rfl, t_61, hk_62⟩ o_c_60 oq (Or.inr (Or.inr (Or.inr (Or.inr (Or.inr ⟨by decide, t_61⟩)))))
        have fr_64 : FR [102, 107, 108, 109, 110, 114, 104, 105, 113] [(g.2.2 115), (g.2.2 112)] [106, 111] G G_63 := FR.n fr_45 eG_63 (by decide)
        have u_65 : G_63.1 102 = (G_83.1 102) := by rw [eG_63]; exact (gs_ne (by decide)).trans u_46
        have u_66 : G_63.1 122 = (G.1 122) := by rw [eG_63]; exact (gs_ne (by decide)).trans u_48
        have u_67 : G_63.1 133 = (G.1 133) := by rw [eG_63]; exact (gs_ne (by decide)).trans u_49
        have u_68 : G_63.1 137 = (G.1 137) := by rw [eG_63]; exact (gs_ne (by decide)).trans u_50
        have u_69 : G_63.1 113 = y6_83 := by rw [eG_63]; exact (gs_ne (by decide)).trans u_51
        have u_70 : G_63.1 104 = 0 := by rw [eG_63]; exact gs_eq
        have w_71 : G_63.2.1 (g.2.2 100) = (G.2.1 (g.2.2 100)) := by rw [eG_63]; exact w_52
        have w_72 : G_63.2.1 (g.2.2 121) = (G.2.1 (g.2.2 121)) := by rw [eG_63]; exact w_53
        have w_73 : G_63.2.1 (g.2.2 140) = (G.2.1 (g.2.2 140)) := by rw [eG_63]; exact w_54
        have w_74 : G_63.2.1 (g.2.2 141) = (G.2.1 (g.2.2 141)) := by rw [eG_63]; exact w_55
        have w_75 : G_63.2.1 (g.2.2 111) = (G.2.1 (g.2.2 111)) := by rw [eG_63]; exact w_56
        have w_76 : G_63.2.1 (g.2.2 112) = fl5_83 := by rw [eG_63]; exact w_57
        have u_77 : G_63.2.2 112 = some (g.2.2 112) := by rw [eG_63]; exact u_58
        have u_78 : G_63.2.2 111 = some (g.2.2 111) := by rw [eG_63]; exact u_59
        clear oq hz
        refine lv_aload_n hx hb dX12_law_134 rfl (lv_at hl 1 rfl) ?_
        refine lv_iload hx hb dX12_law_135 (lv_at hl 0 rfl) ?_
        refine lv_i2l hx hb dX12_law_137 rfl ?_
        refine lv_topl (fun u_79 eu_79 => ?_)
        obtain ⟨_, ⟨rfl, t_81, hk_82⟩, o_c_80⟩ := hH h0 _ k_h0
        refine va_callv (va_runV (As := [.long u_79]) (rest := []) ⟨hx, hb, hml, hown, hts⟩ (c_X12_tell l g Ty G_63 H.size h0 u_79 k_h0 (by rw [u_70]; exact rg_w rl_0 (by decide) (by decide))) (cwV 1 hts (gwV mw_1510 mw_1512 mw_48 mw_88 mw_1513) rfl rfl rfl hv_X12_tell ⟨Nat.le_of_ble_eq_true rfl, Nat.le_of_ble_eq_true rfl⟩) ⟨PcT_blind, hg_recv hK o_c_80 rfl, PcT_pre hK hH⟩ rfl rfl hl.1 rfl (lv_room (Nat.le_of_ble_eq_true rfl)) dX12_law_138 ⟨Nat.zero_le _, Nat.zero_le _⟩) hS (fun q _ h => AF.mono hS.1 h) (fun q h => AF.mono hS.1 h) (fun ux_83 t H locs ht hvm hx_83 hB hz hk hS => ?_)
        obtain ⟨eTx_83, eGx_83⟩ := hx_83
        obtain ⟨G_84, eG_84⟩ : ∃ z, z = ux_83.2 := ⟨_, rfl⟩
        rw [← eG_84] at eGx_83
        obtain ⟨x_85, ex_85⟩ : ∃ z : Int32, z = 0 + 1 := ⟨_, rfl⟩
        have e_86 : G_84 = gset G_63 104 x_85 := by rw [ex_85, ← u_70]; exact eGx_83
        have rx_85 : rgI (1) (1) x_85 := by rw [ex_85]; exact rg_w (rg_add rl_0 rl_1 (by decide) (by decide)) (by decide) (by decide)
        have fr_87 : FR [102, 107, 108, 109, 110, 114, 104, 105, 113] [(g.2.2 115), (g.2.2 112)] [106, 111] G G_84 := FR.n fr_64 e_86 (by decide)
        have u_88 : G_84.1 102 = (G_83.1 102) := by rw [e_86]; exact (gs_ne (by decide)).trans u_65
        have u_89 : G_84.1 122 = (G.1 122) := by rw [e_86]; exact (gs_ne (by decide)).trans u_66
        have u_90 : G_84.1 133 = (G.1 133) := by rw [e_86]; exact (gs_ne (by decide)).trans u_67
        have u_91 : G_84.1 137 = (G.1 137) := by rw [e_86]; exact (gs_ne (by decide)).trans u_68
        have u_92 : G_84.1 113 = y6_83 := by rw [e_86]; exact (gs_ne (by decide)).trans u_69
        have u_93 : G_84.1 104 = x_85 := by rw [e_86]; exact gs_eq
        have w_94 : G_84.2.1 (g.2.2 100) = (G.2.1 (g.2.2 100)) := by rw [e_86]; exact w_71
        have w_95 : G_84.2.1 (g.2.2 121) = (G.2.1 (g.2.2 121)) := by rw [e_86]; exact w_72
        have w_96 : G_84.2.1 (g.2.2 140) = (G.2.1 (g.2.2 140)) := by rw [e_86]; exact w_73
        have w_97 : G_84.2.1 (g.2.2 141) = (G.2.1 (g.2.2 141)) := by rw [e_86]; exact w_74
        have w_98 : G_84.2.1 (g.2.2 111) = (G.2.1 (g.2.2 111)) := by rw [e_86]; exact w_75
        have w_99 : G_84.2.1 (g.2.2 112) = fl5_83 := by rw [e_86]; exact w_76
        have u_100 : G_84.2.2 112 = some (g.2.2 112) := by rw [e_86]; exact u_77
        have u_101 : G_84.2.2 111 = some (g.2.2 111) := by rw [e_86]; exact u_78
        have hH : HT g Ty G_84 H := by rw [← ht, ← eTx_83, eG_84]; exact hB
        refine lv_aload_n hx hb dX12_law_141 rfl (lv_at hl 1 rfl) ?_
        refine lv_iload hx hb dX12_law_142 (lv_at hl 5 rfl) ?_
        refine lv_i2l hx hb dX12_law_144 rfl ?_
        refine lv_topl (fun u_102 eu_102 => ?_)
        obtain ⟨_, ⟨rfl, t_104, hk_105⟩, o_c_103⟩ := hH h0 _ k_h0
        refine va_callv (va_runV (As := [.long u_102]) (rest := []) ⟨hx, hb, hml, hown, hts⟩ (c_X12_tell l g Ty G_84 H.size h0 u_102 k_h0 (by rw [u_93]; exact rg_w rx_85 (by decide) (by decide))) (cwV 1 hts (gwV mw_1510 mw_1512 mw_48 mw_88 mw_1513) rfl rfl rfl hv_X12_tell ⟨Nat.le_of_ble_eq_true rfl, Nat.le_of_ble_eq_true rfl⟩) ⟨PcT_blind, hg_recv hK o_c_103 rfl, PcT_pre hK hH⟩ rfl rfl hl.1 rfl (lv_room (Nat.le_of_ble_eq_true rfl)) dX12_law_145 ⟨Nat.zero_le _, Nat.zero_le _⟩) hS (fun q _ h => AF.mono hS.1 h) (fun q h => AF.mono hS.1 h) (fun ux_106 t H locs ht hvm hx_106 hB hz hk hS => ?_)
        obtain ⟨eTx_106, eGx_106⟩ := hx_106
        obtain ⟨G_107, eG_107⟩ : ∃ z, z = ux_106.2 := ⟨_, rfl⟩
        rw [← eG_107] at eGx_106
        obtain ⟨x_108, ex_108⟩ : ∃ z : Int32, z = x_85 + 1 := ⟨_, rfl⟩
        have e_109 : G_107 = gset G_84 104 x_108 := by rw [ex_108, ← u_93]; exact eGx_106
        have rx_108 : rgI (2) (2) x_108 := by rw [ex_108]; exact rg_w (rg_add rx_85 rl_1 (by decide) (by decide)) (by decide) (by decide)
        have fr_110 : FR [102, 107, 108, 109, 110, 114, 104, 105, 113] [(g.2.2 115), (g.2.2 112)] [106, 111] G G_107 := FR.n fr_87 e_109 (by decide)
        have u_111 : G_107.1 102 = (G_83.1 102) := by rw [e_109]; exact (gs_ne (by decide)).trans u_88
        have u_112 : G_107.1 122 = (G.1 122) := by rw [e_109]; exact (gs_ne (by decide)).trans u_89
        have u_113 : G_107.1 133 = (G.1 133) := by rw [e_109]; exact (gs_ne (by decide)).trans u_90
        have u_114 : G_107.1 137 = (G.1 137) := by rw [e_109]; exact (gs_ne (by decide)).trans u_91
        have u_115 : G_107.1 113 = y6_83 := by rw [e_109]; exact (gs_ne (by decide)).trans u_92
        have u_116 : G_107.1 104 = x_108 := by rw [e_109]; exact gs_eq
        have w_117 : G_107.2.1 (g.2.2 100) = (G.2.1 (g.2.2 100)) := by rw [e_109]; exact w_94
        have w_118 : G_107.2.1 (g.2.2 121) = (G.2.1 (g.2.2 121)) := by rw [e_109]; exact w_95
        have w_119 : G_107.2.1 (g.2.2 140) = (G.2.1 (g.2.2 140)) := by rw [e_109]; exact w_96
        have w_120 : G_107.2.1 (g.2.2 141) = (G.2.1 (g.2.2 141)) := by rw [e_109]; exact w_97
        have w_121 : G_107.2.1 (g.2.2 111) = (G.2.1 (g.2.2 111)) := by rw [e_109]; exact w_98
        have w_122 : G_107.2.1 (g.2.2 112) = fl5_83 := by rw [e_109]; exact w_99
        have u_123 : G_107.2.2 112 = some (g.2.2 112) := by rw [e_109]; exact u_100
        have u_124 : G_107.2.2 111 = some (g.2.2 111) := by rw [e_109]; exact u_101
        have hH : HT g Ty G_107 H := by rw [← ht, ← eTx_106, eG_107]; exact hB
        refine lv_iload hx hb dX12_law_148 (lv_at hl 0 rfl) ?_
        refine lv_iload hx hb dX12_law_150 (lv_at hl 5 rfl) ?_
        refine lv_isub hx hb dX12_law_152 ?_
        refine lv_topi (fun x_125 ex_125 => ?_)
        exact W.iret hx hb hr (fun t ht hWm => ⟨⟨x_125, (Ty, G_107), rfl, ⟨rfl, ⟨fr_110, ⟨⟨(by rw [u_111]; exact (rg_w rg102_83 (by decide) (by decide))), (by rw [u_116]; exact (rg_w rx_108 (by decide) (by decide))), (by rw [u_115]; exact (rg_w ry6_83 (by decide) (by decide))), (by rw [u_112]; exact (rg_w hI.a122 (by decide) (by decide))), (by rw [u_113]; exact (rg_w hI.a133 (by decide) (by decide))), (by rw [u_114]; exact (rg_w hI.a137 (by decide) (by decide))), u_124, u_123, (by rw [w_117]; exact (hI.ti.hi (show Bd ≤ Bd + 1000 by omega))), (hI.un2 (show Bd ≤ Bd + 1000 by omega) w_118 u_112), (hI.ke2 (show Bd ≤ Bd + 1000 by omega) w_119 w_120)⟩, (by rw [u_111]; exact (rg_w rg102_83 (by decide) (by decide)))⟩⟩⟩, by show HT g Ty G_107 t.heap; rw [ht]; exact hH⟩, hS.F ht⟩) hS.2.2 dX12_law_153
      · have r_126 : rgI (0) (39) y7_83 := rg_w (rg_ltL ry7_83 ry3_83 (nle_lt c_1)) (by decide) (by decide)
        have r_127 : rgI (1) (40) y3_83 := rg_w (rg_ltR ry7_83 ry3_83 (nle_lt c_1)) (by decide) (by decide)
        refine lv_aload_n hx hb dX12_law_89 rfl (lv_at hl 0 rfl) ?_
        obtain ⟨_, ⟨rfl, t_129, hk_130⟩, o_c_128⟩ := hH h0 _ k_h0
        refine hg_get hx hb hG igX12 hown hK o_c_128 rfl 11 (by decide) (hG _ mw_1295) rfl dX12_law_90 ?_
        rw [show va_rf (G_83.2.2 111) = Value.ref (g.2.2 112) by rw [lr111_83]; rfl]
        refine lv_iload hx hb dX12_law_93 (lv_at hl 7 rfl) ?_
        refine lv_aload_n hx hb dX12_law_95 rfl (lv_at hl 0 rfl) ?_
        refine hg_get hx hb hG igX12 hown hK o_c_128 rfl 1 (by decide) (hG _ mw_1285) rfl dX12_law_96 ?_
        refine lv_iload hx hb dX12_law_99 (lv_at hl 7 rfl) ?_
        obtain ⟨_, rfl, o_c_131⟩ := hH (g.2.2 101) _ hk_130.2.1
        have o_c_131 : va_at g.1 vwCl ((g.2.2 101), .inl (g.2.1 0, 80, .inl (G_83.2.1 (g.2.2 101)))) H := o_c_131
        refine hg_bald hx hb hK o_c_131 (rg_in (n := 80) r_126 (by decide) (by decide)) dX12_law_101 ?_
        refine lv_topi (fun x_132 ex_132 => ?_)
        obtain ⟨_, rfl, o_c_133⟩ := hH (g.2.2 112) _ hmk.2.2.2.2.2.2.2.2.2.2.2.2.2.2.2.2.2.2.2.2.2
        have o_c_133 : va_at g.1 vwCl ((g.2.2 112), .inl (g.2.1 0, 40, .inl (G_83.2.1 (g.2.2 112)))) H := o_c_133
        refine hg_bast hx hb hK hS o_c_133 (AF.of hmk.2.2.2.2.2.2.2.2.2.2.2.2.2.2.2.2.2.2.2.2.2) (rg_in (n := 40) r_126 (by decide) (by decide)) dX12_law_102 (fun H locs o_c_133 hz oq hS => ?_)
        obtain ⟨G_134, eG_134⟩ : ∃ z : Gh, z = aset G_83 (g.2.2 112) (upd (G_83.2.1 (g.2.2 112)) (y7_83 : Int32).toNatClampNeg (vp_nar .byte x_132)) := ⟨_, rfl⟩
        have hH : HT g Ty G_134 H := by rw [eG_134]; exact HT.putA (upd (G_83.2.1 (g.2.2 112)) (y7_83 : Int32).toNatClampNeg (vp_nar .byte x_132)) hH hmk.2.2.2.2.2.2.2.2.2.2.2.2.2.2.2.2.2.2.2.2.2 cf31 o_c_133 oq
        obtain ⟨f_135, ef_135⟩ : ∃ z : Nat → Int32, z = (upd fl5_83 (y7_83 : Int32).toNatClampNeg (vp_nar .byte x_132)) := ⟨_, rfl⟩
        have eaf_135 : G_134 = aset G_83 (g.2.2 112) f_135 := by rw [eG_134, ef_135, efl5_83]
        have fr_136 : FR [102, 107, 108, 109, 110, 114, 104, 105, 113] [(g.2.2 115), (g.2.2 112)] [106, 111] G G_134 := FR.a frL_83 eaf_135 (fun b h => h.2.1)
        have u_137 : G_134.1 113 = (G_83.1 113) := by rw [eaf_135]; exact rfl
        have u_138 : G_134.1 102 = (G_83.1 102) := by rw [eaf_135]; exact rfl
        have u_139 : G_134.1 104 = (G_83.1 104) := by rw [eaf_135]; exact rfl
        have u_140 : G_134.1 122 = (G.1 122) := by rw [eaf_135]; exact (frL_83.1 122 (by decide))
        have u_141 : G_134.1 133 = (G.1 133) := by rw [eaf_135]; exact (frL_83.1 133 (by decide))
        have u_142 : G_134.1 137 = (G.1 137) := by rw [eaf_135]; exact (frL_83.1 137 (by decide))
        have w_143 : G_134.2.1 (g.2.2 100) = (G.2.1 (g.2.2 100)) := by rw [eaf_135]; exact (aset_ne (ne_kd hmk.1 hmk.2.2.2.2.2.2.2.2.2.2.2.2.2.2.2.2.2.2.2.2.2 (by decide))).trans (frL_83.2.1 (g.2.2 100) ⟨(ne_kd hmk.1 hmk.2.2.2.1 (by decide)), (ne_kd hmk.1 hmk.2.2.2.2.2.2.2.2.2.2.2.2.2.2.2.2.2.2.2.2.2 (by decide)), trivial⟩)
        have w_144 : G_134.2.1 (g.2.2 121) = (G.2.1 (g.2.2 121)) := by rw [eaf_135]; exact (aset_ne (ne_kd hmk.2.2.2.2.2.1 hmk.2.2.2.2.2.2.2.2.2.2.2.2.2.2.2.2.2.2.2.2.2 (by decide))).trans (frL_83.2.1 (g.2.2 121) ⟨(ne_kd hmk.2.2.2.2.2.1 hmk.2.2.2.1 (by decide)), (ne_kd hmk.2.2.2.2.2.1 hmk.2.2.2.2.2.2.2.2.2.2.2.2.2.2.2.2.2.2.2.2.2 (by decide)), trivial⟩)
        have w_145 : G_134.2.1 (g.2.2 140) = (G.2.1 (g.2.2 140)) := by rw [eaf_135]; exact (aset_ne (ne_kd hmk.2.2.2.2.2.2.2.2.2.2.2.2.2.2.2.2.2.2.1 hmk.2.2.2.2.2.2.2.2.2.2.2.2.2.2.2.2.2.2.2.2.2 (by decide))).trans (frL_83.2.1 (g.2.2 140) ⟨(ne_kd hmk.2.2.2.2.2.2.2.2.2.2.2.2.2.2.2.2.2.2.1 hmk.2.2.2.1 (by decide)), (ne_kd hmk.2.2.2.2.2.2.2.2.2.2.2.2.2.2.2.2.2.2.1 hmk.2.2.2.2.2.2.2.2.2.2.2.2.2.2.2.2.2.2.2.2.2 (by decide)), trivial⟩)
        have w_146 : G_134.2.1 (g.2.2 141) = (G.2.1 (g.2.2 141)) := by rw [eaf_135]; exact (aset_ne (ne_kd hmk.2.2.2.2.2.2.2.2.2.2.2.2.2.2.2.2.2.2.2.1 hmk.2.2.2.2.2.2.2.2.2.2.2.2.2.2.2.2.2.2.2.2.2 (by decide))).trans (frL_83.2.1 (g.2.2 141) ⟨(ne_kd hmk.2.2.2.2.2.2.2.2.2.2.2.2.2.2.2.2.2.2.2.1 hmk.2.2.2.1 (by decide)), (ne_kd hmk.2.2.2.2.2.2.2.2.2.2.2.2.2.2.2.2.2.2.2.1 hmk.2.2.2.2.2.2.2.2.2.2.2.2.2.2.2.2.2.2.2.2.2 (by decide)), trivial⟩)
        have w_147 : G_134.2.1 (g.2.2 111) = (G.2.1 (g.2.2 111)) := by rw [eaf_135]; exact (aset_ne (hLD 111 (by decide) 112 (by decide) (by decide))).trans (frL_83.2.1 (g.2.2 111) ⟨(ne_kd hmk.2.2.2.2.2.2.2.2.2.2.2.2.2.2.2.2.2.2.2.2.1 hmk.2.2.2.1 (by decide)), (hLD 111 (by decide) 112 (by decide) (by decide)), trivial⟩)
        have w_148 : G_134.2.1 (g.2.2 112) = f_135 := by rw [eaf_135]; exact aset_eq
        have u_149 : G_134.2.2 112 = some (g.2.2 112) := by rw [eaf_135]; exact ((frL_83.2.2 112 (by decide)).trans hI.r112)
        have u_150 : G_134.2.2 111 = some (g.2.2 112) := by rw [eaf_135]; exact lr111_83
        clear oq hz
        obtain ⟨x_151, ex_151⟩ : ∃ y : Int32, y = y7_83 + 1 := ⟨_, rfl⟩
        have rx_151 : rgI (1) (40) x_151 := by rw [ex_151]; exact rg_w (rg_add r_126 rl_1 (by decide) (by decide)) (by decide) (by decide)
        have qx_151 : x_151.toInt = (y7_83 : Int32).toInt + 1 := by rw [ex_151]; exact rg_addE r_126 rl_1 (by decide) (by decide)
        refine lv_iinc (v := x_151) (lv' := [(7, .int x_151), (0, .ref h0), (1, .int a0), (2, .int a1), (3, .int y3_83), (4, .int y4_83), (5, .ref (g.2.2 111)), (6, .int y6_83)]) hx hb dX12_law_103 hl (k := 7) rfl (by rw [ex_151]; rfl) (by decide) rfl (fun ls hl => ?_)
        refine lv_goto (tgt := 83) hx hb dX12_law_106 (by decide) ?_
        exact ih_83 H locs G_134 f_135 y3_83 y4_83 y6_83 x_151 ls (by rw [u_137]; exact rg_w rg113_83 (by decide) (by decide)) (by rw [u_138]; exact rg_w rg102_83 (by decide) (by decide)) (by rw [u_139]; exact rg_w rg104_83 (by decide) (by decide)) fr_136 w_148 u_150 ry1_83 ry2_83 (rg_w r_127 (by decide) (by decide)) ky5_83 ry6_83 (rg_w rx_151 (by decide) (by decide)) (by have h1 := qx_151; have h2 := r_126.1; have h3 := r_126.2; have h4 := hm_83; omega) (lv_sub hl [1, 2, 3, 4, 5, 6, 7, 0] rfl) hH hS
  refine lv_aload_n hx hb dX12_law_0 rfl (lv_at hl 0 rfl) ?_
  refine lv_iconst (v := 0) hx hb dX12_law_1 (by decide) ?_
  obtain ⟨_, ⟨rfl, t_153, hk_154⟩, o_c_152⟩ := hH h0 _ k_h0
  refine hg_put (ty := .int) hx hb hG igX12 tyX12 tyX12_ok nmX12 hown hK hS o_c_152 (AF.of k_h0) rfl 5 (by decide) (hG _ mw_1289) rfl (by decide +kernel) rfl rfl (Nat.le_of_ble_eq_true rfl) dX12_law_2 (fun H locs o_c_152 hz oq hS => ?_)
  obtain ⟨G_155, eG_155⟩ : ∃ z : Gh, z = gset G 105 0 := ⟨_, rfl⟩
  have hH : HT g Ty G_155 H := by rw [eG_155]; exact HT.putN 105 0 hH k_h0 ⟨rfl, t_153, hk_154⟩ o_c_152 oq (Or.inr (Or.inr (Or.inr (Or.inr (Or.inr ⟨by decide, t_153⟩)))))
  have fr_156 : FR [102, 107, 108, 109, 110, 114, 104, 105, 113] [(g.2.2 115), (g.2.2 112)] [106, 111] G G_155 := FR.n FR.rf eG_155 (by decide)
  have u_157 : G_155.1 102 = (G.1 102) := by rw [eG_155]; exact (gs_ne (by decide))
  have u_158 : G_155.1 104 = (G.1 104) := by rw [eG_155]; exact (gs_ne (by decide))
  have u_159 : G_155.1 113 = (G.1 113) := by rw [eG_155]; exact (gs_ne (by decide))
  have u_160 : G_155.1 122 = (G.1 122) := by rw [eG_155]; exact (gs_ne (by decide))
  have u_161 : G_155.1 133 = (G.1 133) := by rw [eG_155]; exact (gs_ne (by decide))
  have u_162 : G_155.1 137 = (G.1 137) := by rw [eG_155]; exact (gs_ne (by decide))
  have u_163 : G_155.1 105 = 0 := by rw [eG_155]; exact gs_eq
  have w_164 : G_155.2.1 (g.2.2 100) = (G.2.1 (g.2.2 100)) := by rw [eG_155]; exact rfl
  have w_165 : G_155.2.1 (g.2.2 121) = (G.2.1 (g.2.2 121)) := by rw [eG_155]; exact rfl
  have w_166 : G_155.2.1 (g.2.2 140) = (G.2.1 (g.2.2 140)) := by rw [eG_155]; exact rfl
  have w_167 : G_155.2.1 (g.2.2 141) = (G.2.1 (g.2.2 141)) := by rw [eG_155]; exact rfl
  have w_168 : G_155.2.1 (g.2.2 111) = (G.2.1 (g.2.2 111)) := by rw [eG_155]; exact rfl
  have w_169 : G_155.2.1 (g.2.2 112) = (G.2.1 (g.2.2 112)) := by rw [eG_155]; exact rfl
  have u_170 : G_155.2.2 111 = some (g.2.2 111) := by rw [eG_155]; exact hI.r111
  have u_171 : G_155.2.2 112 = some (g.2.2 112) := by rw [eG_155]; exact hI.r112
  clear oq hz
  refine lv_aload_n hx hb dX12_law_5 rfl (lv_at hl 0 rfl) ?_
  obtain ⟨_, ⟨rfl, t_173, hk_174⟩, o_c_172⟩ := hH h0 _ k_h0
  refine hg_get hx hb hG igX12 hown hK o_c_172 rfl 2 (by decide) (hG _ mw_1286) rfl dX12_law_6 ?_
  rw [u_157]
  refine lv_istore_n (lv' := [(3, .int (G.1 102)), (0, .ref h0), (1, .int a0), (2, .int a1)]) hx hb dX12_law_9 rfl hl (by decide) rfl (fun ls hl => ?_)
  refine lv_aload_n hx hb dX12_law_10 rfl (lv_at hl 1 rfl) ?_
  refine va_calli (va_runV (As := []) (rest := []) ⟨hx, hb, hml, hown, hts⟩ (c_X12_readRule l g Ty G_155 H.size h0 k_h0 (by rw [u_157]; exact (rg_w hI.a102 (by decide) (by decide)))) (cwV 0 hts (gwV mw_1431 mw_1433 mw_31 mw_88 mw_1434) rfl rfl rfl hv_X12_readRule ⟨Nat.le_of_ble_eq_true rfl, Nat.le_of_ble_eq_true rfl⟩) ⟨PcT_blind, hg_recv hK o_c_172 rfl, PcT_pre hK hH⟩ rfl rfl hl.1 rfl (lv_room (Nat.le_of_ble_eq_true rfl)) dX12_law_11 ⟨Nat.zero_le _, Nat.zero_le _⟩) hS (fun q _ h => AF.mono hS.1 h) (fun q h => AF.mono hS.1 h) (fun x_175 ux_175 t H locs ht hvm hx_175 hB hz hk hS => ?_)
  obtain ⟨hx_175, fx_175⟩ := hx_175
  obtain ⟨eTx_175, eGx_175⟩ := fx_175
  obtain ⟨G_176, eG_176⟩ : ∃ z, z = ux_175.2 := ⟨_, rfl⟩
  rw [← eG_176] at eGx_175
  obtain ⟨hfr_177, hex_178⟩ := eGx_175
  have fr_179 : FR [102, 107, 108, 109, 110, 114, 104, 105, 113] [(g.2.2 115), (g.2.2 112)] [106, 111] G G_176 := FR.tr fr_156 hfr_177 (by decide) (fun _ _ => trivial) (by decide)
  have u_180 : G_176.1 104 = (G.1 104) := (hfr_177.1 104 (by decide)).trans u_158
  have u_181 : G_176.1 113 = (G.1 113) := (hfr_177.1 113 (by decide)).trans u_159
  have u_182 : G_176.1 122 = (G.1 122) := (hfr_177.1 122 (by decide)).trans u_160
  have u_183 : G_176.1 133 = (G.1 133) := (hfr_177.1 133 (by decide)).trans u_161
  have u_184 : G_176.1 137 = (G.1 137) := (hfr_177.1 137 (by decide)).trans u_162
  have u_185 : G_176.1 105 = 0 := (hfr_177.1 105 (by decide)).trans u_163
  have w_186 : G_176.2.1 (g.2.2 100) = (G.2.1 (g.2.2 100)) := (hfr_177.2.1 (g.2.2 100) trivial).trans w_164
  have w_187 : G_176.2.1 (g.2.2 121) = (G.2.1 (g.2.2 121)) := (hfr_177.2.1 (g.2.2 121) trivial).trans w_165
  have w_188 : G_176.2.1 (g.2.2 140) = (G.2.1 (g.2.2 140)) := (hfr_177.2.1 (g.2.2 140) trivial).trans w_166
  have w_189 : G_176.2.1 (g.2.2 141) = (G.2.1 (g.2.2 141)) := (hfr_177.2.1 (g.2.2 141) trivial).trans w_167
  have w_190 : G_176.2.1 (g.2.2 111) = (G.2.1 (g.2.2 111)) := (hfr_177.2.1 (g.2.2 111) trivial).trans w_168
  have w_191 : G_176.2.1 (g.2.2 112) = (G.2.1 (g.2.2 112)) := (hfr_177.2.1 (g.2.2 112) trivial).trans w_169
  have u_192 : G_176.2.2 111 = some (g.2.2 111) := (hfr_177.2.2 111 (by decide)).trans u_170
  have u_193 : G_176.2.2 112 = some (g.2.2 112) := (hfr_177.2.2 112 (by decide)).trans u_171
  have u_194 : G_176.1 102 = 0 := hex_178.1
  have r40_195 : ¬ x_175 = 0 → ((G.1 102) : Int32).toInt ≤ 40 := (by rw [← u_157]; exact hex_178.2)
  have hH : HT g Ty G_176 H := by rw [← ht, ← eTx_175, eG_176]; exact hB
  have rx_175 : rgI (0) (1) x_175 := hx_175
  refine lv_if_ne (tgt := 26) hx hb dX12_law_14 (by decide) (fun c_196 => ?_) (fun c_196 => ?_)
  · have r_197 : rgI (1) (1) x_175 := rg_w (rg_neL rx_175 rl_0 c_196) (by decide) (by decide)
    refine lv_aload_n hx hb dX12_law_26 rfl (lv_at hl 1 rfl) ?_
    obtain ⟨_, ⟨rfl, t_199, hk_200⟩, o_c_198⟩ := hH h0 _ k_h0
    refine hg_get hx hb hG igX12 hown hK o_c_198 rfl 0 (by decide) (hG _ mw_1284) rfl dX12_law_27 ?_
    refine lv_iload_n hx hb dX12_law_30 rfl (lv_at hl 2 rfl) ?_
    refine vp_callSi (W.runS (As := [.ref (g.2.2 100), .int a0]) (rest := []) ⟨hx, hb, hml, hown, hts⟩ (c_X12_isThere l g Ty G_176 (g.2.2 100) a0 (hk_200.1)) (cwSx 2 hts hG (gwC mw_1520) mw_88 mw_1518 mw_1519 rfl rfl rfl hd_X12_isThere ⟨Nat.le_of_ble_eq_true rfl, Nat.le_of_ble_eq_true rfl⟩) ⟨PcH_blind, PcH_pre hK hH⟩ rfl rfl hl.1 rfl (lv_room (Nat.le_of_ble_eq_true rfl)) dX12_law_31 ⟨Nat.zero_le _, Nat.zero_le _⟩) (fun x_201 hx_201 => ?_)
    have rx_201 : rgI (0) (1) x_201 := hx_201.1
    have ex_202 : x_201 = F_X12_isThere (G.2.1 (g.2.2 100)) a0 := by rw [← w_186]; exact hx_201.2.2
    refine lv_if_eq (tgt := 44) hx hb dX12_law_34 (by decide) (fun c_203 => ?_) (fun c_203 => ?_)
    · have r_204 : rgI (0) (0) x_201 := rg_w (rg_eq rl_0 c_203) (by decide) (by decide)
      refine lv_bipush (v := (-2)) hx hb dX12_law_44 (by decide) ?_
      exact W.iret hx hb hr (fun t ht hWm => ⟨⟨(-2), (Ty, G_176), rfl, ⟨rfl, ⟨fr_179, ⟨⟨(by rw [u_194]; exact (rg_w rl_0 (by decide) (by decide))), (by rw [u_180]; exact (rg_w hI.a104 (by decide) (by decide))), (by rw [u_181]; exact (rg_w hI.a113 (by decide) (by decide))), (by rw [u_182]; exact (rg_w hI.a122 (by decide) (by decide))), (by rw [u_183]; exact (rg_w hI.a133 (by decide) (by decide))), (by rw [u_184]; exact (rg_w hI.a137 (by decide) (by decide))), u_192, u_193, (by rw [w_186]; exact (hI.ti.hi (show Bd ≤ Bd + 1000 by omega))), (hI.un2 (show Bd ≤ Bd + 1000 by omega) w_187 u_182), (hI.ke2 (show Bd ≤ Bd + 1000 by omega) w_188 w_189)⟩, (by rw [u_194]; exact (rg_w rl_0 (by decide) (by decide)))⟩⟩⟩, by show HT g Ty G_176 t.heap; rw [ht]; exact hH⟩, hS.F ht⟩) hS.2.2 dX12_law_46
    · have th_205 : thr (G.2.1 (g.2.2 100)) a0 := F_isThere_thr (by rw [← ex_202]; exact c_203)
      have r_206 : rgI (1) (1) x_201 := rg_w (rg_neL rx_201 rl_0 c_203) (by decide) (by decide)
      have r_207 : rgI (0) (23) a0 := rg_w (hx_201.2.1.resolve_left c_203) (by decide) (by decide)
      refine lv_iload_n hx hb dX12_law_37 rfl (lv_at hl 3 rfl) ?_
      refine vp_callSi (W.runS (As := [.int a1]) (rest := []) ⟨hx, hb, hml, hown, hts⟩ (c_X12_isDir l g Ty G_176 a1 ) (cwSx 1 hts hG (gwC mw_1537) mw_88 mw_1535 mw_1536 rfl rfl rfl hd_X12_isDir ⟨Nat.le_of_ble_eq_true rfl, Nat.le_of_ble_eq_true rfl⟩) ⟨PcH_blind, PcH_pre hK hH⟩ rfl rfl hl.1 rfl (lv_room (Nat.le_of_ble_eq_true rfl)) dX12_law_38 ⟨Nat.zero_le _, Nat.zero_le _⟩) (fun x_208 hx_208 => ?_)
      have rx_208 : rgI (0) (1) x_208 := hx_208.1
      refine lv_if_ne (tgt := 47) hx hb dX12_law_41 (by decide) (fun c_209 => ?_) (fun c_209 => ?_)
      · have r_210 : rgI (1) (1) x_208 := rg_w (rg_neL rx_208 rl_0 c_209) (by decide) (by decide)
        have r_211 : rgI (0) (3) a1 := rg_w (F_isDir_rg (by rw [← hx_208.2]; exact c_209)) (by decide) (by decide)
        refine lv_aload_n hx hb dX12_law_47 rfl (lv_at hl 1 rfl) ?_
        refine lv_iload_n hx hb dX12_law_48 rfl (lv_at hl 2 rfl) ?_
        refine lv_iload_n hx hb dX12_law_49 rfl (lv_at hl 3 rfl) ?_
        refine va_calli (va_runV (As := [.int a0, .int a1]) (rest := []) ⟨hx, hb, hml, hown, hts⟩ (c_X12_bringsOf l g Ty G_176 H.size h0 a0 a1 k_h0 ρ (by rw [w_186]; exact hT) (g.2.2 111) hmk.2.2.2.2.2.2.2.2.2.2.2.2.2.2.2.2.2.2.2.2.1 u_192 (by rw [u_181]; exact hI.a113)) (cwV 2 hts (gwV mw_1853 mw_1855 mw_72 mw_88 mw_1856) rfl rfl rfl hv_X12_bringsOf ⟨Nat.le_of_ble_eq_true rfl, Nat.le_of_ble_eq_true rfl⟩) ⟨PcT_blind, hg_recv hK o_c_198 rfl, PcT_pre hK hH⟩ rfl rfl hl.1 rfl (lv_room (Nat.le_of_ble_eq_true rfl)) dX12_law_50 ⟨Nat.zero_le _, Nat.zero_le _⟩) hS (fun q _ h => AF.mono hS.1 h) (fun q h => AF.mono hS.1 h) (fun x_212 ux_212 t H locs ht hvm hx_212 hB hz hk hS => ?_)
        obtain ⟨eTx_212, eGx_212⟩ := hx_212
        obtain ⟨G_213, eG_213⟩ : ∃ z, z = ux_212.2 := ⟨_, rfl⟩
        rw [← eG_213] at eGx_212
        have fr_214 : FR [102, 107, 108, 109, 110, 114, 104, 105, 113] [(g.2.2 115), (g.2.2 112)] [106, 111] G G_213 := FR.tr fr_179 eGx_212 (by decide) (fun b h => ⟨h.1, trivial⟩) (by decide)
        have u_215 : G_213.1 104 = (G.1 104) := (eGx_212.1 104 (by decide)).trans u_180
        have u_216 : G_213.1 113 = (G.1 113) := (eGx_212.1 113 (by decide)).trans u_181
        have u_217 : G_213.1 122 = (G.1 122) := (eGx_212.1 122 (by decide)).trans u_182
        have u_218 : G_213.1 133 = (G.1 133) := (eGx_212.1 133 (by decide)).trans u_183
        have u_219 : G_213.1 137 = (G.1 137) := (eGx_212.1 137 (by decide)).trans u_184
        have u_220 : G_213.1 105 = 0 := (eGx_212.1 105 (by decide)).trans u_185
        have u_221 : G_213.1 102 = 0 := (eGx_212.1 102 (by decide)).trans u_194
        have w_222 : G_213.2.1 (g.2.2 100) = (G.2.1 (g.2.2 100)) := (eGx_212.2.1 (g.2.2 100) ⟨(ne_kd hmk.1 hmk.2.2.2.1 (by decide)), trivial⟩).trans w_186
        have w_223 : G_213.2.1 (g.2.2 121) = (G.2.1 (g.2.2 121)) := (eGx_212.2.1 (g.2.2 121) ⟨(ne_kd hmk.2.2.2.2.2.1 hmk.2.2.2.1 (by decide)), trivial⟩).trans w_187
        have w_224 : G_213.2.1 (g.2.2 140) = (G.2.1 (g.2.2 140)) := (eGx_212.2.1 (g.2.2 140) ⟨(ne_kd hmk.2.2.2.2.2.2.2.2.2.2.2.2.2.2.2.2.2.2.1 hmk.2.2.2.1 (by decide)), trivial⟩).trans w_188
        have w_225 : G_213.2.1 (g.2.2 141) = (G.2.1 (g.2.2 141)) := (eGx_212.2.1 (g.2.2 141) ⟨(ne_kd hmk.2.2.2.2.2.2.2.2.2.2.2.2.2.2.2.2.2.2.2.1 hmk.2.2.2.1 (by decide)), trivial⟩).trans w_189
        have w_226 : G_213.2.1 (g.2.2 111) = (G.2.1 (g.2.2 111)) := (eGx_212.2.1 (g.2.2 111) ⟨(ne_kd hmk.2.2.2.2.2.2.2.2.2.2.2.2.2.2.2.2.2.2.2.2.1 hmk.2.2.2.1 (by decide)), trivial⟩).trans w_190
        have w_227 : G_213.2.1 (g.2.2 112) = (G.2.1 (g.2.2 112)) := (eGx_212.2.1 (g.2.2 112) ⟨(ne_kd hmk.2.2.2.2.2.2.2.2.2.2.2.2.2.2.2.2.2.2.2.2.2 hmk.2.2.2.1 (by decide)), trivial⟩).trans w_191
        have u_228 : G_213.2.2 111 = some (g.2.2 111) := (eGx_212.2.2 111 (by decide)).trans u_192
        have u_229 : G_213.2.2 112 = some (g.2.2 112) := (eGx_212.2.2 112 (by decide)).trans u_193
        have hH : HT g Ty G_213 H := by rw [← ht, ← eTx_212, eG_213]; exact hB
        refine lv_istore (lv' := [(4, .int x_212), (3, .int (G.1 102)), (0, .ref h0), (1, .int a0), (2, .int a1)]) hx hb dX12_law_53 hl (by decide) rfl (fun ls hl => ?_)
        refine lv_aload_n hx hb dX12_law_55 rfl (lv_at hl 2 rfl) ?_
        obtain ⟨_, ⟨rfl, t_231, hk_232⟩, o_c_230⟩ := hH h0 _ k_h0
        refine hg_get hx hb hG igX12 hown hK o_c_230 rfl 11 (by decide) (hG _ mw_1295) rfl dX12_law_56 ?_
        rw [show va_rf (G_213.2.2 111) = Value.ref (g.2.2 111) by rw [u_228]; rfl]
        refine lv_astore (lv' := [(5, .ref (g.2.2 111)), (4, .int x_212), (3, .int (G.1 102)), (0, .ref h0), (1, .int a0), (2, .int a1)]) hx hb dX12_law_59 hl (by decide) rfl (fun ls hl => ?_)
        refine lv_aload_n hx hb dX12_law_61 rfl (lv_at hl 3 rfl) ?_
        refine hg_get hx hb hG igX12 hown hK o_c_230 rfl 13 (by decide) (hG _ mw_1297) rfl dX12_law_62 ?_
        rw [u_216]
        refine lv_istore (lv' := [(6, .int (G.1 113)), (5, .ref (g.2.2 111)), (4, .int x_212), (3, .int (G.1 102)), (0, .ref h0), (1, .int a0), (2, .int a1)]) hx hb dX12_law_65 hl (by decide) rfl (fun ls hl => ?_)
        refine lv_aload_n hx hb dX12_law_67 rfl (lv_at hl 4 rfl) ?_
        refine lv_aload_n hx hb dX12_law_68 rfl (lv_at hl 4 rfl) ?_
        refine hg_get hx hb hG igX12 hown hK o_c_230 rfl 12 (by decide) (hG _ mw_1296) rfl dX12_law_69 ?_
        rw [show va_rf (G_213.2.2 112) = Value.ref (g.2.2 112) by rw [u_229]; rfl]
        refine hg_put (ty := (.array .byte)) hx hb hG igX12 tyX12 tyX12_ok nmX12 hown hK hS o_c_230 (AF.of k_h0) rfl 11 (by decide) (hG _ mw_1295) rfl (by decide +kernel) rfl rfl (Nat.le_of_ble_eq_true rfl) dX12_law_72 (fun H locs o_c_230 hz oq hS => ?_)
        obtain ⟨G_233, eG_233⟩ : ∃ z : Gh, z = rset G_213 111 (some (g.2.2 112)) := ⟨_, rfl⟩
        have hH : HT g Ty G_233 H := by rw [eG_233]; exact HT.putR 111 (some (g.2.2 112)) hH k_h0 ⟨rfl, t_231, hk_232⟩ o_c_230 oq t_231
        have fr_234 : FR [102, 107, 108, 109, 110, 114, 104, 105, 113] [(g.2.2 115), (g.2.2 112)] [106, 111] G G_233 := FR.r fr_214 eG_233 (by decide)
        have u_235 : G_233.1 104 = (G.1 104) := by rw [eG_233]; exact u_215
        have u_236 : G_233.1 113 = (G.1 113) := by rw [eG_233]; exact u_216
        have u_237 : G_233.1 122 = (G.1 122) := by rw [eG_233]; exact u_217
        have u_238 : G_233.1 133 = (G.1 133) := by rw [eG_233]; exact u_218
        have u_239 : G_233.1 137 = (G.1 137) := by rw [eG_233]; exact u_219
        have u_240 : G_233.1 105 = 0 := by rw [eG_233]; exact u_220
        have u_241 : G_233.1 102 = 0 := by rw [eG_233]; exact u_221
        have w_242 : G_233.2.1 (g.2.2 100) = (G.2.1 (g.2.2 100)) := by rw [eG_233]; exact w_222
        have w_243 : G_233.2.1 (g.2.2 121) = (G.2.1 (g.2.2 121)) := by rw [eG_233]; exact w_223
        have w_244 : G_233.2.1 (g.2.2 140) = (G.2.1 (g.2.2 140)) := by rw [eG_233]; exact w_224
        have w_245 : G_233.2.1 (g.2.2 141) = (G.2.1 (g.2.2 141)) := by rw [eG_233]; exact w_225
        have w_246 : G_233.2.1 (g.2.2 111) = (G.2.1 (g.2.2 111)) := by rw [eG_233]; exact w_226
        have w_247 : G_233.2.1 (g.2.2 112) = (G.2.1 (g.2.2 112)) := by rw [eG_233]; exact w_227
        have u_248 : G_233.2.2 112 = some (g.2.2 112) := by rw [eG_233]; exact (rset_ne (by decide)).trans u_229
        have u_249 : G_233.2.2 111 = some (g.2.2 112) := by rw [eG_233]; exact rset_eq
        clear oq hz
        refine lv_aload_n hx hb dX12_law_75 rfl (lv_at hl 4 rfl) ?_
        refine lv_iload_n hx hb dX12_law_76 rfl (lv_at hl 3 rfl) ?_
        have r4_250 : rgI 0 40 (G.1 102) := ⟨(hI.a102).1, r40_195 c_196⟩
        obtain ⟨_, ⟨rfl, t_252, hk_253⟩, o_c_251⟩ := hH h0 _ k_h0
        refine hg_put (ty := .int) hx hb hG igX12 tyX12 tyX12_ok nmX12 hown hK hS o_c_251 (AF.of k_h0) rfl 13 (by decide) (hG _ mw_1297) rfl (by decide +kernel) rfl rfl (Nat.le_of_ble_eq_true rfl) dX12_law_77 (fun H locs o_c_251 hz oq hS => ?_)
        obtain ⟨G_254, eG_254⟩ : ∃ z : Gh, z = gset G_233 113 (G.1 102) := ⟨_, rfl⟩
        have hH : HT g Ty G_254 H := by rw [eG_254]; exact HT.putN 113 (G.1 102) hH k_h0 ⟨rfl, t_252, hk_253⟩ o_c_251 oq (Or.inr (Or.inr (Or.inr (Or.inr (Or.inr ⟨by decide, t_252⟩)))))
        have fr_255 : FR [102, 107, 108, 109, 110, 114, 104, 105, 113] [(g.2.2 115), (g.2.2 112)] [106, 111] G G_254 := FR.n fr_234 eG_254 (by decide)
        have u_256 : G_254.1 104 = (G.1 104) := by rw [eG_254]; exact (gs_ne (by decide)).trans u_235
        have u_257 : G_254.1 122 = (G.1 122) := by rw [eG_254]; exact (gs_ne (by decide)).trans u_237
        have u_258 : G_254.1 133 = (G.1 133) := by rw [eG_254]; exact (gs_ne (by decide)).trans u_238
        have u_259 : G_254.1 137 = (G.1 137) := by rw [eG_254]; exact (gs_ne (by decide)).trans u_239
        have u_260 : G_254.1 105 = 0 := by rw [eG_254]; exact (gs_ne (by decide)).trans u_240
        have u_261 : G_254.1 102 = 0 := by rw [eG_254]; exact (gs_ne (by decide)).trans u_241
        have u_262 : G_254.1 113 = (G.1 102) := by rw [eG_254]; exact gs_eq
        have w_263 : G_254.2.1 (g.2.2 100) = (G.2.1 (g.2.2 100)) := by rw [eG_254]; exact w_242
        have w_264 : G_254.2.1 (g.2.2 121) = (G.2.1 (g.2.2 121)) := by rw [eG_254]; exact w_243
        have w_265 : G_254.2.1 (g.2.2 140) = (G.2.1 (g.2.2 140)) := by rw [eG_254]; exact w_244
        have w_266 : G_254.2.1 (g.2.2 141) = (G.2.1 (g.2.2 141)) := by rw [eG_254]; exact w_245
        have w_267 : G_254.2.1 (g.2.2 111) = (G.2.1 (g.2.2 111)) := by rw [eG_254]; exact w_246
        have w_268 : G_254.2.1 (g.2.2 112) = (G.2.1 (g.2.2 112)) := by rw [eG_254]; exact w_247
        have u_269 : G_254.2.2 112 = some (g.2.2 112) := by rw [eG_254]; exact u_248
        have u_270 : G_254.2.2 111 = some (g.2.2 112) := by rw [eG_254]; exact u_249
        clear oq hz
        refine lv_iconst (v := 0) hx hb dX12_law_80 (by decide) ?_
        refine lv_istore (lv' := [(7, .int 0), (6, .int (G.1 113)), (5, .ref (g.2.2 111)), (4, .int x_212), (3, .int (G.1 102)), (0, .ref h0), (1, .int a0), (2, .int a1)]) hx hb dX12_law_81 hl (by decide) rfl (fun ls hl => ?_)
        exact L_83 _ H locs G_254 (G.2.1 (g.2.2 112)) (G.1 102) x_212 (G.1 113) 0 ls (by rw [u_262]; exact rg_w r4_250 (by decide) (by decide)) (by rw [u_261]; exact rg_w rl_0 (by decide) (by decide)) (by rw [u_256]; exact rg_w hI.a104 (by decide) (by decide)) fr_255 w_268 u_270 r_207 r_211 r4_250 hmk.2.2.2.2.2.2.2.2.2.2.2.2.2.2.2.2.2.2.2.2.1 hI.a113 (rg_w rl_0 (by decide) (by decide)) (Nat.lt_succ_self _) (lv_sub hl [5, 6, 7, 4, 3, 2, 1, 0] rfl) hH hS
      · have r_271 : rgI (0) (0) x_208 := rg_w (rg_eq rl_0 c_209) (by decide) (by decide)
        refine lv_bipush (v := (-2)) hx hb dX12_law_44 (by decide) ?_
        exact W.iret hx hb hr (fun t ht hWm => ⟨⟨(-2), (Ty, G_176), rfl, ⟨rfl, ⟨fr_179, ⟨⟨(by rw [u_194]; exact (rg_w rl_0 (by decide) (by decide))), (by rw [u_180]; exact (rg_w hI.a104 (by decide) (by decide))), (by rw [u_181]; exact (rg_w hI.a113 (by decide) (by decide))), (by rw [u_182]; exact (rg_w hI.a122 (by decide) (by decide))), (by rw [u_183]; exact (rg_w hI.a133 (by decide) (by decide))), (by rw [u_184]; exact (rg_w hI.a137 (by decide) (by decide))), u_192, u_193, (by rw [w_186]; exact (hI.ti.hi (show Bd ≤ Bd + 1000 by omega))), (hI.un2 (show Bd ≤ Bd + 1000 by omega) w_187 u_182), (hI.ke2 (show Bd ≤ Bd + 1000 by omega) w_188 w_189)⟩, (by rw [u_194]; exact (rg_w rl_0 (by decide) (by decide)))⟩⟩⟩, by show HT g Ty G_176 t.heap; rw [ht]; exact hH⟩, hS.F ht⟩) hS.2.2 dX12_law_46
  · have r_272 : rgI (0) (0) x_175 := rg_w (rg_eq rl_0 c_196) (by decide) (by decide)
    refine lv_sipush (v := (-10000)) hx hb dX12_law_17 (by decide) ?_
    refine lv_aload_n hx hb dX12_law_20 rfl (lv_at hl 1 rfl) ?_
    obtain ⟨_, ⟨rfl, t_274, hk_275⟩, o_c_273⟩ := hH h0 _ k_h0
    refine hg_get hx hb hG igX12 hown hK o_c_273 rfl 10 (by decide) (hG _ mw_1294) rfl dX12_law_21 ?_
    refine lv_isub hx hb dX12_law_24 ?_
    refine lv_topi (fun x_276 ex_276 => ?_)
    exact W.iret hx hb hr (fun t ht hWm => ⟨⟨x_276, (Ty, G_176), rfl, ⟨rfl, ⟨fr_179, ⟨⟨(by rw [u_194]; exact (rg_w rl_0 (by decide) (by decide))), (by rw [u_180]; exact (rg_w hI.a104 (by decide) (by decide))), (by rw [u_181]; exact (rg_w hI.a113 (by decide) (by decide))), (by rw [u_182]; exact (rg_w hI.a122 (by decide) (by decide))), (by rw [u_183]; exact (rg_w hI.a133 (by decide) (by decide))), (by rw [u_184]; exact (rg_w hI.a137 (by decide) (by decide))), u_192, u_193, (by rw [w_186]; exact (hI.ti.hi (show Bd ≤ Bd + 1000 by omega))), (hI.un2 (show Bd ≤ Bd + 1000 by omega) w_187 u_182), (hI.ke2 (show Bd ≤ Bd + 1000 by omega) w_188 w_189)⟩, (by rw [u_194]; exact (rg_w rl_0 (by decide) (by decide)))⟩⟩⟩, by show HT g Ty G_176 t.heap; rw [ht]; exact hH⟩, hS.F ht⟩) hS.2.2 dX12_law_25
