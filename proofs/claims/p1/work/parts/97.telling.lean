theorem rg_rg {x : Int32} {n : Int} {z : Int32} (e : x = z) (h : rgI n n z) : rgI n n x := by rw [e]; exact h
theorem ru_0 {f : Nat → Int32} {m d x : Int32} {a : Int} (e : x = F_X12_refusesUnmount f m d) (h : rgI a 0 x) (c : 0 ≤ x) : thr f m := by
  have q := rg_00 h c
  rw [e] at q
  unfold F_X12_refusesUnmount at q
  by_cases c1 : F_X12_isThere f m = 0
  · rw [if_pos c1] at q; exact absurd q (by decide)
  · exact F_isThere_thr c1
theorem rk_0 {f : Nat → Int32} {m v x : Int32} {a : Int} (e : x = F_X12_refusesMaking f m v) (h : rgI a 0 x) (c : 0 ≤ x) : thr f m := by
  have q := rg_00 h c
  rw [e] at q
  unfold F_X12_refusesMaking at q
  by_cases c1 : F_X12_isThere f m = 0
  · rw [if_pos c1] at q; exact absurd q (by decide)
  · exact F_isThere_thr c1
theorem high_is {a : Int32} (h : rgI 0 4 a) : F_X12_highOf a = mvf a.toNatClampNeg := by
  obtain ⟨n, hn, e⟩ := nI_of2 (M := 4) (n := 4) rfl (x := a) (fun q => by have := fz_lt.mp q; have z : (0 : Int32).toInt = 0 := rfl; have := h.1; omega) (fz_le.mpr (by have z : (4 : Int32).toInt = 4 := rfl; have := h.2; omega))
  subst e
  rcases (show n = 0 ∨ n = 1 ∨ n = 2 ∨ n = 3 ∨ n = 4 by omega) with rfl | rfl | rfl | rfl | rfl <;> rfl
theorem hear_no1 {a b n x : Int32} (e : x = F_X12_in a 0 4) (c : x = 0) : ¬ hearOK a b n := fun h => (in_no e c).elim h.1 (fun q => h.2.1 (fz_le.mpr (by have := fz_lt.mp q; have z : (4 : Int32).toInt = 4 := rfl; have w : (5 : Int32).toInt = 5 := rfl; omega)))
theorem in4_rg {a x : Int32} (e : x = F_X12_in a 0 4) (c : ¬ x = 0) : rgI 0 4 a := ⟨fz_le.mp (nlt_le (in_yes e c).1), fz_le.mp (nlt_le (in_yes e c).2)⟩
theorem hear_no2 {a b n x y z : Int32} (e : x = F_X12_in a 0 4) (c : ¬ x = 0) (eh : z = F_X12_highOf a) (e2 : y = F_X12_in b 0 z) (c2 : y = 0) : ¬ hearOK a b n := fun h => by
  rw [eh, high_is (in4_rg e c)] at e2
  exact (in_no e2 c2).elim h.2.2.1 h.2.2.2.1
theorem hear_no3 {a b n : Int32} (c : n = 12) : ¬ hearOK a b n := fun h => by
  have := fz_lt.mp h.2.2.2.2
  rw [c] at this
  exact absurd this (by decide)
theorem hear_yes {a b n x y z : Int32} (e : x = F_X12_in a 0 4) (c : ¬ x = 0) (eh : z = F_X12_highOf a) (e2 : y = F_X12_in b 0 z) (c2 : ¬ y = 0) (hn : rgI 0 12 n) (c3 : ¬ n = 12) : hearOK a b n := by
  rw [eh, high_is (in4_rg e c)] at e2
  have h1 := in_yes e c
  have h2 := in_yes e2 c2
  refine ⟨h1.1, fun q => ?_, h2.1, h2.2, ?_⟩
  · have := (in4_rg e c).2; have := fz_le.mp q; have w : (5 : Int32).toInt = 5 := rfl; omega
  · apply fz_lt.mpr
    have w : (12 : Int32).toInt = 12 := rfl
    have : n.toInt ≠ (12 : Int32).toInt := fun q => c3 (Int32.toInt_inj.mp q)
    have := hn.2
    omega
theorem see_yes {a b c n x y z : Int32} (e : x = F_X12_in a 0 9) (c1 : ¬ x = 0) (e2 : y = F_X12_in b 0 4) (c2 : ¬ y = 0) (e3 : z = F_X12_in c 0 1) (c3 : ¬ z = 0) (hn : rgI 0 10 n) (c4 : ¬ n = 10) : seeOK a b c n := by
  have h1 := in_yes e c1; have h2 := in_yes e2 c2; have h3 := in_yes e3 c3
  refine ⟨h1.1, h1.2, h2.1, h2.2, h3.1, h3.2, ?_⟩
  apply fz_lt.mpr
  have w : (10 : Int32).toInt = 10 := rfl
  have : n.toInt ≠ (10 : Int32).toInt := fun q => c4 (Int32.toInt_inj.mp q)
  have := hn.2
  omega
theorem see_no1 {a b c n x : Int32} (e : x = F_X12_in a 0 9) (c1 : x = 0) : ¬ seeOK a b c n := fun h => (in_no e c1).elim h.1 h.2.1
theorem see_no2 {a b c n x : Int32} (e : x = F_X12_in b 0 4) (c1 : x = 0) : ¬ seeOK a b c n := fun h => (in_no e c1).elim h.2.2.1 h.2.2.2.1
theorem see_no3 {a b c n x : Int32} (e : x = F_X12_in c 0 1) (c1 : x = 0) : ¬ seeOK a b c n := fun h => (in_no e c1).elim h.2.2.2.2.1 h.2.2.2.2.2.1
theorem see_no4 {a b c n : Int32} (c1 : n = 10) : ¬ seeOK a b c n := fun h => by
  have := fz_lt.mp h.2.2.2.2.2.2
  rw [c1] at this
  exact absurd this (by decide)

set_option maxHeartbeats 4000000 in
set_option maxRecDepth 100000 in
theorem c_X12_heard (l : Launch) (g : Gx) (Ty : TyM) (G : Gh) (sz : Nat) (h0 : Nat) (a0 : Int32) (a1 : Int32) (k_h0 : Ty h0 = some (22, 0)) (Bd : Int) (hI : OI g Bd G) (hBd : Bd ≤ 1900000) (hLD : LD g) : Met l yX12_heard (wsG yX12_heard cX12_heard 3 (some .int)) ({ frames := 1, cells := 0, slots := 0, locals := 22 }) (PcT g Ty G sz [.ref h0, .int a0, .int a1]) (QwI g Ty sz (fun r u => u.1 = Ty ∧ FR [105, 133] [] [] G u.2 ∧ OI g (Bd + 1000) u.2 ∧ HeardN (G.1 133) (u.2.1 133) r a0 a1)) 0 0 (AF Ty sz) := by
  refine Met.ofW (cc := cX12_heard) (maxL := 3) (ret := (some .int)) (by decide) rfl ?_
  intro p e s m args below meth c s₁ B hml hv
  obtain ⟨rfl, hsz, hK, hH⟩ := hv
  subst hsz
  have hx := B.exec
  have hb := B.bytes
  have hr := B.returns
  have hts := atoms_spec (ws := (wsG yX12_heard cX12_heard 3 (some .int))) B.pre
  have hG : ∀ w ∈ GW, w.before ([.ref h0, .int a0, .int a1] : List Value).toArray s = true := fun w h => hts w (List.mem_cons_of_mem _ h)
  have hown : s.vm.findClass RX12 = some m.cls := findClass_of_methodNamed B.named
  have hlocks := B.notSynchronized
  have hl := lv_entry [.ref h0, .int a0, .int a1] (n := 3) (Nat.le_of_ble_eq_true rfl)
  rw [lg_entry_eq]
  generalize (lg_sl [.ref h0, .int a0, .int a1] ++ List.replicate (3 - (lg_sl [.ref h0, .int a0, .int a1]).length) Slot.unset).toArray = ls at hl ⊢
  have hl : lv_has ls 3 [(0, .ref h0), (1, .int a0), (2, .int a1)] := hl
  have hmk : mdK g Ty := mdk_of hH k_h0
  have hS : va_S (AF Ty s.heap.size) s.heap s.heap [] := va_S.rf
  obtain ⟨⟨σ0, hTS0⟩, h10, hBB0⟩ := id hI.ti
  obtain ⟨ρ, hT⟩ := hTS0.1
  refine lv_aload_n hx hb dX12_heard_0 rfl (lv_at hl 0 rfl) ?_
  refine lv_iconst (v := 0) hx hb dX12_heard_1 (by decide) ?_
  obtain ⟨_, ⟨rfl, t_2, hk_3⟩, o_c_1⟩ := hH h0 _ k_h0
  refine hg_put (ty := .int) hx hb hG igX12 tyX12 tyX12_ok nmX12 hown hK hS o_c_1 (AF.of k_h0) rfl 5 (by decide) (hG _ mw_1289) rfl (by decide +kernel) rfl rfl (Nat.le_of_ble_eq_true rfl) dX12_heard_2 (fun H locs o_c_1 hz oq hS => ?_)
  obtain ⟨G_4, eG_4⟩ : ∃ z : Gh, z = gset G 105 0 := ⟨_, rfl⟩
  have hH : HT g Ty G_4 H := by rw [eG_4]; exact HT.putN 105 0 hH k_h0 ⟨rfl, t_2, hk_3⟩ o_c_1 oq (Or.inr (Or.inr (Or.inr (Or.inr (Or.inr ⟨by decide, t_2⟩)))))
  have fr_5 : FR [105, 133] [] [] G G_4 := FR.n FR.rf eG_4 (by decide)
  have u_6 : G_4.1 102 = (G.1 102) := by rw [eG_4]; exact (gs_ne (by decide))
  have u_7 : G_4.1 104 = (G.1 104) := by rw [eG_4]; exact (gs_ne (by decide))
  have u_8 : G_4.1 113 = (G.1 113) := by rw [eG_4]; exact (gs_ne (by decide))
  have u_9 : G_4.1 122 = (G.1 122) := by rw [eG_4]; exact (gs_ne (by decide))
  have u_10 : G_4.1 133 = (G.1 133) := by rw [eG_4]; exact (gs_ne (by decide))
  have u_11 : G_4.1 137 = (G.1 137) := by rw [eG_4]; exact (gs_ne (by decide))
  have u_12 : G_4.1 105 = 0 := by rw [eG_4]; exact gs_eq
  have w_13 : G_4.2.1 (g.2.2 100) = (G.2.1 (g.2.2 100)) := by rw [eG_4]; exact rfl
  have w_14 : G_4.2.1 (g.2.2 121) = (G.2.1 (g.2.2 121)) := by rw [eG_4]; exact rfl
  have w_15 : G_4.2.1 (g.2.2 140) = (G.2.1 (g.2.2 140)) := by rw [eG_4]; exact rfl
  have w_16 : G_4.2.1 (g.2.2 141) = (G.2.1 (g.2.2 141)) := by rw [eG_4]; exact rfl
  have w_17 : G_4.2.1 (g.2.2 111) = (G.2.1 (g.2.2 111)) := by rw [eG_4]; exact rfl
  have u_18 : G_4.2.2 111 = some (g.2.2 111) := by rw [eG_4]; exact hI.r111
  have u_19 : G_4.2.2 112 = some (g.2.2 112) := by rw [eG_4]; exact hI.r112
  clear oq hz
  refine lv_iload_n hx hb dX12_heard_5 rfl (lv_at hl 1 rfl) ?_
  refine lv_iconst (v := 0) hx hb dX12_heard_6 (by decide) ?_
  refine lv_iconst (v := 4) hx hb dX12_heard_7 (by decide) ?_
  refine vp_callSi (W.runS (As := [.int a0, .int 0, .int 4]) (rest := []) ⟨hx, hb, hml, hown, hts⟩ (c_X12_in l g Ty G_4 a0 0 4 ) (cwSx 3 hts hG (gwC mw_1426) mw_88 mw_1424 mw_1425 rfl rfl rfl hd_X12_in ⟨Nat.le_of_ble_eq_true rfl, Nat.le_of_ble_eq_true rfl⟩) ⟨PcH_blind, PcH_pre hK hH⟩ rfl rfl hl.1 rfl (lv_room (Nat.le_of_ble_eq_true rfl)) dX12_heard_8 ⟨Nat.zero_le _, Nat.zero_le _⟩) (fun x_20 hx_20 => ?_)
  have rx_20 : rgI (0) (1) x_20 := hx_20.1
  refine lv_if_eq (tgt := 35) hx hb dX12_heard_11 (by decide) (fun c_21 => ?_) (fun c_21 => ?_)
  · have r_22 : rgI (0) (0) x_20 := rg_w (rg_eq rl_0 c_21) (by decide) (by decide)
    refine lv_iconst (v := (-1)) hx hb dX12_heard_35 (by decide) ?_
    exact W.iret hx hb hr (fun t ht hWm => ⟨⟨(-1), (Ty, G_4), rfl, ⟨rfl, ⟨fr_5, ⟨⟨(by rw [u_6]; exact (rg_w hI.a102 (by decide) (by decide))), (by rw [u_7]; exact (rg_w hI.a104 (by decide) (by decide))), (by rw [u_8]; exact (rg_w hI.a113 (by decide) (by decide))), (by rw [u_9]; exact (rg_w hI.a122 (by decide) (by decide))), (by rw [u_10]; exact (rg_w hI.a133 (by decide) (by decide))), (by rw [u_11]; exact (rg_w hI.a137 (by decide) (by decide))), u_18, u_19, (by rw [w_13]; exact (hI.ti.hi (show Bd ≤ Bd + 1000 by omega))), (hI.un2 (show Bd ≤ Bd + 1000 by omega) w_14 u_9), (hI.ke2 (show Bd ≤ Bd + 1000 by omega) w_15 w_16)⟩, Or.inl ⟨rfl, hear_no1 hx_20.2.2 c_21, u_10⟩⟩⟩⟩, by show HT g Ty G_4 t.heap; rw [ht]; exact hH⟩, hS.F ht⟩) hS.2.2 dX12_heard_36
  · have r_23 : rgI (1) (1) x_20 := rg_w (rg_neL rx_20 rl_0 c_21) (by decide) (by decide)
    have r_24 : rgI (0) (4) a0 := rg_w (in_rng hx_20.2.1 c_21 rl_0 rl_4) (by decide) (by decide)
    refine lv_iload_n hx hb dX12_heard_14 rfl (lv_at hl 2 rfl) ?_
    refine lv_iconst (v := 0) hx hb dX12_heard_15 (by decide) ?_
    refine lv_iload_n hx hb dX12_heard_16 rfl (lv_at hl 1 rfl) ?_
    refine vp_callSi (W.runS (As := [.int a0]) (rest := [.int 0, .int a1]) ⟨hx, hb, hml, hown, hts⟩ (c_X12_highOf l g Ty G_4 a0 ) (cwSx 1 hts hG (gwC mw_1776) mw_88 mw_1774 mw_1775 rfl rfl rfl hd_X12_highOf ⟨Nat.le_of_ble_eq_true rfl, Nat.le_of_ble_eq_true rfl⟩) ⟨PcH_blind, PcH_pre hK hH⟩ rfl rfl hl.1 rfl (lv_room (Nat.le_of_ble_eq_true rfl)) dX12_heard_17 ⟨Nat.zero_le _, Nat.zero_le _⟩) (fun x_25 hx_25 => ?_)
    have rx_25 : rgI (4) (9) x_25 := hx_25.1
    refine vp_callSi (W.runS (As := [.int a1, .int 0, .int x_25]) (rest := []) ⟨hx, hb, hml, hown, hts⟩ (c_X12_in l g Ty G_4 a1 0 x_25 ) (cwSx 3 hts hG (gwC mw_1426) mw_88 mw_1424 mw_1425 rfl rfl rfl hd_X12_in ⟨Nat.le_of_ble_eq_true rfl, Nat.le_of_ble_eq_true rfl⟩) ⟨PcH_blind, PcH_pre hK hH⟩ rfl rfl hl.1 rfl (lv_room (Nat.le_of_ble_eq_true rfl)) dX12_heard_20 ⟨Nat.zero_le _, Nat.zero_le _⟩) (fun x_26 hx_26 => ?_)
    have rx_26 : rgI (0) (1) x_26 := hx_26.1
    refine lv_if_eq (tgt := 35) hx hb dX12_heard_23 (by decide) (fun c_27 => ?_) (fun c_27 => ?_)
    · have r_28 : rgI (0) (0) x_26 := rg_w (rg_eq rl_0 c_27) (by decide) (by decide)
      refine lv_iconst (v := (-1)) hx hb dX12_heard_35 (by decide) ?_
      exact W.iret hx hb hr (fun t ht hWm => ⟨⟨(-1), (Ty, G_4), rfl, ⟨rfl, ⟨fr_5, ⟨⟨(by rw [u_6]; exact (rg_w hI.a102 (by decide) (by decide))), (by rw [u_7]; exact (rg_w hI.a104 (by decide) (by decide))), (by rw [u_8]; exact (rg_w hI.a113 (by decide) (by decide))), (by rw [u_9]; exact (rg_w hI.a122 (by decide) (by decide))), (by rw [u_10]; exact (rg_w hI.a133 (by decide) (by decide))), (by rw [u_11]; exact (rg_w hI.a137 (by decide) (by decide))), u_18, u_19, (by rw [w_13]; exact (hI.ti.hi (show Bd ≤ Bd + 1000 by omega))), (hI.un2 (show Bd ≤ Bd + 1000 by omega) w_14 u_9), (hI.ke2 (show Bd ≤ Bd + 1000 by omega) w_15 w_16)⟩, Or.inl ⟨rfl, hear_no2 hx_20.2.2 c_21 hx_25.2 hx_26.2.2 c_27, u_10⟩⟩⟩⟩, by show HT g Ty G_4 t.heap; rw [ht]; exact hH⟩, hS.F ht⟩) hS.2.2 dX12_heard_36
    · have r_29 : rgI (1) (1) x_26 := rg_w (rg_neL rx_26 rl_0 c_27) (by decide) (by decide)
      have r_30 : rgI (0) (9) a1 := rg_w (in_rng hx_26.2.1 c_27 rl_0 rx_25) (by decide) (by decide)
      refine lv_aload_n hx hb dX12_heard_26 rfl (lv_at hl 0 rfl) ?_
      obtain ⟨_, ⟨rfl, t_32, hk_33⟩, o_c_31⟩ := hH h0 _ k_h0
      refine hg_get hx hb hG igX12 hown hK o_c_31 rfl 33 (by decide) (hG _ mw_1317) rfl dX12_heard_27 ?_
      rw [u_10]
      refine lv_bipush (v := 12) hx hb dX12_heard_30 (by decide) ?_
      refine lv_icmp_ne (tgt := 37) hx hb dX12_heard_32 (by decide) (fun c_34 => ?_) (fun c_34 => ?_)
      · have r_35 : rgI (0) (11) (G.1 133) := rg_w (rg_neR hI.a133 rl_12 c_34) (by decide) (by decide)
        refine lv_aload_n hx hb dX12_heard_37 rfl (lv_at hl 0 rfl) ?_
        refine hg_get hx hb hG igX12 hown hK o_c_31 rfl 31 (by decide) (hG _ mw_1315) rfl dX12_heard_38 ?_
        refine lv_aload_n hx hb dX12_heard_41 rfl (lv_at hl 0 rfl) ?_
        refine hg_get hx hb hG igX12 hown hK o_c_31 rfl 33 (by decide) (hG _ mw_1317) rfl dX12_heard_42 ?_
        rw [u_10]
        refine lv_iload_n hx hb dX12_heard_45 rfl (lv_at hl 1 rfl) ?_
        obtain ⟨_, ⟨f_37, rfl⟩, o_c_36⟩ := hH (g.2.2 131) _ hk_33.2.2.2.2.2.2.2.2.2.2.2.2.1
        refine hg_iast hx hb hK hS o_c_36 (AF.of hk_33.2.2.2.2.2.2.2.2.2.2.2.2.1) (rg_in (n := 12) r_35 (by decide) (by decide)) dX12_heard_46 (fun H locs o_c_36 hz oq hS => ?_)
        generalize hff_38 : upd f_37 _ a0 = f_38 at o_c_36
        have hH : HT g Ty G_4 H := hH.put hk_33.2.2.2.2.2.2.2.2.2.2.2.2.1 ⟨_, rfl⟩ o_c_36 oq
        have o_c_31 := o_c_31.kept (oq _ (ne_kd k_h0 hk_33.2.2.2.2.2.2.2.2.2.2.2.2.1 (by decide)))
        clear oq hz
        refine lv_aload_n hx hb dX12_heard_47 rfl (lv_at hl 0 rfl) ?_
        refine hg_get hx hb hG igX12 hown hK o_c_31 rfl 32 (by decide) (hG _ mw_1316) rfl dX12_heard_48 ?_
        refine lv_aload_n hx hb dX12_heard_51 rfl (lv_at hl 0 rfl) ?_
        refine hg_get hx hb hG igX12 hown hK o_c_31 rfl 33 (by decide) (hG _ mw_1317) rfl dX12_heard_52 ?_
        rw [u_10]
        refine lv_iload_n hx hb dX12_heard_55 rfl (lv_at hl 2 rfl) ?_
        obtain ⟨_, ⟨f_40, rfl⟩, o_c_39⟩ := hH (g.2.2 132) _ hk_33.2.2.2.2.2.2.2.2.2.2.2.2.2.1
        refine hg_iast hx hb hK hS o_c_39 (AF.of hk_33.2.2.2.2.2.2.2.2.2.2.2.2.2.1) (rg_in (n := 12) r_35 (by decide) (by decide)) dX12_heard_56 (fun H locs o_c_39 hz oq hS => ?_)
        generalize hff_41 : upd f_40 _ a1 = f_41 at o_c_39
        have hH : HT g Ty G_4 H := hH.put hk_33.2.2.2.2.2.2.2.2.2.2.2.2.2.1 ⟨_, rfl⟩ o_c_39 oq
        have o_c_31 := o_c_31.kept (oq _ (ne_kd k_h0 hk_33.2.2.2.2.2.2.2.2.2.2.2.2.2.1 (by decide)))
        clear oq hz
        refine lv_aload_n hx hb dX12_heard_57 rfl (lv_at hl 0 rfl) ?_
        refine lv_dup hx hb dX12_heard_58 rfl ?_
        refine hg_get hx hb hG igX12 hown hK o_c_31 rfl 33 (by decide) (hG _ mw_1317) rfl dX12_heard_59 ?_
        rw [u_10]
        refine lv_iconst (v := 1) hx hb dX12_heard_62 (by decide) ?_
        refine lv_iadd hx hb dX12_heard_63 ?_
        refine lv_topi (fun x_42 ex_42 => ?_)
        have rx_42 : rgI (1) (12) x_42 := by rw [ex_42]; exact rg_w (rg_add r_35 rl_1 (by decide) (by decide)) (by decide) (by decide)
        have qx_42 : x_42.toInt = ((G.1 133) : Int32).toInt + 1 := by rw [ex_42]; exact rg_addE r_35 rl_1 (by decide) (by decide)
        refine hg_put (ty := .int) hx hb hG igX12 tyX12 tyX12_ok nmX12 hown hK hS o_c_31 (AF.of k_h0) rfl 33 (by decide) (hG _ mw_1317) rfl (by decide +kernel) rfl rfl (Nat.le_of_ble_eq_true rfl) dX12_heard_64 (fun H locs o_c_31 hz oq hS => ?_)
        obtain ⟨G_43, eG_43⟩ : ∃ z : Gh, z = gset G_4 133 x_42 := ⟨_, rfl⟩
        have hH : HT g Ty G_43 H := by rw [eG_43]; exact HT.putN 133 x_42 hH k_h0 ⟨rfl, t_32, hk_33⟩ o_c_31 oq (Or.inr (Or.inr (Or.inr (Or.inr (Or.inr ⟨by decide, t_32⟩)))))
        have fr_44 : FR [105, 133] [] [] G G_43 := FR.n fr_5 eG_43 (by decide)
        have u_45 : G_43.1 102 = (G.1 102) := by rw [eG_43]; exact (gs_ne (by decide)).trans u_6
        have u_46 : G_43.1 104 = (G.1 104) := by rw [eG_43]; exact (gs_ne (by decide)).trans u_7
        have u_47 : G_43.1 113 = (G.1 113) := by rw [eG_43]; exact (gs_ne (by decide)).trans u_8
        have u_48 : G_43.1 122 = (G.1 122) := by rw [eG_43]; exact (gs_ne (by decide)).trans u_9
        have u_49 : G_43.1 137 = (G.1 137) := by rw [eG_43]; exact (gs_ne (by decide)).trans u_11
        have u_50 : G_43.1 105 = 0 := by rw [eG_43]; exact (gs_ne (by decide)).trans u_12
        have u_51 : G_43.1 133 = x_42 := by rw [eG_43]; exact gs_eq
        have w_52 : G_43.2.1 (g.2.2 100) = (G.2.1 (g.2.2 100)) := by rw [eG_43]; exact w_13
        have w_53 : G_43.2.1 (g.2.2 121) = (G.2.1 (g.2.2 121)) := by rw [eG_43]; exact w_14
        have w_54 : G_43.2.1 (g.2.2 140) = (G.2.1 (g.2.2 140)) := by rw [eG_43]; exact w_15
        have w_55 : G_43.2.1 (g.2.2 141) = (G.2.1 (g.2.2 141)) := by rw [eG_43]; exact w_16
        have w_56 : G_43.2.1 (g.2.2 111) = (G.2.1 (g.2.2 111)) := by rw [eG_43]; exact w_17
        have u_57 : G_43.2.2 111 = some (g.2.2 111) := by rw [eG_43]; exact u_18
        have u_58 : G_43.2.2 112 = some (g.2.2 112) := by rw [eG_43]; exact u_19
        clear oq hz
        refine lv_aload_n hx hb dX12_heard_67 rfl (lv_at hl 0 rfl) ?_
        obtain ⟨_, ⟨rfl, t_60, hk_61⟩, o_c_59⟩ := hH h0 _ k_h0
        refine hg_get hx hb hG igX12 hown hK o_c_59 rfl 33 (by decide) (hG _ mw_1317) rfl dX12_heard_68 ?_
        rw [u_51]
        exact W.iret hx hb hr (fun t ht hWm => ⟨⟨x_42, (Ty, G_43), rfl, ⟨rfl, ⟨fr_44, ⟨⟨(by rw [u_45]; exact (rg_w hI.a102 (by decide) (by decide))), (by rw [u_46]; exact (rg_w hI.a104 (by decide) (by decide))), (by rw [u_47]; exact (rg_w hI.a113 (by decide) (by decide))), (by rw [u_48]; exact (rg_w hI.a122 (by decide) (by decide))), (by rw [u_51]; exact (rg_w rx_42 (by decide) (by decide))), (by rw [u_49]; exact (rg_w hI.a137 (by decide) (by decide))), u_57, u_58, (by rw [w_52]; exact (hI.ti.hi (show Bd ≤ Bd + 1000 by omega))), (hI.un2 (show Bd ≤ Bd + 1000 by omega) w_53 u_48), (hI.ke2 (show Bd ≤ Bd + 1000 by omega) w_54 w_55)⟩, Or.inr ⟨ex_42, hear_yes hx_20.2.2 c_21 hx_25.2 hx_26.2.2 c_27 hI.a133 c_34, by rw [u_51]; exact ex_42⟩⟩⟩⟩, by show HT g Ty G_43 t.heap; rw [ht]; exact hH⟩, hS.F ht⟩) hS.2.2 dX12_heard_71
      · have r_62 : rgI (12) (12) (G.1 133) := rg_w (rg_eq rl_12 c_34) (by decide) (by decide)
        refine lv_iconst (v := (-1)) hx hb dX12_heard_35 (by decide) ?_
        exact W.iret hx hb hr (fun t ht hWm => ⟨⟨(-1), (Ty, G_4), rfl, ⟨rfl, ⟨fr_5, ⟨⟨(by rw [u_6]; exact (rg_w hI.a102 (by decide) (by decide))), (by rw [u_7]; exact (rg_w hI.a104 (by decide) (by decide))), (by rw [u_8]; exact (rg_w hI.a113 (by decide) (by decide))), (by rw [u_9]; exact (rg_w hI.a122 (by decide) (by decide))), (by rw [u_10]; exact (rg_w r_62 (by decide) (by decide))), (by rw [u_11]; exact (rg_w hI.a137 (by decide) (by decide))), u_18, u_19, (by rw [w_13]; exact (hI.ti.hi (show Bd ≤ Bd + 1000 by omega))), (hI.un2 (show Bd ≤ Bd + 1000 by omega) w_14 u_9), (hI.ke2 (show Bd ≤ Bd + 1000 by omega) w_15 w_16)⟩, Or.inl ⟨rfl, hear_no3 c_34, u_10⟩⟩⟩⟩, by show HT g Ty G_4 t.heap; rw [ht]; exact hH⟩, hS.F ht⟩) hS.2.2 dX12_heard_36

/-- what saw does to the rows of what was seen -/
def SawW (g : Gx) (G G' : Gh) (r a b c : Int32) : Prop := (r = -1 ∧ G'.2.1 (g.2.2 134) = G.2.1 (g.2.2 134) ∧ G'.2.1 (g.2.2 135) = G.2.1 (g.2.2 135) ∧ G'.2.1 (g.2.2 136) = G.2.1 (g.2.2 136)) ∨ (¬ r = -1 ∧ G'.2.1 (g.2.2 134) = upd (G.2.1 (g.2.2 134)) (G.1 137).toNatClampNeg a ∧ G'.2.1 (g.2.2 135) = upd (G.2.1 (g.2.2 135)) (G.1 137).toNatClampNeg b ∧ G'.2.1 (g.2.2 136) = upd (G.2.1 (g.2.2 136)) (G.1 137).toNatClampNeg c)
set_option maxHeartbeats 4000000 in
set_option maxRecDepth 100000 in
theorem c_X12_saw (l : Launch) (g : Gx) (Ty : TyM) (G : Gh) (sz : Nat) (h0 : Nat) (a0 : Int32) (a1 : Int32) (a2 : Int32) (k_h0 : Ty h0 = some (22, 0)) (Bd : Int) (hI : OI g Bd G) (hBd : Bd ≤ 1900000) (hLD : LD g) : Met l yX12_saw (wsG yX12_saw cX12_saw 4 (some .int)) ({ frames := 1, cells := 0, slots := 0, locals := 22 }) (PcT g Ty G sz [.ref h0, .int a0, .int a1, .int a2]) (QwI g Ty sz (fun r u => u.1 = Ty ∧ FR [105, 137] [(g.2.2 134), (g.2.2 135), (g.2.2 136)] [] G u.2 ∧ OI g (Bd + 1000) u.2 ∧ SawN (G.1 137) (u.2.1 137) r a0 a1 a2 ∧ SawW g G u.2 r a0 a1 a2)) 0 0 (AF Ty sz) := by
  refine Met.ofW (cc := cX12_saw) (maxL := 4) (ret := (some .int)) (by decide) rfl ?_
  intro p e s m args below meth c s₁ B hml hv
  obtain ⟨rfl, hsz, hK, hH⟩ := hv
  subst hsz
  have hx := B.exec
  have hb := B.bytes
  have hr := B.returns
  have hts := atoms_spec (ws := (wsG yX12_saw cX12_saw 4 (some .int))) B.pre
  have hG : ∀ w ∈ GW, w.before ([.ref h0, .int a0, .int a1, .int a2] : List Value).toArray s = true := fun w h => hts w (List.mem_cons_of_mem _ h)
  have hown : s.vm.findClass RX12 = some m.cls := findClass_of_methodNamed B.named
  have hlocks := B.notSynchronized
  have hl := lv_entry [.ref h0, .int a0, .int a1, .int a2] (n := 4) (Nat.le_of_ble_eq_true rfl)
  rw [lg_entry_eq]
  generalize (lg_sl [.ref h0, .int a0, .int a1, .int a2] ++ List.replicate (4 - (lg_sl [.ref h0, .int a0, .int a1, .int a2]).length) Slot.unset).toArray = ls at hl ⊢
  have hl : lv_has ls 4 [(0, .ref h0), (1, .int a0), (2, .int a1), (3, .int a2)] := hl
  have hmk : mdK g Ty := mdk_of hH k_h0
  have hS : va_S (AF Ty s.heap.size) s.heap s.heap [] := va_S.rf
  obtain ⟨⟨σ0, hTS0⟩, h10, hBB0⟩ := id hI.ti
  obtain ⟨ρ, hT⟩ := hTS0.1
  refine lv_aload_n hx hb dX12_saw_0 rfl (lv_at hl 0 rfl) ?_
  refine lv_iconst (v := 0) hx hb dX12_saw_1 (by decide) ?_
  obtain ⟨_, ⟨rfl, t_2, hk_3⟩, o_c_1⟩ := hH h0 _ k_h0
  refine hg_put (ty := .int) hx hb hG igX12 tyX12 tyX12_ok nmX12 hown hK hS o_c_1 (AF.of k_h0) rfl 5 (by decide) (hG _ mw_1289) rfl (by decide +kernel) rfl rfl (Nat.le_of_ble_eq_true rfl) dX12_saw_2 (fun H locs o_c_1 hz oq hS => ?_)
  obtain ⟨G_4, eG_4⟩ : ∃ z : Gh, z = gset G 105 0 := ⟨_, rfl⟩
  have hH : HT g Ty G_4 H := by rw [eG_4]; exact HT.putN 105 0 hH k_h0 ⟨rfl, t_2, hk_3⟩ o_c_1 oq (Or.inr (Or.inr (Or.inr (Or.inr (Or.inr ⟨by decide, t_2⟩)))))
  have fr_5 : FR [105, 137] [(g.2.2 134), (g.2.2 135), (g.2.2 136)] [] G G_4 := FR.n FR.rf eG_4 (by decide)
  have u_6 : G_4.1 102 = (G.1 102) := by rw [eG_4]; exact (gs_ne (by decide))
  have u_7 : G_4.1 104 = (G.1 104) := by rw [eG_4]; exact (gs_ne (by decide))
  have u_8 : G_4.1 113 = (G.1 113) := by rw [eG_4]; exact (gs_ne (by decide))
  have u_9 : G_4.1 122 = (G.1 122) := by rw [eG_4]; exact (gs_ne (by decide))
  have u_10 : G_4.1 133 = (G.1 133) := by rw [eG_4]; exact (gs_ne (by decide))
  have u_11 : G_4.1 137 = (G.1 137) := by rw [eG_4]; exact (gs_ne (by decide))
  have u_12 : G_4.1 105 = 0 := by rw [eG_4]; exact gs_eq
  have w_13 : G_4.2.1 (g.2.2 100) = (G.2.1 (g.2.2 100)) := by rw [eG_4]; exact rfl
  have w_14 : G_4.2.1 (g.2.2 121) = (G.2.1 (g.2.2 121)) := by rw [eG_4]; exact rfl
  have w_15 : G_4.2.1 (g.2.2 140) = (G.2.1 (g.2.2 140)) := by rw [eG_4]; exact rfl
  have w_16 : G_4.2.1 (g.2.2 141) = (G.2.1 (g.2.2 141)) := by rw [eG_4]; exact rfl
  have w_17 : G_4.2.1 (g.2.2 111) = (G.2.1 (g.2.2 111)) := by rw [eG_4]; exact rfl
  have u_18 : G_4.2.2 111 = some (g.2.2 111) := by rw [eG_4]; exact hI.r111
  have u_19 : G_4.2.2 112 = some (g.2.2 112) := by rw [eG_4]; exact hI.r112
  clear oq hz
  refine lv_iload_n hx hb dX12_saw_5 rfl (lv_at hl 1 rfl) ?_
  refine lv_iconst (v := 0) hx hb dX12_saw_6 (by decide) ?_
  refine lv_bipush (v := 9) hx hb dX12_saw_7 (by decide) ?_
  refine vp_callSi (W.runS (As := [.int a0, .int 0, .int 9]) (rest := []) ⟨hx, hb, hml, hown, hts⟩ (c_X12_in l g Ty G_4 a0 0 9 ) (cwSx 3 hts hG (gwC mw_1426) mw_88 mw_1424 mw_1425 rfl rfl rfl hd_X12_in ⟨Nat.le_of_ble_eq_true rfl, Nat.le_of_ble_eq_true rfl⟩) ⟨PcH_blind, PcH_pre hK hH⟩ rfl rfl hl.1 rfl (lv_room (Nat.le_of_ble_eq_true rfl)) dX12_saw_9 ⟨Nat.zero_le _, Nat.zero_le _⟩) (fun x_20 hx_20 => ?_)
  have rx_20 : rgI (0) (1) x_20 := hx_20.1
  refine lv_if_eq (tgt := 42) hx hb dX12_saw_12 (by decide) (fun c_21 => ?_) (fun c_21 => ?_)
  · have r_22 : rgI (0) (0) x_20 := rg_w (rg_eq rl_0 c_21) (by decide) (by decide)
    refine lv_iconst (v := (-1)) hx hb dX12_saw_42 (by decide) ?_
    exact W.iret hx hb hr (fun t ht hWm => ⟨⟨(-1), (Ty, G_4), rfl, ⟨rfl, ⟨fr_5, ⟨⟨(by rw [u_6]; exact (rg_w hI.a102 (by decide) (by decide))), (by rw [u_7]; exact (rg_w hI.a104 (by decide) (by decide))), (by rw [u_8]; exact (rg_w hI.a113 (by decide) (by decide))), (by rw [u_9]; exact (rg_w hI.a122 (by decide) (by decide))), (by rw [u_10]; exact (rg_w hI.a133 (by decide) (by decide))), (by rw [u_11]; exact (rg_w hI.a137 (by decide) (by decide))), u_18, u_19, (by rw [w_13]; exact (hI.ti.hi (show Bd ≤ Bd + 1000 by omega))), (hI.un2 (show Bd ≤ Bd + 1000 by omega) w_14 u_9), (hI.ke2 (show Bd ≤ Bd + 1000 by omega) w_15 w_16)⟩, Or.inl ⟨rfl, see_no1 hx_20.2.2 c_21, u_11⟩, Or.inl ⟨rfl, by rw [eG_4]; rfl, by rw [eG_4]; rfl, by rw [eG_4]; rfl⟩⟩⟩⟩, by show HT g Ty G_4 t.heap; rw [ht]; exact hH⟩, hS.F ht⟩) hS.2.2 dX12_saw_43
  · have r_23 : rgI (1) (1) x_20 := rg_w (rg_neL rx_20 rl_0 c_21) (by decide) (by decide)
    have r_24 : rgI (0) (9) a0 := rg_w (in_rng hx_20.2.1 c_21 rl_0 rl_9) (by decide) (by decide)
    refine lv_iload_n hx hb dX12_saw_15 rfl (lv_at hl 2 rfl) ?_
    refine lv_iconst (v := 0) hx hb dX12_saw_16 (by decide) ?_
    refine lv_iconst (v := 4) hx hb dX12_saw_17 (by decide) ?_
    refine vp_callSi (W.runS (As := [.int a1, .int 0, .int 4]) (rest := []) ⟨hx, hb, hml, hown, hts⟩ (c_X12_in l g Ty G_4 a1 0 4 ) (cwSx 3 hts hG (gwC mw_1426) mw_88 mw_1424 mw_1425 rfl rfl rfl hd_X12_in ⟨Nat.le_of_ble_eq_true rfl, Nat.le_of_ble_eq_true rfl⟩) ⟨PcH_blind, PcH_pre hK hH⟩ rfl rfl hl.1 rfl (lv_room (Nat.le_of_ble_eq_true rfl)) dX12_saw_18 ⟨Nat.zero_le _, Nat.zero_le _⟩) (fun x_25 hx_25 => ?_)
    have rx_25 : rgI (0) (1) x_25 := hx_25.1
    refine lv_if_eq (tgt := 42) hx hb dX12_saw_21 (by decide) (fun c_26 => ?_) (fun c_26 => ?_)
    · have r_27 : rgI (0) (0) x_25 := rg_w (rg_eq rl_0 c_26) (by decide) (by decide)
      refine lv_iconst (v := (-1)) hx hb dX12_saw_42 (by decide) ?_
      exact W.iret hx hb hr (fun t ht hWm => ⟨⟨(-1), (Ty, G_4), rfl, ⟨rfl, ⟨fr_5, ⟨⟨(by rw [u_6]; exact (rg_w hI.a102 (by decide) (by decide))), (by rw [u_7]; exact (rg_w hI.a104 (by decide) (by decide))), (by rw [u_8]; exact (rg_w hI.a113 (by decide) (by decide))), (by rw [u_9]; exact (rg_w hI.a122 (by decide) (by decide))), (by rw [u_10]; exact (rg_w hI.a133 (by decide) (by decide))), (by rw [u_11]; exact (rg_w hI.a137 (by decide) (by decide))), u_18, u_19, (by rw [w_13]; exact (hI.ti.hi (show Bd ≤ Bd + 1000 by omega))), (hI.un2 (show Bd ≤ Bd + 1000 by omega) w_14 u_9), (hI.ke2 (show Bd ≤ Bd + 1000 by omega) w_15 w_16)⟩, Or.inl ⟨rfl, see_no2 hx_25.2.2 c_26, u_11⟩, Or.inl ⟨rfl, by rw [eG_4]; rfl, by rw [eG_4]; rfl, by rw [eG_4]; rfl⟩⟩⟩⟩, by show HT g Ty G_4 t.heap; rw [ht]; exact hH⟩, hS.F ht⟩) hS.2.2 dX12_saw_43
    · have r_28 : rgI (1) (1) x_25 := rg_w (rg_neL rx_25 rl_0 c_26) (by decide) (by decide)
      have r_29 : rgI (0) (4) a1 := rg_w (in_rng hx_25.2.1 c_26 rl_0 rl_4) (by decide) (by decide)
      refine lv_iload_n hx hb dX12_saw_24 rfl (lv_at hl 3 rfl) ?_
      refine lv_iconst (v := 0) hx hb dX12_saw_25 (by decide) ?_
      refine lv_iconst (v := 1) hx hb dX12_saw_26 (by decide) ?_
      refine vp_callSi (W.runS (As := [.int a2, .int 0, .int 1]) (rest := []) ⟨hx, hb, hml, hown, hts⟩ (c_X12_in l g Ty G_4 a2 0 1 ) (cwSx 3 hts hG (gwC mw_1426) mw_88 mw_1424 mw_1425 rfl rfl rfl hd_X12_in ⟨Nat.le_of_ble_eq_true rfl, Nat.le_of_ble_eq_true rfl⟩) ⟨PcH_blind, PcH_pre hK hH⟩ rfl rfl hl.1 rfl (lv_room (Nat.le_of_ble_eq_true rfl)) dX12_saw_27 ⟨Nat.zero_le _, Nat.zero_le _⟩) (fun x_30 hx_30 => ?_)
      have rx_30 : rgI (0) (1) x_30 := hx_30.1
      refine lv_if_eq (tgt := 42) hx hb dX12_saw_30 (by decide) (fun c_31 => ?_) (fun c_31 => ?_)
      · have r_32 : rgI (0) (0) x_30 := rg_w (rg_eq rl_0 c_31) (by decide) (by decide)
        refine lv_iconst (v := (-1)) hx hb dX12_saw_42 (by decide) ?_
        exact W.iret hx hb hr (fun t ht hWm => ⟨⟨(-1), (Ty, G_4), rfl, ⟨rfl, ⟨fr_5, ⟨⟨(by rw [u_6]; exact (rg_w hI.a102 (by decide) (by decide))), (by rw [u_7]; exact (rg_w hI.a104 (by decide) (by decide))), (by rw [u_8]; exact (rg_w hI.a113 (by decide) (by decide))), (by rw [u_9]; exact (rg_w hI.a122 (by decide) (by decide))), (by rw [u_10]; exact (rg_w hI.a133 (by decide) (by decide))), (by rw [u_11]; exact (rg_w hI.a137 (by decide) (by decide))), u_18, u_19, (by rw [w_13]; exact (hI.ti.hi (show Bd ≤ Bd + 1000 by omega))), (hI.un2 (show Bd ≤ Bd + 1000 by omega) w_14 u_9), (hI.ke2 (show Bd ≤ Bd + 1000 by omega) w_15 w_16)⟩, Or.inl ⟨rfl, see_no3 hx_30.2.2 c_31, u_11⟩, Or.inl ⟨rfl, by rw [eG_4]; rfl, by rw [eG_4]; rfl, by rw [eG_4]; rfl⟩⟩⟩⟩, by show HT g Ty G_4 t.heap; rw [ht]; exact hH⟩, hS.F ht⟩) hS.2.2 dX12_saw_43
      · have r_33 : rgI (1) (1) x_30 := rg_w (rg_neL rx_30 rl_0 c_31) (by decide) (by decide)
        have r_34 : rgI (0) (1) a2 := rg_w (in_rng hx_30.2.1 c_31 rl_0 rl_1) (by decide) (by decide)
        refine lv_aload_n hx hb dX12_saw_33 rfl (lv_at hl 0 rfl) ?_
        obtain ⟨_, ⟨rfl, t_36, hk_37⟩, o_c_35⟩ := hH h0 _ k_h0
        refine hg_get hx hb hG igX12 hown hK o_c_35 rfl 37 (by decide) (hG _ mw_1321) rfl dX12_saw_34 ?_
        rw [u_11]
        refine lv_bipush (v := 10) hx hb dX12_saw_37 (by decide) ?_
        refine lv_icmp_ne (tgt := 44) hx hb dX12_saw_39 (by decide) (fun c_38 => ?_) (fun c_38 => ?_)
        · have r_39 : rgI (0) (9) (G.1 137) := rg_w (rg_neR hI.a137 rl_10 c_38) (by decide) (by decide)
          refine lv_aload_n hx hb dX12_saw_44 rfl (lv_at hl 0 rfl) ?_
          refine hg_get hx hb hG igX12 hown hK o_c_35 rfl 34 (by decide) (hG _ mw_1318) rfl dX12_saw_45 ?_
          refine lv_aload_n hx hb dX12_saw_48 rfl (lv_at hl 0 rfl) ?_
          refine hg_get hx hb hG igX12 hown hK o_c_35 rfl 37 (by decide) (hG _ mw_1321) rfl dX12_saw_49 ?_
          rw [u_11]
          refine lv_iload_n hx hb dX12_saw_52 rfl (lv_at hl 1 rfl) ?_
          obtain ⟨_, rfl, o_c_40⟩ := hH (g.2.2 134) _ hk_37.2.2.2.2.2.2.2.2.2.2.2.2.2.2.1
          have o_c_40 : va_at g.1 vwCl ((g.2.2 134), .inl (g.2.1 1, 10, .inl (G_4.2.1 (g.2.2 134)))) H := o_c_40
          refine hg_iast hx hb hK hS o_c_40 (AF.of hk_37.2.2.2.2.2.2.2.2.2.2.2.2.2.2.1) (rg_in (n := 10) r_39 (by decide) (by decide)) dX12_saw_53 (fun H locs o_c_40 hz oq hS => ?_)
          obtain ⟨G_s1, eG_s1⟩ : ∃ z : Gh, z = aset G_4 (g.2.2 134) (upd (G_4.2.1 (g.2.2 134)) (G.1 137).toNatClampNeg a0) := ⟨_, rfl⟩
          have hH : HT g Ty G_s1 H := by rw [eG_s1]; exact HT.putA _ hH hk_37.2.2.2.2.2.2.2.2.2.2.2.2.2.2.1 cf30 o_c_40 oq
          have o_c_35 := o_c_35.kept (oq _ (ne_kd k_h0 hk_37.2.2.2.2.2.2.2.2.2.2.2.2.2.2.1 (by decide)))
          clear oq hz
          refine lv_aload_n hx hb dX12_saw_54 rfl (lv_at hl 0 rfl) ?_
          refine hg_get hx hb hG igX12 hown hK o_c_35 rfl 35 (by decide) (hG _ mw_1319) rfl dX12_saw_55 ?_
          refine lv_aload_n hx hb dX12_saw_58 rfl (lv_at hl 0 rfl) ?_
          refine hg_get hx hb hG igX12 hown hK o_c_35 rfl 37 (by decide) (hG _ mw_1321) rfl dX12_saw_59 ?_
          rw [u_11]
          refine lv_iload_n hx hb dX12_saw_62 rfl (lv_at hl 2 rfl) ?_
          obtain ⟨_, rfl, o_c_43⟩ := hH (g.2.2 135) _ hk_37.2.2.2.2.2.2.2.2.2.2.2.2.2.2.2.1
          have o_c_43 : va_at g.1 vwCl ((g.2.2 135), .inl (g.2.1 1, 10, .inl (G_s1.2.1 (g.2.2 135)))) H := o_c_43
          refine hg_iast hx hb hK hS o_c_43 (AF.of hk_37.2.2.2.2.2.2.2.2.2.2.2.2.2.2.2.1) (rg_in (n := 10) r_39 (by decide) (by decide)) dX12_saw_63 (fun H locs o_c_43 hz oq hS => ?_)
          obtain ⟨G_s2, eG_s2⟩ : ∃ z : Gh, z = aset G_s1 (g.2.2 135) (upd (G_s1.2.1 (g.2.2 135)) (G.1 137).toNatClampNeg a1) := ⟨_, rfl⟩
          have hH : HT g Ty G_s2 H := by rw [eG_s2]; exact HT.putA _ hH hk_37.2.2.2.2.2.2.2.2.2.2.2.2.2.2.2.1 cf30 o_c_43 oq
          have o_c_35 := o_c_35.kept (oq _ (ne_kd k_h0 hk_37.2.2.2.2.2.2.2.2.2.2.2.2.2.2.2.1 (by decide)))
          clear oq hz
          refine lv_aload_n hx hb dX12_saw_64 rfl (lv_at hl 0 rfl) ?_
          refine hg_get hx hb hG igX12 hown hK o_c_35 rfl 36 (by decide) (hG _ mw_1320) rfl dX12_saw_65 ?_
          refine lv_aload_n hx hb dX12_saw_68 rfl (lv_at hl 0 rfl) ?_
          refine hg_get hx hb hG igX12 hown hK o_c_35 rfl 37 (by decide) (hG _ mw_1321) rfl dX12_saw_69 ?_
          rw [u_11]
          refine lv_iload_n hx hb dX12_saw_72 rfl (lv_at hl 3 rfl) ?_
          obtain ⟨_, rfl, o_c_46⟩ := hH (g.2.2 136) _ hk_37.2.2.2.2.2.2.2.2.2.2.2.2.2.2.2.2.1
          have o_c_46 : va_at g.1 vwCl ((g.2.2 136), .inl (g.2.1 1, 10, .inl (G_s2.2.1 (g.2.2 136)))) H := o_c_46
          refine hg_iast hx hb hK hS o_c_46 (AF.of hk_37.2.2.2.2.2.2.2.2.2.2.2.2.2.2.2.2.1) (rg_in (n := 10) r_39 (by decide) (by decide)) dX12_saw_73 (fun H locs o_c_46 hz oq hS => ?_)
          obtain ⟨G_s3, eG_s3⟩ : ∃ z : Gh, z = aset G_s2 (g.2.2 136) (upd (G_s2.2.1 (g.2.2 136)) (G.1 137).toNatClampNeg a2) := ⟨_, rfl⟩
          have hH : HT g Ty G_s3 H := by rw [eG_s3]; exact HT.putA _ hH hk_37.2.2.2.2.2.2.2.2.2.2.2.2.2.2.2.2.1 cf30 o_c_46 oq
          have o_c_35 := o_c_35.kept (oq _ (ne_kd k_h0 hk_37.2.2.2.2.2.2.2.2.2.2.2.2.2.2.2.2.1 (by decide)))
          clear oq hz
          refine lv_aload_n hx hb dX12_saw_74 rfl (lv_at hl 0 rfl) ?_
          refine lv_dup hx hb dX12_saw_75 rfl ?_
          refine hg_get hx hb hG igX12 hown hK o_c_35 rfl 37 (by decide) (hG _ mw_1321) rfl dX12_saw_76 ?_
          rw [u_11]
          refine lv_iconst (v := 1) hx hb dX12_saw_79 (by decide) ?_
          refine lv_iadd hx hb dX12_saw_80 ?_
          refine lv_topi (fun x_49 ex_49 => ?_)
          have rx_49 : rgI (1) (10) x_49 := by rw [ex_49]; exact rg_w (rg_add r_39 rl_1 (by decide) (by decide)) (by decide) (by decide)
          have qx_49 : x_49.toInt = ((G.1 137) : Int32).toInt + 1 := by rw [ex_49]; exact rg_addE r_39 rl_1 (by decide) (by decide)
          refine hg_put (ty := .int) hx hb hG igX12 tyX12 tyX12_ok nmX12 hown hK hS o_c_35 (AF.of k_h0) rfl 37 (by decide) (hG _ mw_1321) rfl (by decide +kernel) rfl rfl (Nat.le_of_ble_eq_true rfl) dX12_saw_81 (fun H locs o_c_35 hz oq hS => ?_)
          have uc : ∀ i, G_s3.1 i = G_4.1 i := fun i => by rw [eG_s3, eG_s2, eG_s1]; rfl
          have ur : G_s3.2.2 = G_4.2.2 := by rw [eG_s3, eG_s2, eG_s1]; rfl
          have wc : ∀ b, b ≠ g.2.2 134 → b ≠ g.2.2 135 → b ≠ g.2.2 136 → G_s3.2.1 b = G_4.2.1 b := fun b n1 n2 n3 => by rw [eG_s3, aset_ne n3, eG_s2, aset_ne n2, eG_s1, aset_ne n1]
          have d12 := hLD 134 (by decide) 135 (by decide) (by decide)
          have d13 := hLD 134 (by decide) 136 (by decide) (by decide)
          have d23 := hLD 135 (by decide) 136 (by decide) (by decide)
          have wa : G_s3.2.1 (g.2.2 134) = upd (G.2.1 (g.2.2 134)) (G.1 137).toNatClampNeg a0 := by rw [eG_s3, aset_ne d13, eG_s2, aset_ne d12, eG_s1, aset_eq, eG_4]; rfl
          have wb : G_s3.2.1 (g.2.2 135) = upd (G.2.1 (g.2.2 135)) (G.1 137).toNatClampNeg a1 := by rw [eG_s3, aset_ne d23, eG_s2, aset_eq, eG_s1, aset_ne d12.symm, eG_4]; rfl
          have wd : G_s3.2.1 (g.2.2 136) = upd (G.2.1 (g.2.2 136)) (G.1 137).toNatClampNeg a2 := by rw [eG_s3, aset_eq, eG_s2, aset_ne d23.symm, eG_s1, aset_ne d13.symm, eG_4]; rfl
          have fr_s : FR [105, 137] [(g.2.2 134), (g.2.2 135), (g.2.2 136)] [] G G_s3 := FR.a (FR.a (FR.a fr_5 eG_s1 (fun b h => h.1)) eG_s2 (fun b h => h.2.1)) eG_s3 (fun b h => h.2.2.1)
          obtain ⟨G_50, eG_50⟩ : ∃ z : Gh, z = gset G_s3 137 x_49 := ⟨_, rfl⟩
          have hH : HT g Ty G_50 H := by rw [eG_50]; exact HT.putN 137 x_49 hH k_h0 ⟨by rw [eG_s3, eG_s2, eG_s1]; rfl, t_36, hk_37⟩ o_c_35 oq (Or.inr (Or.inr (Or.inr (Or.inr (Or.inr ⟨by decide, t_36⟩)))))
          have fr_51 : FR [105, 137] [(g.2.2 134), (g.2.2 135), (g.2.2 136)] [] G G_50 := FR.n fr_s eG_50 (by decide)
          have u_52 : G_50.1 102 = (G.1 102) := by rw [eG_50]; exact (gs_ne (by decide)).trans ((uc _).trans u_6)
          have u_53 : G_50.1 104 = (G.1 104) := by rw [eG_50]; exact (gs_ne (by decide)).trans ((uc _).trans u_7)
          have u_54 : G_50.1 113 = (G.1 113) := by rw [eG_50]; exact (gs_ne (by decide)).trans ((uc _).trans u_8)
          have u_55 : G_50.1 122 = (G.1 122) := by rw [eG_50]; exact (gs_ne (by decide)).trans ((uc _).trans u_9)
          have u_56 : G_50.1 133 = (G.1 133) := by rw [eG_50]; exact (gs_ne (by decide)).trans ((uc _).trans u_10)
          have u_57 : G_50.1 105 = 0 := by rw [eG_50]; exact (gs_ne (by decide)).trans ((uc _).trans u_12)
          have u_58 : G_50.1 137 = x_49 := by rw [eG_50]; exact gs_eq
          have w_59 : G_50.2.1 (g.2.2 100) = (G.2.1 (g.2.2 100)) := by rw [eG_50]; exact (wc _ (hLD 100 (by decide) 134 (by decide) (by decide)) (hLD 100 (by decide) 135 (by decide) (by decide)) (hLD 100 (by decide) 136 (by decide) (by decide))).trans w_13
          have w_60 : G_50.2.1 (g.2.2 121) = (G.2.1 (g.2.2 121)) := by rw [eG_50]; exact (wc _ (hLD 121 (by decide) 134 (by decide) (by decide)) (hLD 121 (by decide) 135 (by decide) (by decide)) (hLD 121 (by decide) 136 (by decide) (by decide))).trans w_14
          have w_61 : G_50.2.1 (g.2.2 140) = (G.2.1 (g.2.2 140)) := by rw [eG_50]; exact (wc _ (hLD 140 (by decide) 134 (by decide) (by decide)) (hLD 140 (by decide) 135 (by decide) (by decide)) (hLD 140 (by decide) 136 (by decide) (by decide))).trans w_15
          have w_62 : G_50.2.1 (g.2.2 141) = (G.2.1 (g.2.2 141)) := by rw [eG_50]; exact (wc _ (hLD 141 (by decide) 134 (by decide) (by decide)) (hLD 141 (by decide) 135 (by decide) (by decide)) (hLD 141 (by decide) 136 (by decide) (by decide))).trans w_16
          have w_63 : G_50.2.1 (g.2.2 111) = (G.2.1 (g.2.2 111)) := by rw [eG_50]; exact (wc _ (hLD 111 (by decide) 134 (by decide) (by decide)) (hLD 111 (by decide) 135 (by decide) (by decide)) (hLD 111 (by decide) 136 (by decide) (by decide))).trans w_17
          have u_64 : G_50.2.2 111 = some (g.2.2 111) := by rw [eG_50]; show G_s3.2.2 _ = _; rw [ur]; exact u_18
          have u_65 : G_50.2.2 112 = some (g.2.2 112) := by rw [eG_50]; show G_s3.2.2 _ = _; rw [ur]; exact u_19
          clear oq hz
          refine lv_aload_n hx hb dX12_saw_84 rfl (lv_at hl 0 rfl) ?_
          obtain ⟨_, ⟨rfl, t_67, hk_68⟩, o_c_66⟩ := hH h0 _ k_h0
          refine hg_get hx hb hG igX12 hown hK o_c_66 rfl 37 (by decide) (hG _ mw_1321) rfl dX12_saw_85 ?_
          rw [u_58]
          exact W.iret hx hb hr (fun t ht hWm => ⟨⟨x_49, (Ty, G_50), rfl, ⟨rfl, ⟨fr_51, ⟨⟨(by rw [u_52]; exact (rg_w hI.a102 (by decide) (by decide))), (by rw [u_53]; exact (rg_w hI.a104 (by decide) (by decide))), (by rw [u_54]; exact (rg_w hI.a113 (by decide) (by decide))), (by rw [u_55]; exact (rg_w hI.a122 (by decide) (by decide))), (by rw [u_56]; exact (rg_w hI.a133 (by decide) (by decide))), (by rw [u_58]; exact (rg_w rx_49 (by decide) (by decide))), u_64, u_65, (by rw [w_59]; exact (hI.ti.hi (show Bd ≤ Bd + 1000 by omega))), (hI.un2 (show Bd ≤ Bd + 1000 by omega) w_60 u_55), (hI.ke2 (show Bd ≤ Bd + 1000 by omega) w_61 w_62)⟩, Or.inr ⟨ex_49, see_yes hx_20.2.2 c_21 hx_25.2.2 c_26 hx_30.2.2 c_31 hI.a137 c_38, by rw [u_58]; exact ex_49⟩, Or.inr ⟨fun q => by have h := rx_49.1; rw [q] at h; exact absurd h (by decide), by rw [eG_50]; exact wa, by rw [eG_50]; exact wb, by rw [eG_50]; exact wd⟩⟩⟩⟩, by show HT g Ty G_50 t.heap; rw [ht]; exact hH⟩, hS.F ht⟩) hS.2.2 dX12_saw_88
        · have r_69 : rgI (10) (10) (G.1 137) := rg_w (rg_eq rl_10 c_38) (by decide) (by decide)
          refine lv_iconst (v := (-1)) hx hb dX12_saw_42 (by decide) ?_
          exact W.iret hx hb hr (fun t ht hWm => ⟨⟨(-1), (Ty, G_4), rfl, ⟨rfl, ⟨fr_5, ⟨⟨(by rw [u_6]; exact (rg_w hI.a102 (by decide) (by decide))), (by rw [u_7]; exact (rg_w hI.a104 (by decide) (by decide))), (by rw [u_8]; exact (rg_w hI.a113 (by decide) (by decide))), (by rw [u_9]; exact (rg_w hI.a122 (by decide) (by decide))), (by rw [u_10]; exact (rg_w hI.a133 (by decide) (by decide))), (by rw [u_11]; exact (rg_w r_69 (by decide) (by decide))), u_18, u_19, (by rw [w_13]; exact (hI.ti.hi (show Bd ≤ Bd + 1000 by omega))), (hI.un2 (show Bd ≤ Bd + 1000 by omega) w_14 u_9), (hI.ke2 (show Bd ≤ Bd + 1000 by omega) w_15 w_16)⟩, Or.inl ⟨rfl, see_no4 c_38, u_11⟩, Or.inl ⟨rfl, by rw [eG_4]; rfl, by rw [eG_4]; rfl, by rw [eG_4]; rfl⟩⟩⟩⟩, by show HT g Ty G_4 t.heap; rw [ht]; exact hH⟩, hS.F ht⟩) hS.2.2 dX12_saw_43

set_option maxHeartbeats 4000000 in
set_option maxRecDepth 100000 in
theorem c_X12_end (l : Launch) (g : Gx) (Ty : TyM) (G : Gh) (sz : Nat) (h0 : Nat) (a0 : Int32) (k_h0 : Ty h0 = some (22, 0)) (Bd : Int) (hI : OI g Bd G) (hBd : Bd ≤ 1900000) (hLD : LD g) : Met l yX12_end (wsG yX12_end cX12_end 2 (some .boolean)) ({ frames := 1, cells := 0, slots := 0, locals := 22 }) (PcT g Ty G sz [.ref h0, .int a0]) (QwI g Ty sz (fun r u => (rgI (0) (1) r) ∧ u.1 = Ty ∧ FR [105, 102] [] [] G u.2 ∧ OI g (Bd + 1000) u.2 ∧ CutN (G.1 102) (u.2.1 102) r a0)) 0 0 (AF Ty sz) := by
  refine Met.ofW (cc := cX12_end) (maxL := 2) (ret := (some .boolean)) (by decide) rfl ?_
  intro p e s m args below meth c s₁ B hml hv
  obtain ⟨rfl, hsz, hK, hH⟩ := hv
  subst hsz
  have hx := B.exec
  have hb := B.bytes
  have hr := B.returns
  have hts := atoms_spec (ws := (wsG yX12_end cX12_end 2 (some .boolean))) B.pre
  have hG : ∀ w ∈ GW, w.before ([.ref h0, .int a0] : List Value).toArray s = true := fun w h => hts w (List.mem_cons_of_mem _ h)
  have hown : s.vm.findClass RX12 = some m.cls := findClass_of_methodNamed B.named
  have hlocks := B.notSynchronized
  have hl := lv_entry [.ref h0, .int a0] (n := 2) (Nat.le_of_ble_eq_true rfl)
  rw [lg_entry_eq]
  generalize (lg_sl [.ref h0, .int a0] ++ List.replicate (2 - (lg_sl [.ref h0, .int a0]).length) Slot.unset).toArray = ls at hl ⊢
  have hl : lv_has ls 2 [(0, .ref h0), (1, .int a0)] := hl
  have hmk : mdK g Ty := mdk_of hH k_h0
  have hS : va_S (AF Ty s.heap.size) s.heap s.heap [] := va_S.rf
  obtain ⟨⟨σ0, hTS0⟩, h10, hBB0⟩ := id hI.ti
  obtain ⟨ρ, hT⟩ := hTS0.1
  refine lv_aload_n hx hb dX12_end_0 rfl (lv_at hl 0 rfl) ?_
  refine lv_iconst (v := 0) hx hb dX12_end_1 (by decide) ?_
  obtain ⟨_, ⟨rfl, t_2, hk_3⟩, o_c_1⟩ := hH h0 _ k_h0
  refine hg_put (ty := .int) hx hb hG igX12 tyX12 tyX12_ok nmX12 hown hK hS o_c_1 (AF.of k_h0) rfl 5 (by decide) (hG _ mw_1289) rfl (by decide +kernel) rfl rfl (Nat.le_of_ble_eq_true rfl) dX12_end_2 (fun H locs o_c_1 hz oq hS => ?_)
  obtain ⟨G_4, eG_4⟩ : ∃ z : Gh, z = gset G 105 0 := ⟨_, rfl⟩
  have hH : HT g Ty G_4 H := by rw [eG_4]; exact HT.putN 105 0 hH k_h0 ⟨rfl, t_2, hk_3⟩ o_c_1 oq (Or.inr (Or.inr (Or.inr (Or.inr (Or.inr ⟨by decide, t_2⟩)))))
  have fr_5 : FR [105, 102] [] [] G G_4 := FR.n FR.rf eG_4 (by decide)
  have u_6 : G_4.1 102 = (G.1 102) := by rw [eG_4]; exact (gs_ne (by decide))
  have u_7 : G_4.1 104 = (G.1 104) := by rw [eG_4]; exact (gs_ne (by decide))
  have u_8 : G_4.1 113 = (G.1 113) := by rw [eG_4]; exact (gs_ne (by decide))
  have u_9 : G_4.1 122 = (G.1 122) := by rw [eG_4]; exact (gs_ne (by decide))
  have u_10 : G_4.1 133 = (G.1 133) := by rw [eG_4]; exact (gs_ne (by decide))
  have u_11 : G_4.1 137 = (G.1 137) := by rw [eG_4]; exact (gs_ne (by decide))
  have u_12 : G_4.1 105 = 0 := by rw [eG_4]; exact gs_eq
  have w_13 : G_4.2.1 (g.2.2 100) = (G.2.1 (g.2.2 100)) := by rw [eG_4]; exact rfl
  have w_14 : G_4.2.1 (g.2.2 121) = (G.2.1 (g.2.2 121)) := by rw [eG_4]; exact rfl
  have w_15 : G_4.2.1 (g.2.2 140) = (G.2.1 (g.2.2 140)) := by rw [eG_4]; exact rfl
  have w_16 : G_4.2.1 (g.2.2 141) = (G.2.1 (g.2.2 141)) := by rw [eG_4]; exact rfl
  have w_17 : G_4.2.1 (g.2.2 111) = (G.2.1 (g.2.2 111)) := by rw [eG_4]; exact rfl
  have u_18 : G_4.2.2 111 = some (g.2.2 111) := by rw [eG_4]; exact hI.r111
  have u_19 : G_4.2.2 112 = some (g.2.2 112) := by rw [eG_4]; exact hI.r112
  clear oq hz
  refine lv_iload_n hx hb dX12_end_5 rfl (lv_at hl 1 rfl) ?_
  refine lv_iconst (v := 0) hx hb dX12_end_6 (by decide) ?_
  refine lv_aload_n hx hb dX12_end_7 rfl (lv_at hl 0 rfl) ?_
  obtain ⟨_, ⟨rfl, t_21, hk_22⟩, o_c_20⟩ := hH h0 _ k_h0
  refine hg_get hx hb hG igX12 hown hK o_c_20 rfl 2 (by decide) (hG _ mw_1286) rfl dX12_end_8 ?_
  rw [u_6]
  refine vp_callSi (W.runS (As := [.int a0, .int 0, .int (G.1 102)]) (rest := []) ⟨hx, hb, hml, hown, hts⟩ (c_X12_in l g Ty G_4 a0 0 (G.1 102) ) (cwSx 3 hts hG (gwC mw_1426) mw_88 mw_1424 mw_1425 rfl rfl rfl hd_X12_in ⟨Nat.le_of_ble_eq_true rfl, Nat.le_of_ble_eq_true rfl⟩) ⟨PcH_blind, PcH_pre hK hH⟩ rfl rfl hl.1 rfl (lv_room (Nat.le_of_ble_eq_true rfl)) dX12_end_11 ⟨Nat.zero_le _, Nat.zero_le _⟩) (fun x_23 hx_23 => ?_)
  have rx_23 : rgI (0) (1) x_23 := hx_23.1
  refine lv_if_ne (tgt := 19) hx hb dX12_end_14 (by decide) (fun c_24 => ?_) (fun c_24 => ?_)
  · have r_25 : rgI (1) (1) x_23 := rg_w (rg_neL rx_23 rl_0 c_24) (by decide) (by decide)
    have r_26 : rgI (0) (80) a0 := rg_w (in_rng hx_23.2.1 c_24 rl_0 hI.a102) (by decide) (by decide)
    refine lv_aload_n hx hb dX12_end_19 rfl (lv_at hl 0 rfl) ?_
    refine lv_iload_n hx hb dX12_end_20 rfl (lv_at hl 1 rfl) ?_
    refine hg_put (ty := .int) hx hb hG igX12 tyX12 tyX12_ok nmX12 hown hK hS o_c_20 (AF.of k_h0) rfl 2 (by decide) (hG _ mw_1286) rfl (by decide +kernel) rfl rfl (Nat.le_of_ble_eq_true rfl) dX12_end_21 (fun H locs o_c_20 hz oq hS => ?_)
    obtain ⟨G_27, eG_27⟩ : ∃ z : Gh, z = gset G_4 102 a0 := ⟨_, rfl⟩
    have hH : HT g Ty G_27 H := by rw [eG_27]; exact HT.putN 102 a0 hH k_h0 ⟨rfl, t_21, hk_22⟩ o_c_20 oq (Or.inr (Or.inr (Or.inr (Or.inr (Or.inr ⟨by decide, t_21⟩)))))
    have fr_28 : FR [105, 102] [] [] G G_27 := FR.n fr_5 eG_27 (by decide)
    have u_29 : G_27.1 104 = (G.1 104) := by rw [eG_27]; exact (gs_ne (by decide)).trans u_7
    have u_30 : G_27.1 113 = (G.1 113) := by rw [eG_27]; exact (gs_ne (by decide)).trans u_8
    have u_31 : G_27.1 122 = (G.1 122) := by rw [eG_27]; exact (gs_ne (by decide)).trans u_9
    have u_32 : G_27.1 133 = (G.1 133) := by rw [eG_27]; exact (gs_ne (by decide)).trans u_10
    have u_33 : G_27.1 137 = (G.1 137) := by rw [eG_27]; exact (gs_ne (by decide)).trans u_11
    have u_34 : G_27.1 105 = 0 := by rw [eG_27]; exact (gs_ne (by decide)).trans u_12
    have u_35 : G_27.1 102 = a0 := by rw [eG_27]; exact gs_eq
    have w_36 : G_27.2.1 (g.2.2 100) = (G.2.1 (g.2.2 100)) := by rw [eG_27]; exact w_13
    have w_37 : G_27.2.1 (g.2.2 121) = (G.2.1 (g.2.2 121)) := by rw [eG_27]; exact w_14
    have w_38 : G_27.2.1 (g.2.2 140) = (G.2.1 (g.2.2 140)) := by rw [eG_27]; exact w_15
    have w_39 : G_27.2.1 (g.2.2 141) = (G.2.1 (g.2.2 141)) := by rw [eG_27]; exact w_16
    have w_40 : G_27.2.1 (g.2.2 111) = (G.2.1 (g.2.2 111)) := by rw [eG_27]; exact w_17
    have u_41 : G_27.2.2 111 = some (g.2.2 111) := by rw [eG_27]; exact u_18
    have u_42 : G_27.2.2 112 = some (g.2.2 112) := by rw [eG_27]; exact u_19
    clear oq hz
    refine lv_iconst (v := 1) hx hb dX12_end_24 (by decide) ?_
    exact W.zret hx hb hr rfl (fun t ht hWm => ⟨⟨1, (Ty, G_27), rfl, ⟨rg_w rl_1 (by decide) (by decide), ⟨rfl, ⟨fr_28, ⟨⟨(by rw [u_35]; exact (rg_w r_26 (by decide) (by decide))), (by rw [u_29]; exact (rg_w hI.a104 (by decide) (by decide))), (by rw [u_30]; exact (rg_w hI.a113 (by decide) (by decide))), (by rw [u_31]; exact (rg_w hI.a122 (by decide) (by decide))), (by rw [u_32]; exact (rg_w hI.a133 (by decide) (by decide))), (by rw [u_33]; exact (rg_w hI.a137 (by decide) (by decide))), u_41, u_42, (by rw [w_36]; exact (hI.ti.hi (show Bd ≤ Bd + 1000 by omega))), (hI.un2 (show Bd ≤ Bd + 1000 by omega) w_37 u_31), (hI.ke2 (show Bd ≤ Bd + 1000 by omega) w_38 w_39)⟩, Or.inr ⟨rfl, (in_yes hx_23.2.2 c_24).1, nlt_le (in_yes hx_23.2.2 c_24).2, u_35⟩⟩⟩⟩⟩, by show HT g Ty G_27 t.heap; rw [ht]; exact hH⟩, hS.F ht⟩) hS.2.2 dX12_end_25
  · have r_43 : rgI (0) (0) x_23 := rg_w (rg_eq rl_0 c_24) (by decide) (by decide)
    refine lv_iconst (v := 0) hx hb dX12_end_17 (by decide) ?_
    exact W.zret hx hb hr rfl (fun t ht hWm => ⟨⟨0, (Ty, G_4), rfl, ⟨rg_w rl_0 (by decide) (by decide), ⟨rfl, ⟨fr_5, ⟨⟨(by rw [u_6]; exact (rg_w hI.a102 (by decide) (by decide))), (by rw [u_7]; exact (rg_w hI.a104 (by decide) (by decide))), (by rw [u_8]; exact (rg_w hI.a113 (by decide) (by decide))), (by rw [u_9]; exact (rg_w hI.a122 (by decide) (by decide))), (by rw [u_10]; exact (rg_w hI.a133 (by decide) (by decide))), (by rw [u_11]; exact (rg_w hI.a137 (by decide) (by decide))), u_18, u_19, (by rw [w_13]; exact (hI.ti.hi (show Bd ≤ Bd + 1000 by omega))), (hI.un2 (show Bd ≤ Bd + 1000 by omega) w_14 u_9), (hI.ke2 (show Bd ≤ Bd + 1000 by omega) w_15 w_16)⟩, Or.inl ⟨rfl, in_no hx_23.2.2 c_24, u_6⟩⟩⟩⟩⟩, by show HT g Ty G_4 t.heap; rw [ht]; exact hH⟩, hS.F ht⟩) hS.2.2 dX12_end_18

theorem sg_e {n y k : Int32} (h : y = n + (3 - k)) (hk : rgI (-1) (-1) k) : y = n + 4 := by
  have : k = -1 := Int32.toInt_inj.mp (by have h1 := hk.1; have h2 := hk.2; have z : (-1 : Int32).toInt = -1 := rfl; omega)
  rw [h, this]; rfl
theorem sg_ix {n y k : Int32} (h : y = n + (3 - k)) (h80 : rgI 0 80 n) (hn : n + 4 ≤ 80) (hk : rgI 0 3 k) : vp_in y 80 := by
  obtain ⟨a, b⟩ := sg_r h h80 hn (rg_w hk (by decide) (by decide))
  have := hk.1; have := hk.2; have := h80.1
  exact vp_in_iff.mpr ⟨by omega, by omega⟩
theorem sg_up {n y k x : Int32} (h : y = n + (3 - k)) (h80 : rgI 0 80 n) (hn : n + 4 ≤ 80) (hk : rgI 0 3 k) (e : x = y + 1) : rgI 0 80 x := by
  obtain ⟨a, b⟩ := sg_r h h80 hn (rg_w hk (by decide) (by decide))
  have := hk.1; have := hk.2; have := h80.1
  have q : x.toInt = y.toInt + 1 := by rw [e]; exact ti_add (y := 1) (by show _ ≤ y.toInt + 1; omega) (by show y.toInt + 1 ≤ _; omega)
  exact ⟨by omega, by omega⟩
theorem sg_0 {n : Int32} : n = n + (3 - (3 : Int32)) := by
  have : (3 : Int32) - 3 = 0 := by decide
  rw [this, Int32.add_zero]

set_option maxHeartbeats 4000000 in
set_option maxRecDepth 100000 in
theorem c_X12_sign (l : Launch) (g : Gx) (Ty : TyM) (G : Gh) (sz : Nat) (h0 : Nat) (a0 : Int32) (k_h0 : Ty h0 = some (22, 0)) (Bd : Int) (hI : OI g Bd G) (hBd : Bd ≤ 1900000) (hLD : LD g) : Met l yX12_sign (wsG yX12_sign cX12_sign 3 (some .int)) ({ frames := 0, cells := 0, slots := 0, locals := 0 }) (PcT g Ty G sz [.ref h0, .int a0]) (QwI g Ty sz (fun r u => u.1 = Ty ∧ FR [105, 102] [(g.2.2 101)] [] G u.2 ∧ OI g (Bd + 1000) u.2 ∧ SignN (G.1 102) (u.2.1 102) r)) 0 0 (AF Ty sz) := by
  refine Met.ofW (cc := cX12_sign) (maxL := 3) (ret := (some .int)) (by decide) rfl ?_
  intro p e s m args below meth c s₁ B hml hv
  obtain ⟨rfl, hsz, hK, hH⟩ := hv
  subst hsz
  have hx := B.exec
  have hb := B.bytes
  have hr := B.returns
  have hts := atoms_spec (ws := (wsG yX12_sign cX12_sign 3 (some .int))) B.pre
  have hG : ∀ w ∈ GW, w.before ([.ref h0, .int a0] : List Value).toArray s = true := fun w h => hts w (List.mem_cons_of_mem _ h)
  have hown : s.vm.findClass RX12 = some m.cls := findClass_of_methodNamed B.named
  have hlocks := B.notSynchronized
  have hl := lv_entry [.ref h0, .int a0] (n := 3) (Nat.le_of_ble_eq_true rfl)
  rw [lg_entry_eq]
  generalize (lg_sl [.ref h0, .int a0] ++ List.replicate (3 - (lg_sl [.ref h0, .int a0]).length) Slot.unset).toArray = ls at hl ⊢
  have hl : lv_has ls 3 [(0, .ref h0), (1, .int a0)] := hl
  have hmk : mdK g Ty := mdk_of hH k_h0
  have hS : va_S (AF Ty s.heap.size) s.heap s.heap [] := va_S.rf
  obtain ⟨⟨σ0, hTS0⟩, h10, hBB0⟩ := id hI.ti
  obtain ⟨ρ, hT⟩ := hTS0.1
  have L_20 : ∀ (n : Nat) (H : Heap) (locs : List Loc) (G_20 : Gh) (fl5_20 : Nat → Int32) (y2_20 : Int32) (ls : Array Slot), rgI (0) (80) (G_20.1 102) → FR [105, 102] [(g.2.2 101)] [] G G_20 → G_20.2.1 (g.2.2 101) = fl5_20 → rgI (-1) (3) y2_20 → (G_20.1 102) = (G.1 102) + (3 - y2_20) → (G.1 102) + 4 ≤ 80 → ((y2_20).toInt - (-1)).toNat < n → lv_has ls 3 [(0, .ref h0), (1, .int a0), (2, .int y2_20)] → HT g Ty G_20 H → va_S (AF Ty s.heap.size) s.heap H locs → Wm p l e (wsG yX12_sign cX12_sign 3 (some .int)) ({ frames := 0, cells := 0, slots := 0, locals := 0 }) s m [.ref h0, .int a0] below meth c H locs (0) (0) (QwI g Ty s.heap.size (fun r u => u.1 = Ty ∧ FR [105, 102] [(g.2.2 101)] [] G u.2 ∧ OI g (Bd + 1000) u.2 ∧ SignN (G.1 102) (u.2.1 102) r)) 0 0 (AF Ty s.heap.size) (F0 m 20 ls []) := by
    intro n
    induction n with
    | zero => intro H locs G_20 fl5_20 y2_20 ls rg102_20 fr_20 efl5_20 ry2_20 hi0_20 hi1_20 hm; exact absurd hm (Nat.not_lt_zero _)
    | succ n ih_20 =>
      intro H locs G_20 fl5_20 y2_20 ls rg102_20 fr_20 efl5_20 ry2_20 hi0_20 hi1_20 hm_20 hl hH hS
      refine lv_iload_n hx hb dX12_sign_20 rfl (lv_at hl 2 rfl) ?_
      refine lv_if_lt (tgt := 53) hx hb dX12_sign_21 (by decide) (fun c_1 => ?_) (fun c_1 => ?_)
      · have r_2 : rgI (-1) (-1) y2_20 := rg_w (rg_ltL ry2_20 rl_0 c_1) (by decide) (by decide)
        refine lv_aload_n hx hb dX12_sign_53 rfl (lv_at hl 0 rfl) ?_
        obtain ⟨_, ⟨rfl, t_4, hk_5⟩, o_c_3⟩ := hH h0 _ k_h0
        refine hg_get hx hb hG igX12 hown hK o_c_3 rfl 2 (by decide) (hG _ mw_1286) rfl dX12_sign_54 ?_
        exact W.iret hx hb hr (fun t ht hWm => ⟨⟨(G_20.1 102), (Ty, G_20), rfl, ⟨rfl, ⟨fr_20, ⟨⟨(rg_w rg102_20 (by decide) (by decide)), (by rw [(fr_20.1 104 (by decide))]; exact (rg_w hI.a104 (by decide) (by decide))), (by rw [(fr_20.1 113 (by decide))]; exact (rg_w hI.a113 (by decide) (by decide))), (by rw [(fr_20.1 122 (by decide))]; exact (rg_w hI.a122 (by decide) (by decide))), (by rw [(fr_20.1 133 (by decide))]; exact (rg_w hI.a133 (by decide) (by decide))), (by rw [(fr_20.1 137 (by decide))]; exact (rg_w hI.a137 (by decide) (by decide))), ((fr_20.2.2 111 (by decide)).trans hI.r111), ((fr_20.2.2 112 (by decide)).trans hI.r112), (by rw [(fr_20.2.1 (g.2.2 100) ⟨(ne_kd hmk.1 hmk.2.1 (by decide)), trivial⟩)]; exact (hI.ti.hi (show Bd ≤ Bd + 1000 by omega))), (hI.un2 (show Bd ≤ Bd + 1000 by omega) (fr_20.2.1 (g.2.2 121) ⟨(ne_kd hmk.2.2.2.2.2.1 hmk.2.1 (by decide)), trivial⟩) (fr_20.1 122 (by decide))), (hI.ke2 (show Bd ≤ Bd + 1000 by omega) (fr_20.2.1 (g.2.2 140) ⟨(ne_kd hmk.2.2.2.2.2.2.2.2.2.2.2.2.2.2.2.2.2.2.1 hmk.2.1 (by decide)), trivial⟩) (fr_20.2.1 (g.2.2 141) ⟨(ne_kd hmk.2.2.2.2.2.2.2.2.2.2.2.2.2.2.2.2.2.2.2.1 hmk.2.1 (by decide)), trivial⟩))⟩, Or.inr ⟨sg_e hi0_20 r_2, hi1_20, sg_e hi0_20 r_2⟩⟩⟩⟩, by show HT g Ty G_20 t.heap; rw [ht]; exact hH⟩, hS.F ht⟩) hS.2.2 dX12_sign_57
      · have r_6 : rgI (0) (3) y2_20 := rg_w (rg_leR rl_0 ry2_20 (nlt_le c_1)) (by decide) (by decide)
        refine lv_aload_n hx hb dX12_sign_24 rfl (lv_at hl 0 rfl) ?_
        obtain ⟨_, ⟨rfl, t_8, hk_9⟩, o_c_7⟩ := hH h0 _ k_h0
        refine hg_get hx hb hG igX12 hown hK o_c_7 rfl 1 (by decide) (hG _ mw_1285) rfl dX12_sign_25 ?_
        refine lv_aload_n hx hb dX12_sign_28 rfl (lv_at hl 0 rfl) ?_
        refine lv_dup hx hb dX12_sign_29 rfl ?_
        refine hg_get hx hb hG igX12 hown hK o_c_7 rfl 2 (by decide) (hG _ mw_1286) rfl dX12_sign_30 ?_
        refine lv_dup_x1 hx hb dX12_sign_33 rfl rfl ?_
        refine lv_iconst (v := 1) hx hb dX12_sign_34 (by decide) ?_
        refine lv_iadd hx hb dX12_sign_35 ?_
        refine lv_topi (fun x_10 ex_10 => ?_)
        have rx_10 : rgI (1) (81) x_10 := by rw [ex_10]; exact rg_w (rg_add rg102_20 rl_1 (by decide) (by decide)) (by decide) (by decide)
        have qx_10 : x_10.toInt = ((G_20.1 102) : Int32).toInt + 1 := by rw [ex_10]; exact rg_addE rg102_20 rl_1 (by decide) (by decide)
        have rr_11 : rgI 0 80 x_10 := sg_up hi0_20 hI.a102 hi1_20 r_6 ex_10
        refine hg_put (ty := .int) hx hb hG igX12 tyX12 tyX12_ok nmX12 hown hK hS o_c_7 (AF.of k_h0) rfl 2 (by decide) (hG _ mw_1286) rfl (by decide +kernel) rfl rfl (Nat.le_of_ble_eq_true rfl) dX12_sign_36 (fun H locs o_c_7 hz oq hS => ?_)
        obtain ⟨G_12, eG_12⟩ : ∃ z : Gh, z = gset G_20 102 x_10 := ⟨_, rfl⟩
        have hH : HT g Ty G_12 H := by rw [eG_12]; exact HT.putN 102 x_10 hH k_h0 ⟨rfl, t_8, hk_9⟩ o_c_7 oq (Or.inr (Or.inr (Or.inr (Or.inr (Or.inr ⟨by decide, t_8⟩)))))
        have fr_13 : FR [105, 102] [(g.2.2 101)] [] G G_12 := FR.n fr_20 eG_12 (by decide)
        have u_14 : G_12.1 104 = (G.1 104) := by rw [eG_12]; exact (gs_ne (by decide)).trans (fr_20.1 104 (by decide))
        have u_15 : G_12.1 113 = (G.1 113) := by rw [eG_12]; exact (gs_ne (by decide)).trans (fr_20.1 113 (by decide))
        have u_16 : G_12.1 122 = (G.1 122) := by rw [eG_12]; exact (gs_ne (by decide)).trans (fr_20.1 122 (by decide))
        have u_17 : G_12.1 133 = (G.1 133) := by rw [eG_12]; exact (gs_ne (by decide)).trans (fr_20.1 133 (by decide))
        have u_18 : G_12.1 137 = (G.1 137) := by rw [eG_12]; exact (gs_ne (by decide)).trans (fr_20.1 137 (by decide))
        have u_19 : G_12.1 102 = x_10 := by rw [eG_12]; exact gs_eq
        have w_20 : G_12.2.1 (g.2.2 100) = (G.2.1 (g.2.2 100)) := by rw [eG_12]; exact (fr_20.2.1 (g.2.2 100) ⟨(ne_kd hmk.1 hmk.2.1 (by decide)), trivial⟩)
        have w_21 : G_12.2.1 (g.2.2 121) = (G.2.1 (g.2.2 121)) := by rw [eG_12]; exact (fr_20.2.1 (g.2.2 121) ⟨(ne_kd hmk.2.2.2.2.2.1 hmk.2.1 (by decide)), trivial⟩)
        have w_22 : G_12.2.1 (g.2.2 140) = (G.2.1 (g.2.2 140)) := by rw [eG_12]; exact (fr_20.2.1 (g.2.2 140) ⟨(ne_kd hmk.2.2.2.2.2.2.2.2.2.2.2.2.2.2.2.2.2.2.1 hmk.2.1 (by decide)), trivial⟩)
        have w_23 : G_12.2.1 (g.2.2 141) = (G.2.1 (g.2.2 141)) := by rw [eG_12]; exact (fr_20.2.1 (g.2.2 141) ⟨(ne_kd hmk.2.2.2.2.2.2.2.2.2.2.2.2.2.2.2.2.2.2.2.1 hmk.2.1 (by decide)), trivial⟩)
        have w_24 : G_12.2.1 (g.2.2 111) = (G.2.1 (g.2.2 111)) := by rw [eG_12]; exact (fr_20.2.1 (g.2.2 111) ⟨(ne_kd hmk.2.2.2.2.2.2.2.2.2.2.2.2.2.2.2.2.2.2.2.2.1 hmk.2.1 (by decide)), trivial⟩)
        have w_25 : G_12.2.1 (g.2.2 101) = fl5_20 := by rw [eG_12]; exact efl5_20
        have u_26 : G_12.2.2 111 = some (g.2.2 111) := by rw [eG_12]; exact ((fr_20.2.2 111 (by decide)).trans hI.r111)
        have u_27 : G_12.2.2 112 = some (g.2.2 112) := by rw [eG_12]; exact ((fr_20.2.2 112 (by decide)).trans hI.r112)
        clear oq hz
        refine lv_iload_n hx hb dX12_sign_39 rfl (lv_at hl 1 rfl) ?_
        refine lv_bipush (v := 8) hx hb dX12_sign_40 (by decide) ?_
        refine lv_iload_n hx hb dX12_sign_42 rfl (lv_at hl 2 rfl) ?_
        refine lv_imul hx hb dX12_sign_43 ?_
        refine lv_topi (fun x_28 ex_28 => ?_)
        have rx_28 : rgI (0) (24) x_28 := by rw [ex_28]; exact rg_w (rg_mul rl_8 r_6 (by decide) (by decide) (by decide)) (by decide) (by decide)
        refine lv_ishr hx hb dX12_sign_44 ?_
        refine lv_topi (fun x_29 ex_29 => ?_)
        refine lv_i2b hx hb dX12_sign_45 rfl ?_
        refine lv_topi (fun x_30 ex_30 => ?_)
        obtain ⟨_, rfl, o_c_31⟩ := hH (g.2.2 101) _ hk_9.2.1
        have o_c_31 : va_at g.1 vwCl ((g.2.2 101), .inl (g.2.1 0, 80, .inl (G_12.2.1 (g.2.2 101)))) H := o_c_31
        have in_32 : vp_in (G_20.1 102) 80 := (sg_ix hi0_20 hI.a102 hi1_20 r_6)
        refine hg_bast hx hb hK hS o_c_31 (AF.of hk_9.2.1) in_32 dX12_sign_46 (fun H locs o_c_31 hz oq hS => ?_)
        obtain ⟨G_33, eG_33⟩ : ∃ z : Gh, z = aset G_12 (g.2.2 101) (upd (G_12.2.1 (g.2.2 101)) ((G_20.1 102) : Int32).toNatClampNeg (vp_nar .byte x_30)) := ⟨_, rfl⟩
        have hH : HT g Ty G_33 H := by rw [eG_33]; exact HT.putA (upd (G_12.2.1 (g.2.2 101)) ((G_20.1 102) : Int32).toNatClampNeg (vp_nar .byte x_30)) hH hk_9.2.1 cf31 o_c_31 oq
        obtain ⟨f_34, ef_34⟩ : ∃ z : Nat → Int32, z = (upd fl5_20 ((G_20.1 102) : Int32).toNatClampNeg (vp_nar .byte x_30)) := ⟨_, rfl⟩
        have eaf_34 : G_33 = aset G_12 (g.2.2 101) f_34 := by rw [eG_33, ef_34, w_25]
        have fr_35 : FR [105, 102] [(g.2.2 101)] [] G G_33 := FR.a fr_13 eaf_34 (fun b h => h.1)
        have u_36 : G_33.1 104 = (G.1 104) := by rw [eaf_34]; exact u_14
        have u_37 : G_33.1 113 = (G.1 113) := by rw [eaf_34]; exact u_15
        have u_38 : G_33.1 122 = (G.1 122) := by rw [eaf_34]; exact u_16
        have u_39 : G_33.1 133 = (G.1 133) := by rw [eaf_34]; exact u_17
        have u_40 : G_33.1 137 = (G.1 137) := by rw [eaf_34]; exact u_18
        have u_41 : G_33.1 102 = x_10 := by rw [eaf_34]; exact u_19
        have w_42 : G_33.2.1 (g.2.2 100) = (G.2.1 (g.2.2 100)) := by rw [eaf_34]; exact (aset_ne (ne_kd hmk.1 hmk.2.1 (by decide))).trans w_20
        have w_43 : G_33.2.1 (g.2.2 121) = (G.2.1 (g.2.2 121)) := by rw [eaf_34]; exact (aset_ne (ne_kd hmk.2.2.2.2.2.1 hmk.2.1 (by decide))).trans w_21
        have w_44 : G_33.2.1 (g.2.2 140) = (G.2.1 (g.2.2 140)) := by rw [eaf_34]; exact (aset_ne (ne_kd hmk.2.2.2.2.2.2.2.2.2.2.2.2.2.2.2.2.2.2.1 hmk.2.1 (by decide))).trans w_22
        have w_45 : G_33.2.1 (g.2.2 141) = (G.2.1 (g.2.2 141)) := by rw [eaf_34]; exact (aset_ne (ne_kd hmk.2.2.2.2.2.2.2.2.2.2.2.2.2.2.2.2.2.2.2.1 hmk.2.1 (by decide))).trans w_23
        have w_46 : G_33.2.1 (g.2.2 111) = (G.2.1 (g.2.2 111)) := by rw [eaf_34]; exact (aset_ne (ne_kd hmk.2.2.2.2.2.2.2.2.2.2.2.2.2.2.2.2.2.2.2.2.1 hmk.2.1 (by decide))).trans w_24
        have w_47 : G_33.2.1 (g.2.2 101) = f_34 := by rw [eaf_34]; exact aset_eq
        have u_48 : G_33.2.2 111 = some (g.2.2 111) := by rw [eaf_34]; exact u_26
        have u_49 : G_33.2.2 112 = some (g.2.2 112) := by rw [eaf_34]; exact u_27
        clear oq hz
        obtain ⟨x_50, ex_50⟩ : ∃ y : Int32, y = y2_20 + (-1) := ⟨_, rfl⟩
        have rx_50 : rgI (-1) (2) x_50 := by rw [ex_50]; exact rg_w (rg_add r_6 rl_m1 (by decide) (by decide)) (by decide) (by decide)
        have qx_50 : x_50.toInt = (y2_20 : Int32).toInt + (-1) := by rw [ex_50]; exact rg_addE r_6 rl_m1 (by decide) (by decide)
        refine lv_iinc (v := x_50) (lv' := [(2, .int x_50), (0, .ref h0), (1, .int a0)]) hx hb dX12_sign_47 hl (k := 2) rfl (by rw [ex_50]; rfl) (by decide) rfl (fun ls hl => ?_)
        refine lv_goto (tgt := 20) hx hb dX12_sign_50 (by decide) ?_
        exact ih_20 H locs G_33 f_34 x_50 ls (by rw [u_41]; exact rg_w rr_11 (by decide) (by decide)) fr_35 w_47 (rg_w rx_50 (by decide) (by decide)) (by rw [u_41]; exact (sg_s hi0_20 ex_10 ex_50)) hi1_20 (by have h1 := qx_50; have h2 := r_6.1; have h3 := r_6.2; have h4 := hm_20; omega) (lv_sub hl [1, 2, 0] rfl) hH hS
  refine lv_aload_n hx hb dX12_sign_0 rfl (lv_at hl 0 rfl) ?_
  refine lv_iconst (v := 0) hx hb dX12_sign_1 (by decide) ?_
  obtain ⟨_, ⟨rfl, t_52, hk_53⟩, o_c_51⟩ := hH h0 _ k_h0
  refine hg_put (ty := .int) hx hb hG igX12 tyX12 tyX12_ok nmX12 hown hK hS o_c_51 (AF.of k_h0) rfl 5 (by decide) (hG _ mw_1289) rfl (by decide +kernel) rfl rfl (Nat.le_of_ble_eq_true rfl) dX12_sign_2 (fun H locs o_c_51 hz oq hS => ?_)
  obtain ⟨G_54, eG_54⟩ : ∃ z : Gh, z = gset G 105 0 := ⟨_, rfl⟩
  have hH : HT g Ty G_54 H := by rw [eG_54]; exact HT.putN 105 0 hH k_h0 ⟨rfl, t_52, hk_53⟩ o_c_51 oq (Or.inr (Or.inr (Or.inr (Or.inr (Or.inr ⟨by decide, t_52⟩)))))
  have fr_55 : FR [105, 102] [(g.2.2 101)] [] G G_54 := FR.n FR.rf eG_54 (by decide)
  have u_56 : G_54.1 102 = (G.1 102) := by rw [eG_54]; exact (gs_ne (by decide))
  have u_57 : G_54.1 104 = (G.1 104) := by rw [eG_54]; exact (gs_ne (by decide))
  have u_58 : G_54.1 113 = (G.1 113) := by rw [eG_54]; exact (gs_ne (by decide))
  have u_59 : G_54.1 122 = (G.1 122) := by rw [eG_54]; exact (gs_ne (by decide))
  have u_60 : G_54.1 133 = (G.1 133) := by rw [eG_54]; exact (gs_ne (by decide))
  have u_61 : G_54.1 137 = (G.1 137) := by rw [eG_54]; exact (gs_ne (by decide))
  have u_62 : G_54.1 105 = 0 := by rw [eG_54]; exact gs_eq
  have w_63 : G_54.2.1 (g.2.2 100) = (G.2.1 (g.2.2 100)) := by rw [eG_54]; exact rfl
  have w_64 : G_54.2.1 (g.2.2 121) = (G.2.1 (g.2.2 121)) := by rw [eG_54]; exact rfl
  have w_65 : G_54.2.1 (g.2.2 140) = (G.2.1 (g.2.2 140)) := by rw [eG_54]; exact rfl
  have w_66 : G_54.2.1 (g.2.2 141) = (G.2.1 (g.2.2 141)) := by rw [eG_54]; exact rfl
  have w_67 : G_54.2.1 (g.2.2 111) = (G.2.1 (g.2.2 111)) := by rw [eG_54]; exact rfl
  have w_68 : G_54.2.1 (g.2.2 101) = (G.2.1 (g.2.2 101)) := by rw [eG_54]; exact rfl
  have u_69 : G_54.2.2 111 = some (g.2.2 111) := by rw [eG_54]; exact hI.r111
  have u_70 : G_54.2.2 112 = some (g.2.2 112) := by rw [eG_54]; exact hI.r112
  clear oq hz
  refine lv_aload_n hx hb dX12_sign_5 rfl (lv_at hl 0 rfl) ?_
  obtain ⟨_, ⟨rfl, t_72, hk_73⟩, o_c_71⟩ := hH h0 _ k_h0
  refine hg_get hx hb hG igX12 hown hK o_c_71 rfl 2 (by decide) (hG _ mw_1286) rfl dX12_sign_6 ?_
  rw [u_56]
  refine lv_iconst (v := 4) hx hb dX12_sign_9 (by decide) ?_
  refine lv_iadd hx hb dX12_sign_10 ?_
  refine lv_topi (fun x_74 ex_74 => ?_)
  have rx_74 : rgI (4) (84) x_74 := by rw [ex_74]; exact rg_w (rg_add hI.a102 rl_4 (by decide) (by decide)) (by decide) (by decide)
  have qx_74 : x_74.toInt = ((G.1 102) : Int32).toInt + 4 := by rw [ex_74]; exact rg_addE hI.a102 rl_4 (by decide) (by decide)
  refine lv_bipush (v := 80) hx hb dX12_sign_11 (by decide) ?_
  refine lv_icmp_le (tgt := 18) hx hb dX12_sign_13 (by decide) (fun c_75 => ?_) (fun c_75 => ?_)
  · have r_76 : rgI (4) (80) x_74 := rg_w (rg_leL rx_74 rl_80 c_75) (by decide) (by decide)
    refine lv_iconst (v := 3) hx hb dX12_sign_18 (by decide) ?_
    refine lv_istore_n (lv' := [(2, .int 3), (0, .ref h0), (1, .int a0)]) hx hb dX12_sign_19 rfl hl (by decide) rfl (fun ls hl => ?_)
    exact L_20 _ H locs G_54 (G.2.1 (g.2.2 101)) 3 ls (by rw [u_56]; exact rg_w hI.a102 (by decide) (by decide)) fr_55 w_68 (rg_w rl_3 (by decide) (by decide)) (by rw [u_56]; exact sg_0) (by rw [← ex_74]; exact c_75) (Nat.lt_succ_self _) (lv_sub hl [1, 2, 0] rfl) hH hS
  · have r_77 : rgI (81) (84) x_74 := rg_w (rg_ltR rl_80 rx_74 (nle_lt c_75)) (by decide) (by decide)
    refine lv_iconst (v := (-1)) hx hb dX12_sign_16 (by decide) ?_
    exact W.iret hx hb hr (fun t ht hWm => ⟨⟨(-1), (Ty, G_54), rfl, ⟨rfl, ⟨fr_55, ⟨⟨(by rw [u_56]; exact (rg_w hI.a102 (by decide) (by decide))), (by rw [u_57]; exact (rg_w hI.a104 (by decide) (by decide))), (by rw [u_58]; exact (rg_w hI.a113 (by decide) (by decide))), (by rw [u_59]; exact (rg_w hI.a122 (by decide) (by decide))), (by rw [u_60]; exact (rg_w hI.a133 (by decide) (by decide))), (by rw [u_61]; exact (rg_w hI.a137 (by decide) (by decide))), u_69, u_70, (by rw [w_63]; exact (hI.ti.hi (show Bd ≤ Bd + 1000 by omega))), (hI.un2 (show Bd ≤ Bd + 1000 by omega) w_64 u_59), (hI.ke2 (show Bd ≤ Bd + 1000 by omega) w_65 w_66)⟩, Or.inl ⟨rfl, by rw [← ex_74]; exact nle_lt c_75, u_56⟩⟩⟩⟩, by show HT g Ty G_54 t.heap; rw [ht]; exact hH⟩, hS.F ht⟩) hS.2.2 dX12_sign_17
