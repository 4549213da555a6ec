def F_X12_here (rdf askf : Nat → Int32) (len top isA : Int32) (ya yw : Int32) : Int32 := (if len ≤ ya then (-1 : Int32) else (if top ≤ ya then (-1 : Int32) else ((rdf (Int32.toNatClampNeg ya)) &&& (255 : Int32))))
set_option maxHeartbeats 4000000 in
set_option maxRecDepth 100000 in
theorem c_X12_here (l : Launch) (g : Gx) (Ty : TyM) (G : Gh) (h0 : Nat) (k_h0 : Ty h0 = some (22, 0)) (rd nn : Nat) (rdf askf : Nat → Int32) (len top isA : Int32) (M : Int) (at0 wr0 : Int32) (hPE : PE g Ty G rd nn rdf askf len top isA M at0 wr0) : Met l yX12_here (wsG yX12_here cX12_here 1 (some .int)) ({ frames := 0, cells := 0, slots := 0, locals := 0 }) (PcH g Ty G [.ref h0]) (vp_Si (fun r => rgI (-1) (255) r ∧ r = F_X12_here rdf askf len top isA  at0 wr0)) 0 0 (fun _ => False) := by
  refine Met.ofW (cc := cX12_here) (maxL := 1) (ret := (some .int)) (by decide) rfl ?_
  intro p e s m args below meth c s₁ B hml hv
  obtain ⟨rfl, hK, hH⟩ := hv
  have hx := B.exec
  have hb := B.bytes
  have hr := B.returns
  have hts := atoms_spec (ws := (wsG yX12_here cX12_here 1 (some .int))) B.pre
  have hG : ∀ w ∈ GW, w.before ([.ref h0] : List Value).toArray s = true := fun w h => hts w (List.mem_cons_of_mem _ h)
  have hown : s.vm.findClass RX12 = some m.cls := findClass_of_methodNamed B.named
  have hlocks := B.notSynchronized
  have hl := lv_entry [.ref h0] (n := 1) (Nat.le_of_ble_eq_true rfl)
  rw [lg_entry_eq]
  generalize (lg_sl [.ref h0] ++ List.replicate (1 - (lg_sl [.ref h0]).length) Slot.unset).toArray = ls at hl ⊢
  have hl : lv_has ls 1 [(0, .ref h0)] := hl
  have hp0 : G = pst G at0 wr0 := pst_id hPE
  have hv : (if len ≤ at0 then (-1 : Int32) else (if top ≤ at0 then (-1 : Int32) else ((rdf (Int32.toNatClampNeg at0)) &&& (255 : Int32)))) = F_X12_here rdf askf len top isA  at0 wr0 := rfl
  have L_38 : ∀ (pa_38 : Int32) (pw_38 : Int32) (ls : Array Slot), PE g Ty G rd nn rdf askf len top isA M pa_38 pw_38 → G = pst G pa_38 pw_38 → at0.toInt ≤ (pa_38 : Int32).toInt → lv_has ls 1 [] → (-1 : Int32) = F_X12_here rdf askf len top isA  at0 wr0 → Wm p l e (wsG yX12_here cX12_here 1 (some .int)) ({ frames := 0, cells := 0, slots := 0, locals := 0 }) s m [.ref h0] below meth c s.heap [] (0) (0) (vp_Si (fun r => rgI (-1) (255) r ∧ r = F_X12_here rdf askf len top isA  at0 wr0)) 0 0 (fun _ => False) (F0 m 38 ls []) := by
    intro pa_38 pw_38 ls hPE_38 hp_38 hmo_38 hl hv
    refine lv_iconst (v := (-1)) hx hb dX12_here_38 (by decide) ?_
    exact W.iret hx hb hr (fun t ht hW => ⟨(-1), rfl, ⟨rg_w rl_m1 (by decide) (by decide), hv⟩, ht⟩) (fun q h => by cases h) dX12_here_39
  refine lv_aload_n hx hb dX12_here_0 rfl (lv_at hl 0 rfl) ?_
  obtain ⟨_, ⟨rfl, t_2, hk_3⟩, o_c_1⟩ := hH h0 _ k_h0
  refine hg_get hx hb hG igX12 hown hK o_c_1 rfl 9 (by decide) (hG _ mw_1293) rfl dX12_here_1 ?_
  rw [(PE.e109 hPE)]
  refine lv_aload_n hx hb dX12_here_4 rfl (lv_at hl 0 rfl) ?_
  refine hg_get hx hb hG igX12 hown hK o_c_1 rfl 7 (by decide) (hG _ mw_1291) rfl dX12_here_5 ?_
  rw [(PE.e107 hPE)]
  refine lv_icmp_ge (tgt := 38) hx hb dX12_here_8 (by decide) (fun c_4 => ?_) (fun c_4 => ?_)
  · rw [if_pos c_4] at hv
    have r_5 : rgI (-2147483648) (80) len := rg_w (rg_leL (rg_top len) (PE.ra8 hPE) c_4) (by decide) (by decide)
    exact L_38 at0 wr0 ls hPE hp0 (Int.le_refl at0.toInt) (lv_sub hl [] rfl) hv
  · rw [if_neg c_4] at hv
    have r_6 : rgI (1) (2147483647) len := rg_w (rg_ltR (PE.ra8 hPE) (rg_top len) (nle_lt c_4)) (by decide) (by decide)
    refine lv_aload_n hx hb dX12_here_11 rfl (lv_at hl 0 rfl) ?_
    refine hg_get hx hb hG igX12 hown hK o_c_1 rfl 9 (by decide) (hG _ mw_1293) rfl dX12_here_12 ?_
    rw [(PE.e109 hPE)]
    refine lv_aload_n hx hb dX12_here_15 rfl (lv_at hl 0 rfl) ?_
    refine hg_get hx hb hG igX12 hown hK o_c_1 rfl 8 (by decide) (hG _ mw_1292) rfl dX12_here_16 ?_
    rw [(PE.e108 hPE)]
    refine lv_icmp_ge (tgt := 38) hx hb dX12_here_19 (by decide) (fun c_7 => ?_) (fun c_7 => ?_)
    · rw [if_pos c_7] at hv
      have r_8 : rgI (-2147483648) (80) top := rg_w (rg_leL (rg_top top) (PE.ra8 hPE) c_7) (by decide) (by decide)
      exact L_38 at0 wr0 ls hPE hp0 (Int.le_refl at0.toInt) (lv_sub hl [] rfl) hv
    · rw [if_neg c_7] at hv
      have r_9 : rgI (1) (2147483647) top := rg_w (rg_ltR (PE.ra8 hPE) (rg_top top) (nle_lt c_7)) (by decide) (by decide)
      refine lv_aload_n hx hb dX12_here_22 rfl (lv_at hl 0 rfl) ?_
      refine hg_get hx hb hG igX12 hown hK o_c_1 rfl 6 (by decide) (hG _ mw_1290) rfl dX12_here_23 ?_
      rw [show va_rf (G.2.2 106) = Value.ref rd by rw [hPE.1]; rfl]
      refine lv_aload_n hx hb dX12_here_26 rfl (lv_at hl 0 rfl) ?_
      refine hg_get hx hb hG igX12 hown hK o_c_1 rfl 9 (by decide) (hG _ mw_1293) rfl dX12_here_27 ?_
      rw [(PE.e109 hPE)]
      obtain ⟨_, rfl, o_c_10⟩ := hH rd _ hPE.2.1
      have o_c_10 : va_at g.1 vwCl (rd, .inl (g.2.1 0, nn, .inl (G.2.1 rd))) s.heap := o_c_10
      have in_11 : vp_in at0 nn := PE.ix hPE (nle_lt c_4)
      refine hg_bald hx hb hK o_c_10 in_11 dX12_here_30 ?_
      rw [hPE.2.2.1]
      refine lv_topi (fun x_12 ex_12 => ?_)
      try rw [← ex_12] at hv
      refine lv_sipush (v := 255) hx hb dX12_here_31 (by decide) ?_
      refine lv_iand hx hb dX12_here_34 ?_
      refine lv_topi (fun x_13 ex_13 => ?_)
      try rw [← ex_13] at hv
      have rx_13 : rgI (0) (255) x_13 := by rw [ex_13]; exact rg_w (rg_and255 _) (by decide) (by decide)
      refine lv_goto (tgt := 39) hx hb dX12_here_35 (by decide) ?_
      exact W.iret hx hb hr (fun t ht hW => ⟨x_13, rfl, ⟨rg_w rx_13 (by decide) (by decide), hv⟩, ht⟩) (fun q h => by cases h) dX12_here_39

def F_X12_fine (rdf askf : Nat → Int32) (len top isA : Int32) (ya yw : Int32) : Int32 := (if yw = (-1 : Int32) then (1 : Int32) else (0 : Int32))
set_option maxHeartbeats 4000000 in
set_option maxRecDepth 100000 in
theorem c_X12_fine_p (l : Launch) (g : Gx) (Ty : TyM) (G : Gh) (h0 : Nat) (k_h0 : Ty h0 = some (22, 0)) (rd nn : Nat) (rdf askf : Nat → Int32) (len top isA : Int32) (M : Int) (at0 wr0 : Int32) (hPE : PE g Ty G rd nn rdf askf len top isA M at0 wr0) : Met l yX12_fine (wsG yX12_fine cX12_fine 1 (some .boolean)) ({ frames := 0, cells := 0, slots := 0, locals := 0 }) (PcH g Ty G [.ref h0]) (vp_Si (fun r => rgI (0) (1) r ∧ r = F_X12_fine rdf askf len top isA  at0 wr0)) 0 0 (fun _ => False) := by
  refine Met.ofW (cc := cX12_fine) (maxL := 1) (ret := (some .boolean)) (by decide) rfl ?_
  intro p e s m args below meth c s₁ B hml hv
  obtain ⟨rfl, hK, hH⟩ := hv
  have hx := B.exec
  have hb := B.bytes
  have hr := B.returns
  have hts := atoms_spec (ws := (wsG yX12_fine cX12_fine 1 (some .boolean))) B.pre
  have hG : ∀ w ∈ GW, w.before ([.ref h0] : List Value).toArray s = true := fun w h => hts w (List.mem_cons_of_mem _ h)
  have hown : s.vm.findClass RX12 = some m.cls := findClass_of_methodNamed B.named
  have hlocks := B.notSynchronized
  have hl := lv_entry [.ref h0] (n := 1) (Nat.le_of_ble_eq_true rfl)
  rw [lg_entry_eq]
  generalize (lg_sl [.ref h0] ++ List.replicate (1 - (lg_sl [.ref h0]).length) Slot.unset).toArray = ls at hl ⊢
  have hl : lv_has ls 1 [(0, .ref h0)] := hl
  have hp0 : G = pst G at0 wr0 := pst_id hPE
  have hv : (if wr0 = (-1 : Int32) then (1 : Int32) else (0 : Int32)) = F_X12_fine rdf askf len top isA  at0 wr0 := rfl
  refine lv_aload_n hx hb dX12_fine_0 rfl (lv_at hl 0 rfl) ?_
  obtain ⟨_, ⟨rfl, t_2, hk_3⟩, o_c_1⟩ := hH h0 _ k_h0
  refine hg_get hx hb hG igX12 hown hK o_c_1 rfl 10 (by decide) (hG _ mw_1294) rfl dX12_fine_1 ?_
  rw [(PE.e110 hPE)]
  refine lv_iconst (v := (-1)) hx hb dX12_fine_4 (by decide) ?_
  refine lv_icmp_ne (tgt := 12) hx hb dX12_fine_5 (by decide) (fun c_4 => ?_) (fun c_4 => ?_)
  · rw [if_neg c_4] at hv
    refine lv_iconst (v := 0) hx hb dX12_fine_12 (by decide) ?_
    exact W.zret hx hb hr rfl (fun t ht hW => ⟨0, rfl, ⟨rg_w rl_0 (by decide) (by decide), hv⟩, ht⟩) (fun q h => by cases h) dX12_fine_13
  · rw [if_pos c_4] at hv
    have r_5 : rgI (-1) (-1) wr0 := rg_w (rg_eq rl_m1 c_4) (by decide) (by decide)
    refine lv_iconst (v := 1) hx hb dX12_fine_8 (by decide) ?_
    refine lv_goto (tgt := 13) hx hb dX12_fine_9 (by decide) ?_
    exact W.zret hx hb hr rfl (fun t ht hW => ⟨1, rfl, ⟨rg_w rl_1 (by decide) (by decide), hv⟩, ht⟩) (fun q h => by cases h) dX12_fine_13

theorem here_lt {rdf askf : Nat → Int32} {len top isA a w : Int32} (h : ¬ F_X12_here rdf askf len top isA a w = -1) : a < len := by
  unfold F_X12_here at h
  by_cases c : len ≤ a
  · rw [if_pos c] at h; exact absurd rfl h
  · exact nle_lt c
theorem here_tp {rdf askf : Nat → Int32} {len top isA a w : Int32} (h : ¬ F_X12_here rdf askf len top isA a w = -1) : a < top := by
  unfold F_X12_here at h
  by_cases c : len ≤ a
  · rw [if_pos c] at h; exact absurd rfl h
  · rw [if_neg c] at h
    by_cases c2 : top ≤ a
    · rw [if_pos c2] at h; exact absurd rfl h
    · exact nle_lt c2
theorem pe_up {g : Gx} {Ty : TyM} {G : Gh} {rd nn : Nat} {rdf askf : Nat → Int32} {len top isA a w x : Int32} {M : Int} (h : PE g Ty G rd nn rdf askf len top isA M a w) (hn : ¬ F_X12_here rdf askf len top isA a w = -1) (q : x.toInt = a.toInt + 1) : rgI 0 M x := by
  have h1 := fz_lt.mp (here_lt hn); have h2 := fz_lt.mp (here_tp hn); have h3 := h.hM; have h4 := h.ra.1
  constructor <;> omega
theorem pe_ix1 {g : Gx} {Ty : TyM} {G : Gh} {rd nn : Nat} {rdf askf : Nat → Int32} {len top isA a w x i : Int32} {M : Int} (h : PE g Ty G rd nn rdf askf len top isA M a w) (hn : ¬ F_X12_here rdf askf len top isA a w = -1) (q : x.toInt = a.toInt + 1) (e : i = x - 1) : vp_in i nn := by
  have h1 := fz_lt.mp (here_lt hn); have h2 := h.rl.2; have h3 := h.n80; have h4 := h.ra.1
  have q2 : i.toInt = x.toInt - 1 := by rw [e]; exact ti_sub (y := 1) (by show _ ≤ x.toInt - 1; omega) (by show x.toInt - 1 ≤ _; omega)
  exact vp_in_iff.mpr ⟨by omega, by omega⟩
theorem let_rg {x y c : Int32} (h : x = F_X12_letterOf c) (h2 : y = F_X12_letterOf c) (c2 : ¬ y = -1) (r : rgI (-1) 6 x) : rgI 0 6 x := by
  have e : x = y := h.trans h2.symm
  exact rg_w (rg_neL r (show rgI (-1) (-1) (-1 : Int32) from ⟨by decide, by decide⟩) (by rw [e]; exact c2)) (by decide) (by decide)
theorem ix_lt {lo hi : Int} {x : Int32} (h : rgI lo hi x) (h0 : 0 ≤ lo) (h1 : hi ≤ 6) : x.toNatClampNeg < 7 := by
  have a := h.1; have b := h.2
  show x.toInt.toNat < 7
  omega

def F_X12_fault (rdf askf : Nat → Int32) (len top isA : Int32) (a0 ya yw : Int32) : Int32 × Int32 × Int32 := (if (F_X12_fine rdf askf len top isA  ya yw) = (0 : Int32) then ((0 : Int32), ya, yw) else ((0 : Int32), ya, a0))
set_option maxHeartbeats 4000000 in
set_option maxRecDepth 100000 in
theorem c_X12_fault_p (l : Launch) (g : Gx) (Ty : TyM) (G : Gh) (sz : Nat) (h0 : Nat) (a0 : Int32) (k_h0 : Ty h0 = some (22, 0)) (rd nn : Nat) (rdf askf : Nat → Int32) (len top isA : Int32) (M : Int) (at0 wr0 : Int32) (hPE : PE g Ty G rd nn rdf askf len top isA M at0 wr0) : Met l yX12_fault (wsG yX12_fault cX12_fault 2 none) ({ frames := 1, cells := 0, slots := 0, locals := 20 }) (PcT g Ty G sz [.ref h0, .int a0]) (QwV g Ty sz (fun u => u.1 = Ty ∧ PRv G u.2 at0 M (F_X12_fault rdf askf len top isA a0 at0 wr0))) 0 0 (AF Ty sz) := by
  refine Met.ofW (cc := cX12_fault) (maxL := 2) (ret := none) (by decide) rfl ?_
  intro p e s m args below meth c s₁ B hml hv
  obtain ⟨rfl, hsz, hK, hH⟩ := hv
  subst hsz
  have hx := B.exec
  have hb := B.bytes
  have hr := B.returns
  have hts := atoms_spec (ws := (wsG yX12_fault cX12_fault 2 none)) B.pre
  have hG : ∀ w ∈ GW, w.before ([.ref h0, .int a0] : List Value).toArray s = true := fun w h => hts w (List.mem_cons_of_mem _ h)
  have hown : s.vm.findClass RX12 = some m.cls := findClass_of_methodNamed B.named
  have hlocks := B.notSynchronized
  have hl := lv_entry [.ref h0, .int a0] (n := 2) (Nat.le_of_ble_eq_true rfl)
  rw [lg_entry_eq]
  generalize (lg_sl [.ref h0, .int a0] ++ List.replicate (2 - (lg_sl [.ref h0, .int a0]).length) Slot.unset).toArray = ls at hl ⊢
  have hl : lv_has ls 2 [(0, .ref h0), (1, .int a0)] := hl
  have hp0 : G = pst G at0 wr0 := pst_id hPE
  have hv : (if (F_X12_fine rdf askf len top isA  at0 wr0) = (0 : Int32) then ((0 : Int32), at0, wr0) else ((0 : Int32), at0, a0)) = F_X12_fault rdf askf len top isA a0 at0 wr0 := rfl
  have hS : va_S (AF Ty s.heap.size) s.heap s.heap [] := va_S.rf
  refine lv_aload_n hx hb dX12_fault_0 rfl (lv_at hl 0 rfl) ?_
  obtain ⟨_, ⟨rfl, t_2, hk_3⟩, o_c_1⟩ := hH h0 _ k_h0
  refine vp_callSi (W.runV (As := []) (rest := []) ⟨hx, hb, hml, hown, hts⟩ (c_X12_fine_p l g Ty G h0 k_h0 rd nn rdf askf len top isA M at0 wr0 hPE) (cwV 0 hts (gwV mw_1463 mw_1465 mw_39 mw_88 mw_1466) rfl rfl rfl hv_X12_fine ⟨Nat.le_of_ble_eq_true rfl, Nat.le_of_ble_eq_true rfl⟩) ⟨PcH_blind, hg_recv hK o_c_1 rfl, PcH_pre hK hH⟩ rfl rfl hl.1 rfl (lv_room (Nat.le_of_ble_eq_true rfl)) dX12_fault_1 ⟨Nat.zero_le _, Nat.zero_le _⟩) (fun x_4 hx_4 => ?_)
  have rx_4 : rgI (0) (1) x_4 := hx_4.1
  try rw [← hx_4.2] at hv
  refine lv_if_eq (tgt := 12) hx hb dX12_fault_4 (by decide) (fun c_5 => ?_) (fun c_5 => ?_)
  · rw [if_pos c_5] at hv
    have r_6 : rgI (0) (0) x_4 := rg_w (rg_eq rl_0 c_5) (by decide) (by decide)
    exact W.vret hx hb hr (fun t ht hWm => ⟨⟨(Ty, G), rfl, ⟨rfl, PRv.mk hv hp0 (Int.le_refl at0.toInt) (PE.ra hPE)⟩, by show HT g Ty G t.heap; rw [ht]; exact hH⟩, hS.F ht⟩) hS.2.2 dX12_fault_12
  · rw [if_neg c_5] at hv
    have r_7 : rgI (1) (1) x_4 := rg_w (rg_neL rx_4 rl_0 c_5) (by decide) (by decide)
    refine lv_aload_n hx hb dX12_fault_7 rfl (lv_at hl 0 rfl) ?_
    refine lv_iload_n hx hb dX12_fault_8 rfl (lv_at hl 1 rfl) ?_
    refine hg_put (ty := .int) hx hb hG igX12 tyX12 tyX12_ok nmX12 hown hK hS o_c_1 (AF.of k_h0) rfl 10 (by decide) (hG _ mw_1294) rfl (by decide +kernel) rfl rfl (Nat.le_of_ble_eq_true rfl) dX12_fault_9 (fun H locs o_c_1 hz oq hS => ?_)
    obtain ⟨G_8, eG_8⟩ : ∃ z : Gh, z = gset G 110 a0 := ⟨_, rfl⟩
    have hH : HT g Ty G_8 H := by rw [eG_8]; exact HT.putN 110 a0 hH k_h0 ⟨rfl, t_2, hk_3⟩ o_c_1 oq (Or.inr (Or.inr (Or.inr (Or.inr (Or.inr ⟨by decide, t_2⟩)))))
    have hPE_9 : PE g Ty G_8 rd nn rdf askf len top isA M at0 a0 := PE.wr hPE eG_8
    have hp_10 : G_8 = pst G at0 a0 := pst_w hp0 eG_8
    clear oq hz
    exact W.vret hx hb hr (fun t ht hWm => ⟨⟨(Ty, G_8), rfl, ⟨rfl, PRv.mk hv hp_10 (Int.le_refl at0.toInt) (PE.ra hPE_9)⟩, by show HT g Ty G_8 t.heap; rw [ht]; exact hH⟩, hS.F ht⟩) hS.2.2 dX12_fault_12

def F_X12_passes (rdf askf : Nat → Int32) (len top isA : Int32) (a0 ya yw : Int32) : Int32 × Int32 × Int32 := (if (F_X12_fine rdf askf len top isA  ya yw) = (0 : Int32) then ((0 : Int32), ya, yw) else (if (F_X12_here rdf askf len top isA  ya yw) = a0 then ((1 : Int32), (ya + (1 : Int32)), yw) else ((0 : Int32), ya, yw)))
set_option maxHeartbeats 4000000 in
set_option maxRecDepth 100000 in
theorem c_X12_passes (l : Launch) (g : Gx) (Ty : TyM) (G : Gh) (sz : Nat) (h0 : Nat) (a0 : Int32) (k_h0 : Ty h0 = some (22, 0)) (pr0 : rgI (0) (65535) a0) (rd nn : Nat) (rdf askf : Nat → Int32) (len top isA : Int32) (M : Int) (at0 wr0 : Int32) (hPE : PE g Ty G rd nn rdf askf len top isA M at0 wr0) : Met l yX12_passes (wsG yX12_passes cX12_passes 2 (some .boolean)) ({ frames := 1, cells := 0, slots := 0, locals := 20 }) (PcT g Ty G sz [.ref h0, .int a0]) (QwI g Ty sz (fun r u => (rgI (0) (1) r ∧ (r = 0 ∨ at0.toInt < (F_X12_passes rdf askf len top isA a0 at0 wr0).2.1.toInt)) ∧ u.1 = Ty ∧ PR G u.2 r at0 M (F_X12_passes rdf askf len top isA a0 at0 wr0))) 0 0 (AF Ty sz) := by
  refine Met.ofW (cc := cX12_passes) (maxL := 2) (ret := (some .boolean)) (by decide) rfl ?_
  intro p e s m args below meth c s₁ B hml hv
  obtain ⟨rfl, hsz, hK, hH⟩ := hv
  subst hsz
  have hx := B.exec
  have hb := B.bytes
  have hr := B.returns
  have hts := atoms_spec (ws := (wsG yX12_passes cX12_passes 2 (some .boolean))) B.pre
  have hG : ∀ w ∈ GW, w.before ([.ref h0, .int a0] : List Value).toArray s = true := fun w h => hts w (List.mem_cons_of_mem _ h)
  have hown : s.vm.findClass RX12 = some m.cls := findClass_of_methodNamed B.named
  have hlocks := B.notSynchronized
  have hl := lv_entry [.ref h0, .int a0] (n := 2) (Nat.le_of_ble_eq_true rfl)
  rw [lg_entry_eq]
  generalize (lg_sl [.ref h0, .int a0] ++ List.replicate (2 - (lg_sl [.ref h0, .int a0]).length) Slot.unset).toArray = ls at hl ⊢
  have hl : lv_has ls 2 [(0, .ref h0), (1, .int a0)] := hl
  have hp0 : G = pst G at0 wr0 := pst_id hPE
  have hv : (if (F_X12_fine rdf askf len top isA  at0 wr0) = (0 : Int32) then ((0 : Int32), at0, wr0) else (if (F_X12_here rdf askf len top isA  at0 wr0) = a0 then ((1 : Int32), (at0 + (1 : Int32)), wr0) else ((0 : Int32), at0, wr0))) = F_X12_passes rdf askf len top isA a0 at0 wr0 := rfl
  have hS : va_S (AF Ty s.heap.size) s.heap s.heap [] := va_S.rf
  have L_15 : ∀ (H : Heap) (locs : List Loc) (G_15 : Gh) (pa_15 : Int32) (pw_15 : Int32) (ls : Array Slot), PE g Ty G_15 rd nn rdf askf len top isA M pa_15 pw_15 → G_15 = pst G pa_15 pw_15 → at0.toInt ≤ (pa_15 : Int32).toInt → lv_has ls 2 [] → ((0 : Int32), pa_15, pw_15) = F_X12_passes rdf askf len top isA a0 at0 wr0 → HT g Ty G_15 H → va_S (AF Ty s.heap.size) s.heap H locs → Wm p l e (wsG yX12_passes cX12_passes 2 (some .boolean)) ({ frames := 1, cells := 0, slots := 0, locals := 20 }) s m [.ref h0, .int a0] below meth c H locs (0) (0) (QwI g Ty s.heap.size (fun r u => (rgI (0) (1) r ∧ (r = 0 ∨ at0.toInt < (F_X12_passes rdf askf len top isA a0 at0 wr0).2.1.toInt)) ∧ u.1 = Ty ∧ PR G u.2 r at0 M (F_X12_passes rdf askf len top isA a0 at0 wr0))) 0 0 (AF Ty s.heap.size) (F0 m 15 ls []) := by
    intro H locs G_15 pa_15 pw_15 ls hPE_15 hp_15 hmo_15 hl hv hH hS
    refine lv_iconst (v := 0) hx hb dX12_passes_15 (by decide) ?_
    exact W.zret hx hb hr rfl (fun t ht hWm => ⟨⟨0, (Ty, G_15), rfl, ⟨⟨rg_w rl_0 (by decide) (by decide), Or.inl rfl⟩, ⟨rfl, PR.mk hv hp_15 hmo_15 (PE.ra hPE_15)⟩⟩, by show HT g Ty G_15 t.heap; rw [ht]; exact hH⟩, hS.F ht⟩) hS.2.2 dX12_passes_16
  refine lv_aload_n hx hb dX12_passes_0 rfl (lv_at hl 0 rfl) ?_
  obtain ⟨_, ⟨rfl, t_2, hk_3⟩, o_c_1⟩ := hH h0 _ k_h0
  refine vp_callSi (W.runV (As := []) (rest := []) ⟨hx, hb, hml, hown, hts⟩ (c_X12_fine_p l g Ty G h0 k_h0 rd nn rdf askf len top isA M at0 wr0 hPE) (cwV 0 hts (gwV mw_1463 mw_1465 mw_39 mw_88 mw_1466) rfl rfl rfl hv_X12_fine ⟨Nat.le_of_ble_eq_true rfl, Nat.le_of_ble_eq_true rfl⟩) ⟨PcH_blind, hg_recv hK o_c_1 rfl, PcH_pre hK hH⟩ rfl rfl hl.1 rfl (lv_room (Nat.le_of_ble_eq_true rfl)) dX12_passes_1 ⟨Nat.zero_le _, Nat.zero_le _⟩) (fun x_4 hx_4 => ?_)
  have rx_4 : rgI (0) (1) x_4 := hx_4.1
  try rw [← hx_4.2] at hv
  refine lv_if_eq (tgt := 15) hx hb dX12_passes_4 (by decide) (fun c_5 => ?_) (fun c_5 => ?_)
  · rw [if_pos c_5] at hv
    have r_6 : rgI (0) (0) x_4 := rg_w (rg_eq rl_0 c_5) (by decide) (by decide)
    exact L_15 s.heap [] G at0 wr0 ls hPE hp0 (Int.le_refl at0.toInt) (lv_sub hl [] rfl) hv hH hS
  · rw [if_neg c_5] at hv
    have r_7 : rgI (1) (1) x_4 := rg_w (rg_neL rx_4 rl_0 c_5) (by decide) (by decide)
    refine lv_aload_n hx hb dX12_passes_7 rfl (lv_at hl 0 rfl) ?_
    refine vp_callSi (W.runV (As := []) (rest := []) ⟨hx, hb, hml, hown, hts⟩ (c_X12_here l g Ty G h0 k_h0 rd nn rdf askf len top isA M at0 wr0 hPE) (cwV 0 hts (gwV mw_1467 mw_1469 mw_40 mw_88 mw_1470) rfl rfl rfl hv_X12_here ⟨Nat.le_of_ble_eq_true rfl, Nat.le_of_ble_eq_true rfl⟩) ⟨PcH_blind, hg_recv hK o_c_1 rfl, PcH_pre hK hH⟩ rfl rfl hl.1 rfl (lv_room (Nat.le_of_ble_eq_true rfl)) dX12_passes_8 ⟨Nat.zero_le _, Nat.zero_le _⟩) (fun x_8 hx_8 => ?_)
    have rx_8 : rgI (-1) (255) x_8 := hx_8.1
    try rw [← hx_8.2] at hv
    refine lv_iload_n hx hb dX12_passes_11 rfl (lv_at hl 1 rfl) ?_
    refine lv_icmp_eq (tgt := 17) hx hb dX12_passes_12 (by decide) (fun c_9 => ?_) (fun c_9 => ?_)
    · rw [if_pos c_9] at hv
      refine lv_aload_n hx hb dX12_passes_17 rfl (lv_at hl 0 rfl) ?_
      refine lv_dup hx hb dX12_passes_18 rfl ?_
      refine hg_get hx hb hG igX12 hown hK o_c_1 rfl 9 (by decide) (hG _ mw_1293) rfl dX12_passes_19 ?_
      rw [(PE.e109 hPE)]
      refine lv_iconst (v := 1) hx hb dX12_passes_22 (by decide) ?_
      refine lv_iadd hx hb dX12_passes_23 ?_
      refine lv_topi (fun x_10 ex_10 => ?_)
      try rw [← ex_10] at hv
      have rx_10 : rgI (1) (81) x_10 := by rw [ex_10]; exact rg_w (rg_add (PE.ra8 hPE) rl_1 (by decide) (by decide)) (by decide) (by decide)
      have qx_10 : x_10.toInt = (at0 : Int32).toInt + 1 := by rw [ex_10]; exact rg_addE (PE.ra8 hPE) rl_1 (by decide) (by decide)
      refine hg_put (ty := .int) hx hb hG igX12 tyX12 tyX12_ok nmX12 hown hK hS o_c_1 (AF.of k_h0) rfl 9 (by decide) (hG _ mw_1293) rfl (by decide +kernel) rfl rfl (Nat.le_of_ble_eq_true rfl) dX12_passes_24 (fun H locs o_c_1 hz oq hS => ?_)
      obtain ⟨G_11, eG_11⟩ : ∃ z : Gh, z = gset G 109 x_10 := ⟨_, rfl⟩
      have hH : HT g Ty G_11 H := by rw [eG_11]; exact HT.putN 109 x_10 hH k_h0 ⟨rfl, t_2, hk_3⟩ o_c_1 oq (Or.inr (Or.inr (Or.inr (Or.inr (Or.inr ⟨by decide, t_2⟩)))))
      have ra_15 : rgI 0 M x_10 := pe_up hPE (nh_eq hx_8.2 c_9 (nh_pos pr0 (by decide))) qx_10
      have hPE_12 : PE g Ty G_11 rd nn rdf askf len top isA M x_10 wr0 := PE.atx hPE eG_11 ra_15
      have hp_13 : G_11 = pst G x_10 wr0 := pst_a hp0 eG_11
      have hmo_14 : at0.toInt ≤ (x_10 : Int32).toInt := by have q1 := (Int.le_refl at0.toInt); have q2 := qx_10; omega
      clear oq hz
      refine lv_iconst (v := 1) hx hb dX12_passes_27 (by decide) ?_
      exact W.zret hx hb hr rfl (fun t ht hWm => ⟨⟨1, (Ty, G_11), rfl, ⟨⟨rg_w rl_1 (by decide) (by decide), (Or.inr (by rw [← hv]; have q := qx_10; show at0.toInt < (x_10 : Int32).toInt; omega))⟩, ⟨rfl, PR.mk hv hp_13 hmo_14 (PE.ra hPE_12)⟩⟩, by show HT g Ty G_11 t.heap; rw [ht]; exact hH⟩, hS.F ht⟩) hS.2.2 dX12_passes_28
    · rw [if_neg c_9] at hv
      exact L_15 s.heap [] G at0 wr0 ls hPE hp0 (Int.le_refl at0.toInt) (lv_sub hl [] rfl) hv hH hS

def F_X12_need (rdf askf : Nat → Int32) (len top isA : Int32) (a0 ya yw : Int32) : Int32 × Int32 × Int32 := (bn3 (F_X12_passes rdf askf len top isA a0 ya yw) (fun bv5 ba5 bw5 => (if bv5 = (0 : Int32) then (bn3 (F_X12_fault rdf askf len top isA ba5 ba5 bw5) (fun _ ba6 bw6 => ((0 : Int32), ba6, bw6))) else ((0 : Int32), ba5, bw5))))
set_option maxHeartbeats 4000000 in
set_option maxRecDepth 100000 in
theorem c_X12_need (l : Launch) (g : Gx) (Ty : TyM) (G : Gh) (sz : Nat) (h0 : Nat) (a0 : Int32) (k_h0 : Ty h0 = some (22, 0)) (pr0 : rgI (0) (65535) a0) (rd nn : Nat) (rdf askf : Nat → Int32) (len top isA : Int32) (M : Int) (at0 wr0 : Int32) (hPE : PE g Ty G rd nn rdf askf len top isA M at0 wr0) : Met l yX12_need (wsG yX12_need cX12_need 2 none) ({ frames := 2, cells := 0, slots := 0, locals := 41 }) (PcT g Ty G sz [.ref h0, .int a0]) (QwV g Ty sz (fun u => u.1 = Ty ∧ PRv G u.2 at0 M (F_X12_need rdf askf len top isA a0 at0 wr0))) 0 0 (AF Ty sz) := by
  refine Met.ofW (cc := cX12_need) (maxL := 2) (ret := none) (by decide) rfl ?_
  intro p e s m args below meth c s₁ B hml hv
  obtain ⟨rfl, hsz, hK, hH⟩ := hv
  subst hsz
  have hx := B.exec
  have hb := B.bytes
  have hr := B.returns
  have hts := atoms_spec (ws := (wsG yX12_need cX12_need 2 none)) B.pre
  have hG : ∀ w ∈ GW, w.before ([.ref h0, .int a0] : List Value).toArray s = true := fun w h => hts w (List.mem_cons_of_mem _ h)
  have hown : s.vm.findClass RX12 = some m.cls := findClass_of_methodNamed B.named
  have hlocks := B.notSynchronized
  have hl := lv_entry [.ref h0, .int a0] (n := 2) (Nat.le_of_ble_eq_true rfl)
  rw [lg_entry_eq]
  generalize (lg_sl [.ref h0, .int a0] ++ List.replicate (2 - (lg_sl [.ref h0, .int a0]).length) Slot.unset).toArray = ls at hl ⊢
  have hl : lv_has ls 2 [(0, .ref h0), (1, .int a0)] := hl
  have hp0 : G = pst G at0 wr0 := pst_id hPE
  have hv : (bn3 (F_X12_passes rdf askf len top isA a0 at0 wr0) (fun bv3 ba3 bw3 => (if bv3 = (0 : Int32) then (bn3 (F_X12_fault rdf askf len top isA ba3 ba3 bw3) (fun _ ba4 bw4 => ((0 : Int32), ba4, bw4))) else ((0 : Int32), ba3, bw3)))) = F_X12_need rdf askf len top isA a0 at0 wr0 := rfl
  have hS : va_S (AF Ty s.heap.size) s.heap s.heap [] := va_S.rf
  refine lv_aload_n hx hb dX12_need_0 rfl (lv_at hl 0 rfl) ?_
  refine lv_iload_n hx hb dX12_need_1 rfl (lv_at hl 1 rfl) ?_
  obtain ⟨_, ⟨rfl, t_2, hk_3⟩, o_c_1⟩ := hH h0 _ k_h0
  refine va_calli (va_runV (As := [.int a0]) (rest := []) ⟨hx, hb, hml, hown, hts⟩ (c_X12_passes l g Ty G s.heap.size h0 a0 k_h0 (rg_w pr0 (by decide) (by decide)) rd nn rdf askf len top isA M at0 wr0 hPE) (cwV 1 hts (gwV mw_1459 mw_1461 mw_38 mw_88 mw_1462) rfl rfl rfl hv_X12_passes ⟨Nat.le_of_ble_eq_true rfl, Nat.le_of_ble_eq_true rfl⟩) ⟨PcT_blind, hg_recv hK o_c_1 rfl, PcT_pre hK hH⟩ rfl rfl hl.1 rfl (lv_room (Nat.le_of_ble_eq_true rfl)) dX12_need_2 ⟨Nat.zero_le _, Nat.zero_le _⟩) hS (fun q _ h => AF.mono hS.1 h) (fun q h => AF.mono hS.1 h) (fun x_4 ux_4 t H locs ht hvm hx_4 hB hz hk hS => ?_)
  obtain ⟨hx_4, fx_4⟩ := hx_4
  obtain ⟨eTx_4, eGx_4⟩ := fx_4
  obtain ⟨G_5, eG_5⟩ : ∃ z, z = ux_4.2 := ⟨_, rfl⟩
  rw [← eG_5] at eGx_4
  obtain ⟨hr_k_6, hg_k_6, hm_k_6, hq_k_6⟩ := eGx_4
  obtain ⟨xa_7, exa_7⟩ : ∃ z : Int32, z = (F_X12_passes rdf askf len top isA a0 at0 wr0).2.1 := ⟨_, rfl⟩
  obtain ⟨xw_8, exw_8⟩ : ∃ z : Int32, z = (F_X12_passes rdf askf len top isA a0 at0 wr0).2.2 := ⟨_, rfl⟩
  rw [← exa_7] at hg_k_6 hm_k_6 hq_k_6
  rw [← exw_8] at hg_k_6
  rw [← exa_7] at hx_4
  have hPE_9 : PE g Ty G_5 rd nn rdf askf len top isA M xa_7 xw_8 := PE.ps hPE hg_k_6 hq_k_6
  have hp_10 : G_5 = pst G xa_7 xw_8 := pst_pst hg_k_6 hp0
  have hmo_11 : at0.toInt ≤ (xa_7 : Int32).toInt := Int.le_trans (Int.le_refl at0.toInt) hm_k_6
  have hH : HT g Ty G_5 H := by rw [← ht, ← eTx_4, eG_5]; exact hB
  have rx_4 : rgI (0) (1) x_4 := hx_4.1
  have hv : (if x_4 = (0 : Int32) then (bn3 (F_X12_fault rdf askf len top isA xa_7 xa_7 xw_8) (fun _ ba2 bw2 => ((0 : Int32), ba2, bw2))) else ((0 : Int32), xa_7, xw_8)) = F_X12_need rdf askf len top isA a0 at0 wr0 := by have q := bn3_to hr_k_6 exa_7 exw_8 hv; exact q
  refine lv_if_ne (tgt := 16) hx hb dX12_need_5 (by decide) (fun c_12 => ?_) (fun c_12 => ?_)
  · rw [if_neg c_12] at hv
    have hps_13 := (hx_4.2).resolve_left c_12
    have r_14 : rgI (1) (1) x_4 := rg_w (rg_neL rx_4 rl_0 c_12) (by decide) (by decide)
    exact W.vret hx hb hr (fun t ht hWm => ⟨⟨(Ty, G_5), rfl, ⟨rfl, PRv.mk hv hp_10 hmo_11 (PE.ra hPE_9)⟩, by show HT g Ty G_5 t.heap; rw [ht]; exact hH⟩, hS.F ht⟩) hS.2.2 dX12_need_16
  · rw [if_pos c_12] at hv
    have r_15 : rgI (0) (0) x_4 := rg_w (rg_eq rl_0 c_12) (by decide) (by decide)
    refine lv_aload_n hx hb dX12_need_8 rfl (lv_at hl 0 rfl) ?_
    refine lv_aload_n hx hb dX12_need_9 rfl (lv_at hl 0 rfl) ?_
    obtain ⟨_, ⟨rfl, t_17, hk_18⟩, o_c_16⟩ := hH h0 _ k_h0
    refine hg_get hx hb hG igX12 hown hK o_c_16 rfl 9 (by decide) (hG _ mw_1293) rfl dX12_need_10 ?_
    rw [(PE.e109 hPE_9)]
    refine va_callv (va_runV (As := [.int xa_7]) (rest := []) ⟨hx, hb, hml, hown, hts⟩ (c_X12_fault_p l g Ty G_5 H.size h0 xa_7 k_h0 rd nn rdf askf len top isA M xa_7 xw_8 hPE_9) (cwV 1 hts (gwV mw_1475 mw_1477 mw_42 mw_88 mw_1478) rfl rfl rfl hv_X12_fault ⟨Nat.le_of_ble_eq_true rfl, Nat.le_of_ble_eq_true rfl⟩) ⟨PcT_blind, hg_recv hK o_c_16 rfl, PcT_pre hK hH⟩ rfl rfl hl.1 rfl (lv_room (Nat.le_of_ble_eq_true rfl)) dX12_need_13 ⟨Nat.zero_le _, Nat.zero_le _⟩) hS (fun q _ h => AF.mono hS.1 h) (fun q h => AF.mono hS.1 h) (fun ux_19 t H locs ht hvm hx_19 hB hz hk hS => ?_)
    obtain ⟨eTx_19, eGx_19⟩ := hx_19
    obtain ⟨G_20, eG_20⟩ : ∃ z, z = ux_19.2 := ⟨_, rfl⟩
    rw [← eG_20] at eGx_19
    obtain ⟨hg_k_21, hm_k_21, hq_k_21⟩ := eGx_19
    obtain ⟨xa_22, exa_22⟩ : ∃ z : Int32, z = (F_X12_fault rdf askf len top isA xa_7 xa_7 xw_8).2.1 := ⟨_, rfl⟩
    obtain ⟨xw_23, exw_23⟩ : ∃ z : Int32, z = (F_X12_fault rdf askf len top isA xa_7 xa_7 xw_8).2.2 := ⟨_, rfl⟩
    rw [← exa_22] at hg_k_21 hm_k_21 hq_k_21
    rw [← exw_23] at hg_k_21
    have hPE_24 : PE g Ty G_20 rd nn rdf askf len top isA M xa_22 xw_23 := PE.ps hPE_9 hg_k_21 hq_k_21
    have hp_25 : G_20 = pst G xa_22 xw_23 := pst_pst hg_k_21 hp_10
    have hmo_26 : at0.toInt ≤ (xa_22 : Int32).toInt := Int.le_trans hmo_11 hm_k_21
    have hH : HT g Ty G_20 H := by rw [← ht, ← eTx_19, eG_20]; exact hB
    have hv : ((0 : Int32), xa_22, xw_23) = F_X12_need rdf askf len top isA a0 at0 wr0 := by have q := bn3_tov exa_22 exw_23 hv; exact q
    exact W.vret hx hb hr (fun t ht hWm => ⟨⟨(Ty, G_20), rfl, ⟨rfl, PRv.mk hv hp_25 hmo_26 (PE.ra hPE_24)⟩, by show HT g Ty G_20 t.heap; rw [ht]; exact hH⟩, hS.F ht⟩) hS.2.2 dX12_need_16

def F_X12_oneOf (rdf askf : Nat → Int32) (len top isA : Int32) (a0 a1 ya yw : Int32) : Int32 × Int32 × Int32 := (if (F_X12_fine rdf askf len top isA  ya yw) = (0 : Int32) then ((0 : Int32), ya, yw) else (if (F_X12_in (F_X12_here rdf askf len top isA  ya yw) a0 ((a0 + a1) - (1 : Int32))) = (0 : Int32) then (bn3 (F_X12_fault rdf askf len top isA ya ya yw) (fun _ ba2 bw2 => ((0 : Int32), ba2, bw2))) else (((rdf (Int32.toNatClampNeg ((ya + (1 : Int32)) - (1 : Int32)))) - a0), (ya + (1 : Int32)), yw)))
set_option maxHeartbeats 4000000 in
set_option maxRecDepth 100000 in
theorem c_X12_oneOf (l : Launch) (g : Gx) (Ty : TyM) (G : Gh) (sz : Nat) (h0 : Nat) (a0 : Int32) (a1 : Int32) (k_h0 : Ty h0 = some (22, 0)) (pr0 : rgI (48) (97) a0) (pr1 : rgI (4) (10) a1) (rd nn : Nat) (rdf askf : Nat → Int32) (len top isA : Int32) (M : Int) (at0 wr0 : Int32) (hPE : PE g Ty G rd nn rdf askf len top isA M at0 wr0) : Met l yX12_oneOf (wsG yX12_oneOf cX12_oneOf 3 (some .int)) ({ frames := 2, cells := 0, slots := 0, locals := 41 }) (PcT g Ty G sz [.ref h0, .int a0, .int a1]) (QwI g Ty sz (fun r u => u.1 = Ty ∧ PR G u.2 r at0 M (F_X12_oneOf rdf askf len top isA a0 a1 at0 wr0))) 0 0 (AF Ty sz) := by
  refine Met.ofW (cc := cX12_oneOf) (maxL := 3) (ret := (some .int)) (by decide) rfl ?_
  intro p e s m args below meth c s₁ B hml hv
  obtain ⟨rfl, hsz, hK, hH⟩ := hv
  subst hsz
  have hx := B.exec
  have hb := B.bytes
  have hr := B.returns
  have hts := atoms_spec (ws := (wsG yX12_oneOf cX12_oneOf 3 (some .int))) B.pre
  have hG : ∀ w ∈ GW, w.before ([.ref h0, .int a0, .int a1] : List Value).toArray s = true := fun w h => hts w (List.mem_cons_of_mem _ h)
  have hown : s.vm.findClass RX12 = some m.cls := findClass_of_methodNamed B.named
  have hlocks := B.notSynchronized
  have hl := lv_entry [.ref h0, .int a0, .int a1] (n := 3) (Nat.le_of_ble_eq_true rfl)
  rw [lg_entry_eq]
  generalize (lg_sl [.ref h0, .int a0, .int a1] ++ List.replicate (3 - (lg_sl [.ref h0, .int a0, .int a1]).length) Slot.unset).toArray = ls at hl ⊢
  have hl : lv_has ls 3 [(0, .ref h0), (1, .int a0), (2, .int a1)] := hl
  have hp0 : G = pst G at0 wr0 := pst_id hPE
  have hv : (if (F_X12_fine rdf askf len top isA  at0 wr0) = (0 : Int32) then ((0 : Int32), at0, wr0) else (if (F_X12_in (F_X12_here rdf askf len top isA  at0 wr0) a0 ((a0 + a1) - (1 : Int32))) = (0 : Int32) then (bn3 (F_X12_fault rdf askf len top isA at0 at0 wr0) (fun _ ba1 bw1 => ((0 : Int32), ba1, bw1))) else (((rdf (Int32.toNatClampNeg ((at0 + (1 : Int32)) - (1 : Int32)))) - a0), (at0 + (1 : Int32)), wr0))) = F_X12_oneOf rdf askf len top isA a0 a1 at0 wr0 := rfl
  have hS : va_S (AF Ty s.heap.size) s.heap s.heap [] := va_S.rf
  refine lv_aload_n hx hb dX12_oneOf_0 rfl (lv_at hl 0 rfl) ?_
  obtain ⟨_, ⟨rfl, t_2, hk_3⟩, o_c_1⟩ := hH h0 _ k_h0
  refine vp_callSi (W.runV (As := []) (rest := []) ⟨hx, hb, hml, hown, hts⟩ (c_X12_fine_p l g Ty G h0 k_h0 rd nn rdf askf len top isA M at0 wr0 hPE) (cwV 0 hts (gwV mw_1463 mw_1465 mw_39 mw_88 mw_1466) rfl rfl rfl hv_X12_fine ⟨Nat.le_of_ble_eq_true rfl, Nat.le_of_ble_eq_true rfl⟩) ⟨PcH_blind, hg_recv hK o_c_1 rfl, PcH_pre hK hH⟩ rfl rfl hl.1 rfl (lv_room (Nat.le_of_ble_eq_true rfl)) dX12_oneOf_1 ⟨Nat.zero_le _, Nat.zero_le _⟩) (fun x_4 hx_4 => ?_)
  have rx_4 : rgI (0) (1) x_4 := hx_4.1
  try rw [← hx_4.2] at hv
  refine lv_if_ne (tgt := 9) hx hb dX12_oneOf_4 (by decide) (fun c_5 => ?_) (fun c_5 => ?_)
  · rw [if_neg c_5] at hv
    have r_6 : rgI (1) (1) x_4 := rg_w (rg_neL rx_4 rl_0 c_5) (by decide) (by decide)
    refine lv_aload_n hx hb dX12_oneOf_9 rfl (lv_at hl 0 rfl) ?_
    refine vp_callSi (W.runV (As := []) (rest := []) ⟨hx, hb, hml, hown, hts⟩ (c_X12_here l g Ty G h0 k_h0 rd nn rdf askf len top isA M at0 wr0 hPE) (cwV 0 hts (gwV mw_1467 mw_1469 mw_40 mw_88 mw_1470) rfl rfl rfl hv_X12_here ⟨Nat.le_of_ble_eq_true rfl, Nat.le_of_ble_eq_true rfl⟩) ⟨PcH_blind, hg_recv hK o_c_1 rfl, PcH_pre hK hH⟩ rfl rfl hl.1 rfl (lv_room (Nat.le_of_ble_eq_true rfl)) dX12_oneOf_10 ⟨Nat.zero_le _, Nat.zero_le _⟩) (fun x_7 hx_7 => ?_)
    have rx_7 : rgI (-1) (255) x_7 := hx_7.1
    try rw [← hx_7.2] at hv
    refine lv_iload_n hx hb dX12_oneOf_13 rfl (lv_at hl 1 rfl) ?_
    refine lv_iload_n hx hb dX12_oneOf_14 rfl (lv_at hl 1 rfl) ?_
    refine lv_iload_n hx hb dX12_oneOf_15 rfl (lv_at hl 2 rfl) ?_
    refine lv_iadd hx hb dX12_oneOf_16 ?_
    refine lv_topi (fun x_8 ex_8 => ?_)
    try rw [← ex_8] at hv
    have rx_8 : rgI (52) (107) x_8 := by rw [ex_8]; exact rg_w (rg_add pr0 pr1 (by decide) (by decide)) (by decide) (by decide)
    refine lv_iconst (v := 1) hx hb dX12_oneOf_17 (by decide) ?_
    refine lv_isub hx hb dX12_oneOf_18 ?_
    refine lv_topi (fun x_9 ex_9 => ?_)
    try rw [← ex_9] at hv
    have rx_9 : rgI (51) (106) x_9 := by rw [ex_9]; exact rg_w (rg_sub rx_8 rl_1 (by decide) (by decide)) (by decide) (by decide)
    refine vp_callSi (W.runS (As := [.int x_7, .int a0, .int x_9]) (rest := []) ⟨hx, hb, hml, hown, hts⟩ (c_X12_in l g Ty G x_7 a0 x_9 ) (cwSx 3 hts hG (gwC mw_1426) mw_88 mw_1424 mw_1425 rfl rfl rfl hd_X12_in ⟨Nat.le_of_ble_eq_true rfl, Nat.le_of_ble_eq_true rfl⟩) ⟨PcH_blind, PcH_pre hK hH⟩ rfl rfl hl.1 rfl (lv_room (Nat.le_of_ble_eq_true rfl)) dX12_oneOf_19 ⟨Nat.zero_le _, Nat.zero_le _⟩) (fun x_10 hx_10 => ?_)
    have rx_10 : rgI (0) (1) x_10 := hx_10.1
    try rw [← hx_10.2.2] at hv
    refine lv_if_ne (tgt := 35) hx hb dX12_oneOf_22 (by decide) (fun c_11 => ?_) (fun c_11 => ?_)
    · rw [if_neg c_11] at hv
      have r_12 : rgI (1) (1) x_10 := rg_w (rg_neL rx_10 rl_0 c_11) (by decide) (by decide)
      refine lv_aload_n hx hb dX12_oneOf_35 rfl (lv_at hl 0 rfl) ?_
      refine lv_dup hx hb dX12_oneOf_36 rfl ?_
      refine hg_get hx hb hG igX12 hown hK o_c_1 rfl 9 (by decide) (hG _ mw_1293) rfl dX12_oneOf_37 ?_
      rw [(PE.e109 hPE)]
      refine lv_iconst (v := 1) hx hb dX12_oneOf_40 (by decide) ?_
      refine lv_iadd hx hb dX12_oneOf_41 ?_
      refine lv_topi (fun x_13 ex_13 => ?_)
      try rw [← ex_13] at hv
      have rx_13 : rgI (1) (81) x_13 := by rw [ex_13]; exact rg_w (rg_add (PE.ra8 hPE) rl_1 (by decide) (by decide)) (by decide) (by decide)
      have qx_13 : x_13.toInt = (at0 : Int32).toInt + 1 := by rw [ex_13]; exact rg_addE (PE.ra8 hPE) rl_1 (by decide) (by decide)
      refine hg_put (ty := .int) hx hb hG igX12 tyX12 tyX12_ok nmX12 hown hK hS o_c_1 (AF.of k_h0) rfl 9 (by decide) (hG _ mw_1293) rfl (by decide +kernel) rfl rfl (Nat.le_of_ble_eq_true rfl) dX12_oneOf_42 (fun H locs o_c_1 hz oq hS => ?_)
      obtain ⟨G_14, eG_14⟩ : ∃ z : Gh, z = gset G 109 x_13 := ⟨_, rfl⟩
      have hH : HT g Ty G_14 H := by rw [eG_14]; exact HT.putN 109 x_13 hH k_h0 ⟨rfl, t_2, hk_3⟩ o_c_1 oq (Or.inr (Or.inr (Or.inr (Or.inr (Or.inr ⟨by decide, t_2⟩)))))
      have ra_18 : rgI 0 M x_13 := pe_up hPE (nh_in hx_10.2.1 c_11 hx_7.2 pr0 (by decide)) qx_13
      have hPE_15 : PE g Ty G_14 rd nn rdf askf len top isA M x_13 wr0 := PE.atx hPE eG_14 ra_18
      have hp_16 : G_14 = pst G x_13 wr0 := pst_a hp0 eG_14
      have hmo_17 : at0.toInt ≤ (x_13 : Int32).toInt := by have q1 := (Int.le_refl at0.toInt); have q2 := qx_13; omega
      clear oq hz
      refine lv_aload_n hx hb dX12_oneOf_45 rfl (lv_at hl 0 rfl) ?_
      obtain ⟨_, ⟨rfl, t_20, hk_21⟩, o_c_19⟩ := hH h0 _ k_h0
      refine hg_get hx hb hG igX12 hown hK o_c_19 rfl 6 (by decide) (hG _ mw_1290) rfl dX12_oneOf_46 ?_
      rw [show va_rf (G_14.2.2 106) = Value.ref rd by rw [hPE_15.1]; rfl]
      refine lv_aload_n hx hb dX12_oneOf_49 rfl (lv_at hl 0 rfl) ?_
      refine hg_get hx hb hG igX12 hown hK o_c_19 rfl 9 (by decide) (hG _ mw_1293) rfl dX12_oneOf_50 ?_
      rw [(PE.e109 hPE_15)]
      refine lv_iconst (v := 1) hx hb dX12_oneOf_53 (by decide) ?_
      refine lv_isub hx hb dX12_oneOf_54 ?_
      refine lv_topi (fun x_22 ex_22 => ?_)
      try rw [← ex_22] at hv
      have rx_22 : rgI (-1) (79) x_22 := by rw [ex_22]; exact rg_w (rg_sub (PE.ra8 hPE_15) rl_1 (by decide) (by decide)) (by decide) (by decide)
      obtain ⟨_, rfl, o_c_23⟩ := hH rd _ hPE_15.2.1
      have o_c_23 : va_at g.1 vwCl (rd, .inl (g.2.1 0, nn, .inl (G_14.2.1 rd))) H := o_c_23
      have in_24 : vp_in x_22 nn := pe_ix1 hPE (nh_in hx_10.2.1 c_11 hx_7.2 pr0 (by decide)) qx_13 ex_22
      refine hg_bald hx hb hK o_c_23 in_24 dX12_oneOf_55 ?_
      rw [hPE_15.2.2.1]
      refine lv_topi (fun x_25 ex_25 => ?_)
      try rw [← ex_25] at hv
      refine lv_iload_n hx hb dX12_oneOf_56 rfl (lv_at hl 1 rfl) ?_
      refine lv_isub hx hb dX12_oneOf_57 ?_
      refine lv_topi (fun x_26 ex_26 => ?_)
      try rw [← ex_26] at hv
      exact W.iret hx hb hr (fun t ht hWm => ⟨⟨x_26, (Ty, G_14), rfl, ⟨rfl, PR.mk hv hp_16 hmo_17 (PE.ra hPE_15)⟩, by show HT g Ty G_14 t.heap; rw [ht]; exact hH⟩, hS.F ht⟩) hS.2.2 dX12_oneOf_58
    · rw [if_pos c_11] at hv
      have r_27 : rgI (0) (0) x_10 := rg_w (rg_eq rl_0 c_11) (by decide) (by decide)
      refine lv_aload_n hx hb dX12_oneOf_25 rfl (lv_at hl 0 rfl) ?_
      refine lv_aload_n hx hb dX12_oneOf_26 rfl (lv_at hl 0 rfl) ?_
      refine hg_get hx hb hG igX12 hown hK o_c_1 rfl 9 (by decide) (hG _ mw_1293) rfl dX12_oneOf_27 ?_
      rw [(PE.e109 hPE)]
      refine va_callv (va_runV (As := [.int at0]) (rest := []) ⟨hx, hb, hml, hown, hts⟩ (c_X12_fault_p l g Ty G s.heap.size h0 at0 k_h0 rd nn rdf askf len top isA M at0 wr0 hPE) (cwV 1 hts (gwV mw_1475 mw_1477 mw_42 mw_88 mw_1478) rfl rfl rfl hv_X12_fault ⟨Nat.le_of_ble_eq_true rfl, Nat.le_of_ble_eq_true rfl⟩) ⟨PcT_blind, hg_recv hK o_c_1 rfl, PcT_pre hK hH⟩ rfl rfl hl.1 rfl (lv_room (Nat.le_of_ble_eq_true rfl)) dX12_oneOf_30 ⟨Nat.zero_le _, Nat.zero_le _⟩) hS (fun q _ h => AF.mono hS.1 h) (fun q h => AF.mono hS.1 h) (fun ux_28 t H locs ht hvm hx_28 hB hz hk hS => ?_)
      obtain ⟨eTx_28, eGx_28⟩ := hx_28
      obtain ⟨G_29, eG_29⟩ : ∃ z, z = ux_28.2 := ⟨_, rfl⟩
      rw [← eG_29] at eGx_28
      obtain ⟨hg_k_30, hm_k_30, hq_k_30⟩ := eGx_28
      obtain ⟨xa_31, exa_31⟩ : ∃ z : Int32, z = (F_X12_fault rdf askf len top isA at0 at0 wr0).2.1 := ⟨_, rfl⟩
      obtain ⟨xw_32, exw_32⟩ : ∃ z : Int32, z = (F_X12_fault rdf askf len top isA at0 at0 wr0).2.2 := ⟨_, rfl⟩
      rw [← exa_31] at hg_k_30 hm_k_30 hq_k_30
      rw [← exw_32] at hg_k_30
      have hPE_33 : PE g Ty G_29 rd nn rdf askf len top isA M xa_31 xw_32 := PE.ps hPE hg_k_30 hq_k_30
      have hp_34 : G_29 = pst G xa_31 xw_32 := pst_pst hg_k_30 hp0
      have hmo_35 : at0.toInt ≤ (xa_31 : Int32).toInt := Int.le_trans (Int.le_refl at0.toInt) hm_k_30
      have hH : HT g Ty G_29 H := by rw [← ht, ← eTx_28, eG_29]; exact hB
      have hv : ((0 : Int32), xa_31, xw_32) = F_X12_oneOf rdf askf len top isA a0 a1 at0 wr0 := by have q := bn3_tov exa_31 exw_32 hv; exact q
      refine lv_iconst (v := 0) hx hb dX12_oneOf_33 (by decide) ?_
      exact W.iret hx hb hr (fun t ht hWm => ⟨⟨0, (Ty, G_29), rfl, ⟨rfl, PR.mk hv hp_34 hmo_35 (PE.ra hPE_33)⟩, by show HT g Ty G_29 t.heap; rw [ht]; exact hH⟩, hS.F ht⟩) hS.2.2 dX12_oneOf_34
  · rw [if_pos c_5] at hv
    have r_36 : rgI (0) (0) x_4 := rg_w (rg_eq rl_0 c_5) (by decide) (by decide)
    refine lv_iconst (v := 0) hx hb dX12_oneOf_7 (by decide) ?_
    exact W.iret hx hb hr (fun t ht hWm => ⟨⟨0, (Ty, G), rfl, ⟨rfl, PR.mk hv hp0 (Int.le_refl at0.toInt) (PE.ra hPE)⟩, by show HT g Ty G t.heap; rw [ht]; exact hH⟩, hS.F ht⟩) hS.2.2 dX12_oneOf_8

def F_X12_wasRight (rdf askf : Nat → Int32) (len top isA : Int32) (ya yw : Int32) : Int32 × Int32 × Int32 := (if len ≤ ya then ((F_X12_fine rdf askf len top isA  ya yw), ya, yw) else (bn3 (F_X12_fault rdf askf len top isA ya ya yw) (fun _ ba2 bw2 => ((F_X12_fine rdf askf len top isA  ba2 bw2), ba2, bw2))))
set_option maxHeartbeats 4000000 in
set_option maxRecDepth 100000 in
theorem c_X12_wasRight (l : Launch) (g : Gx) (Ty : TyM) (G : Gh) (sz : Nat) (h0 : Nat) (k_h0 : Ty h0 = some (22, 0)) (rd nn : Nat) (rdf askf : Nat → Int32) (len top isA : Int32) (M : Int) (at0 wr0 : Int32) (hPE : PE g Ty G rd nn rdf askf len top isA M at0 wr0) : Met l yX12_wasRight (wsG yX12_wasRight cX12_wasRight 1 (some .boolean)) ({ frames := 2, cells := 0, slots := 0, locals := 41 }) (PcT g Ty G sz [.ref h0]) (QwI g Ty sz (fun r u => u.1 = Ty ∧ PR G u.2 r at0 M (F_X12_wasRight rdf askf len top isA  at0 wr0))) 0 0 (AF Ty sz) := by
  refine Met.ofW (cc := cX12_wasRight) (maxL := 1) (ret := (some .boolean)) (by decide) rfl ?_
  intro p e s m args below meth c s₁ B hml hv
  obtain ⟨rfl, hsz, hK, hH⟩ := hv
  subst hsz
  have hx := B.exec
  have hb := B.bytes
  have hr := B.returns
  have hts := atoms_spec (ws := (wsG yX12_wasRight cX12_wasRight 1 (some .boolean))) B.pre
  have hG : ∀ w ∈ GW, w.before ([.ref h0] : List Value).toArray s = true := fun w h => hts w (List.mem_cons_of_mem _ h)
  have hown : s.vm.findClass RX12 = some m.cls := findClass_of_methodNamed B.named
  have hlocks := B.notSynchronized
  have hl := lv_entry [.ref h0] (n := 1) (Nat.le_of_ble_eq_true rfl)
  rw [lg_entry_eq]
  generalize (lg_sl [.ref h0] ++ List.replicate (1 - (lg_sl [.ref h0]).length) Slot.unset).toArray = ls at hl ⊢
  have hl : lv_has ls 1 [(0, .ref h0)] := hl
  have hp0 : G = pst G at0 wr0 := pst_id hPE
  have hv : (if len ≤ at0 then ((F_X12_fine rdf askf len top isA  at0 wr0), at0, wr0) else (bn3 (F_X12_fault rdf askf len top isA at0 at0 wr0) (fun _ ba1 bw1 => ((F_X12_fine rdf askf len top isA  ba1 bw1), ba1, bw1)))) = F_X12_wasRight rdf askf len top isA  at0 wr0 := rfl
  have hS : va_S (AF Ty s.heap.size) s.heap s.heap [] := va_S.rf
  have L_19 : ∀ (H : Heap) (locs : List Loc) (G_19 : Gh) (pa_19 : Int32) (pw_19 : Int32) (ls : Array Slot), PE g Ty G_19 rd nn rdf askf len top isA M pa_19 pw_19 → G_19 = pst G pa_19 pw_19 → at0.toInt ≤ (pa_19 : Int32).toInt → lv_has ls 1 [(0, .ref h0)] → ((F_X12_fine rdf askf len top isA  pa_19 pw_19), pa_19, pw_19) = F_X12_wasRight rdf askf len top isA  at0 wr0 → HT g Ty G_19 H → va_S (AF Ty s.heap.size) s.heap H locs → Wm p l e (wsG yX12_wasRight cX12_wasRight 1 (some .boolean)) ({ frames := 2, cells := 0, slots := 0, locals := 41 }) s m [.ref h0] below meth c H locs (0) (0) (QwI g Ty s.heap.size (fun r u => u.1 = Ty ∧ PR G u.2 r at0 M (F_X12_wasRight rdf askf len top isA  at0 wr0))) 0 0 (AF Ty s.heap.size) (F0 m 19 ls []) := by
    intro H locs G_19 pa_19 pw_19 ls hPE_19 hp_19 hmo_19 hl hv hH hS
    refine lv_aload_n hx hb dX12_wasRight_19 rfl (lv_at hl 0 rfl) ?_
    obtain ⟨_, ⟨rfl, t_2, hk_3⟩, o_c_1⟩ := hH h0 _ k_h0
    refine vp_callSi (W.runV (As := []) (rest := []) ⟨hx, hb, hml, hown, hts⟩ (c_X12_fine_p l g Ty G_19 h0 k_h0 rd nn rdf askf len top isA M pa_19 pw_19 hPE_19) (cwV 0 hts (gwV mw_1463 mw_1465 mw_39 mw_88 mw_1466) rfl rfl rfl hv_X12_fine ⟨Nat.le_of_ble_eq_true rfl, Nat.le_of_ble_eq_true rfl⟩) ⟨PcH_blind, hg_recv hK o_c_1 rfl, PcH_pre hK hH⟩ rfl rfl hl.1 rfl (lv_room (Nat.le_of_ble_eq_true rfl)) dX12_wasRight_20 ⟨Nat.zero_le _, Nat.zero_le _⟩) (fun x_4 hx_4 => ?_)
    have rx_4 : rgI (0) (1) x_4 := hx_4.1
    try rw [← hx_4.2] at hv
    exact W.zret hx hb hr (nz01 rx_4) (fun t ht hWm => ⟨⟨x_4, (Ty, G_19), rfl, ⟨rfl, PR.mk hv hp_19 hmo_19 (PE.ra hPE_19)⟩, by show HT g Ty G_19 t.heap; rw [ht]; exact hH⟩, hS.F ht⟩) hS.2.2 dX12_wasRight_23
  refine lv_aload_n hx hb dX12_wasRight_0 rfl (lv_at hl 0 rfl) ?_
  obtain ⟨_, ⟨rfl, t_6, hk_7⟩, o_c_5⟩ := hH h0 _ k_h0
  refine hg_get hx hb hG igX12 hown hK o_c_5 rfl 9 (by decide) (hG _ mw_1293) rfl dX12_wasRight_1 ?_
  rw [(PE.e109 hPE)]
  refine lv_aload_n hx hb dX12_wasRight_4 rfl (lv_at hl 0 rfl) ?_
  refine hg_get hx hb hG igX12 hown hK o_c_5 rfl 7 (by decide) (hG _ mw_1291) rfl dX12_wasRight_5 ?_
  rw [(PE.e107 hPE)]
  refine lv_icmp_ge (tgt := 19) hx hb dX12_wasRight_8 (by decide) (fun c_8 => ?_) (fun c_8 => ?_)
  · rw [if_pos c_8] at hv
    have r_9 : rgI (-2147483648) (80) len := rg_w (rg_leL (rg_top len) (PE.ra8 hPE) c_8) (by decide) (by decide)
    exact L_19 s.heap [] G at0 wr0 ls hPE hp0 (Int.le_refl at0.toInt) (lv_sub hl [0] rfl) hv hH hS
  · rw [if_neg c_8] at hv
    have r_10 : rgI (1) (2147483647) len := rg_w (rg_ltR (PE.ra8 hPE) (rg_top len) (nle_lt c_8)) (by decide) (by decide)
    refine lv_aload_n hx hb dX12_wasRight_11 rfl (lv_at hl 0 rfl) ?_
    refine lv_aload_n hx hb dX12_wasRight_12 rfl (lv_at hl 0 rfl) ?_
    refine hg_get hx hb hG igX12 hown hK o_c_5 rfl 9 (by decide) (hG _ mw_1293) rfl dX12_wasRight_13 ?_
    rw [(PE.e109 hPE)]
    refine va_callv (va_runV (As := [.int at0]) (rest := []) ⟨hx, hb, hml, hown, hts⟩ (c_X12_fault_p l g Ty G s.heap.size h0 at0 k_h0 rd nn rdf askf len top isA M at0 wr0 hPE) (cwV 1 hts (gwV mw_1475 mw_1477 mw_42 mw_88 mw_1478) rfl rfl rfl hv_X12_fault ⟨Nat.le_of_ble_eq_true rfl, Nat.le_of_ble_eq_true rfl⟩) ⟨PcT_blind, hg_recv hK o_c_5 rfl, PcT_pre hK hH⟩ rfl rfl hl.1 rfl (lv_room (Nat.le_of_ble_eq_true rfl)) dX12_wasRight_16 ⟨Nat.zero_le _, Nat.zero_le _⟩) hS (fun q _ h => AF.mono hS.1 h) (fun q h => AF.mono hS.1 h) (fun ux_11 t H locs ht hvm hx_11 hB hz hk hS => ?_)
    obtain ⟨eTx_11, eGx_11⟩ := hx_11
    obtain ⟨G_12, eG_12⟩ : ∃ z, z = ux_11.2 := ⟨_, rfl⟩
    rw [← eG_12] at eGx_11
    obtain ⟨hg_k_13, hm_k_13, hq_k_13⟩ := eGx_11
    obtain ⟨xa_14, exa_14⟩ : ∃ z : Int32, z = (F_X12_fault rdf askf len top isA at0 at0 wr0).2.1 := ⟨_, rfl⟩
    obtain ⟨xw_15, exw_15⟩ : ∃ z : Int32, z = (F_X12_fault rdf askf len top isA at0 at0 wr0).2.2 := ⟨_, rfl⟩
    rw [← exa_14] at hg_k_13 hm_k_13 hq_k_13
    rw [← exw_15] at hg_k_13
    have hPE_16 : PE g Ty G_12 rd nn rdf askf len top isA M xa_14 xw_15 := PE.ps hPE hg_k_13 hq_k_13
    have hp_17 : G_12 = pst G xa_14 xw_15 := pst_pst hg_k_13 hp0
    have hmo_18 : at0.toInt ≤ (xa_14 : Int32).toInt := Int.le_trans (Int.le_refl at0.toInt) hm_k_13
    have hH : HT g Ty G_12 H := by rw [← ht, ← eTx_11, eG_12]; exact hB
    have hv : ((F_X12_fine rdf askf len top isA  xa_14 xw_15), xa_14, xw_15) = F_X12_wasRight rdf askf len top isA  at0 wr0 := by have q := bn3_tov exa_14 exw_15 hv; exact q
    exact L_19 H locs G_12 xa_14 xw_15 ls hPE_16 hp_17 hmo_18 (lv_sub hl [0] rfl) hv hH hS

def F_X12_number_11 (rdf askf : Nat → Int32) (len top isA : Int32) : Nat → Int32 → Int32 → Int32 → Int32 → Int32 → Int32 × Int32 × Int32
  | 0, _, _, _, ya, yw => (0, ya, yw)
  | n + 1, y1, y2, y3, ya, yw => (if y1 ≤ y3 then (y2, ya, yw) else (if (F_X12_fine rdf askf len top isA  ya yw) = (0 : Int32) then (y2, ya, yw) else (if (F_X12_in (F_X12_here rdf askf len top isA  ya yw) (48 : Int32) (57 : Int32)) = (0 : Int32) then (y2, ya, yw) else (bn3 (F_X12_oneOf rdf askf len top isA (48 : Int32) (10 : Int32) ya yw) (fun bv2 ba2 bw2 => (F_X12_number_11 rdf askf len top isA n y1 (((10 : Int32) * y2) + bv2) (y3 + (1 : Int32)) ba2 bw2))))))
def F_X12_number (rdf askf : Nat → Int32) (len top isA : Int32) (a0 ya yw : Int32) : Int32 × Int32 × Int32 := (bn3 (F_X12_oneOf rdf askf len top isA (48 : Int32) (10 : Int32) ya yw) (fun bv3 ba3 bw3 => (F_X12_number_11 rdf askf len top isA 5 a0 bv3 (1 : Int32) ba3 bw3)))
set_option maxHeartbeats 4000000 in
set_option maxRecDepth 100000 in
theorem c_X12_number (l : Launch) (g : Gx) (Ty : TyM) (G : Gh) (sz : Nat) (h0 : Nat) (a0 : Int32) (k_h0 : Ty h0 = some (22, 0)) (pr0 : rgI (3) (3) a0) (rd nn : Nat) (rdf askf : Nat → Int32) (len top isA : Int32) (M : Int) (at0 wr0 : Int32) (hPE : PE g Ty G rd nn rdf askf len top isA M at0 wr0) : Met l yX12_number (wsG yX12_number cX12_number 4 (some .int)) ({ frames := 3, cells := 0, slots := 0, locals := 63 }) (PcT g Ty G sz [.ref h0, .int a0]) (QwI g Ty sz (fun r u => u.1 = Ty ∧ PR G u.2 r at0 M (F_X12_number rdf askf len top isA a0 at0 wr0))) 0 0 (AF Ty sz) := by
  refine Met.ofW (cc := cX12_number) (maxL := 4) (ret := (some .int)) (by decide) rfl ?_
  intro p e s m args below meth c s₁ B hml hv
  obtain ⟨rfl, hsz, hK, hH⟩ := hv
  subst hsz
  have hx := B.exec
  have hb := B.bytes
  have hr := B.returns
  have hts := atoms_spec (ws := (wsG yX12_number cX12_number 4 (some .int))) B.pre
  have hG : ∀ w ∈ GW, w.before ([.ref h0, .int a0] : List Value).toArray s = true := fun w h => hts w (List.mem_cons_of_mem _ h)
  have hown : s.vm.findClass RX12 = some m.cls := findClass_of_methodNamed B.named
  have hlocks := B.notSynchronized
  have hl := lv_entry [.ref h0, .int a0] (n := 4) (Nat.le_of_ble_eq_true rfl)
  rw [lg_entry_eq]
  generalize (lg_sl [.ref h0, .int a0] ++ List.replicate (4 - (lg_sl [.ref h0, .int a0]).length) Slot.unset).toArray = ls at hl ⊢
  have hl : lv_has ls 4 [(0, .ref h0), (1, .int a0)] := hl
  have hp0 : G = pst G at0 wr0 := pst_id hPE
  have hv : (bn3 (F_X12_oneOf rdf askf len top isA (48 : Int32) (10 : Int32) at0 wr0) (fun bv1 ba1 bw1 => (F_X12_number_11 rdf askf len top isA 5 a0 bv1 (1 : Int32) ba1 bw1))) = F_X12_number rdf askf len top isA a0 at0 wr0 := rfl
  have hS : va_S (AF Ty s.heap.size) s.heap s.heap [] := va_S.rf
  have L_57 : ∀ (H : Heap) (locs : List Loc) (G_57 : Gh) (pa_57 : Int32) (pw_57 : Int32) (y2_57 : Int32) (ls : Array Slot), PE g Ty G_57 rd nn rdf askf len top isA M pa_57 pw_57 → G_57 = pst G pa_57 pw_57 → at0.toInt ≤ (pa_57 : Int32).toInt → lv_has ls 4 [(2, .int y2_57)] → (y2_57, pa_57, pw_57) = F_X12_number rdf askf len top isA a0 at0 wr0 → HT g Ty G_57 H → va_S (AF Ty s.heap.size) s.heap H locs → Wm p l e (wsG yX12_number cX12_number 4 (some .int)) ({ frames := 3, cells := 0, slots := 0, locals := 63 }) s m [.ref h0, .int a0] below meth c H locs (0) (0) (QwI g Ty s.heap.size (fun r u => u.1 = Ty ∧ PR G u.2 r at0 M (F_X12_number rdf askf len top isA a0 at0 wr0))) 0 0 (AF Ty s.heap.size) (F0 m 57 ls []) := by
    intro H locs G_57 pa_57 pw_57 y2_57 ls hPE_57 hp_57 hmo_57 hl hv hH hS
    refine lv_iload_n hx hb dX12_number_57 rfl (lv_at hl 0 rfl) ?_
    exact W.iret hx hb hr (fun t ht hWm => ⟨⟨y2_57, (Ty, G_57), rfl, ⟨rfl, PR.mk hv hp_57 hmo_57 (PE.ra hPE_57)⟩, by show HT g Ty G_57 t.heap; rw [ht]; exact hH⟩, hS.F ht⟩) hS.2.2 dX12_number_58
  have L_11 : ∀ (n_11 : Nat) (H : Heap) (locs : List Loc) (G_11 : Gh) (pa_11 : Int32) (pw_11 : Int32) (y2_11 : Int32) (y3_11 : Int32) (ls : Array Slot), PE g Ty G_11 rd nn rdf askf len top isA M pa_11 pw_11 → G_11 = pst G pa_11 pw_11 → at0.toInt ≤ (pa_11 : Int32).toInt → rgI (3) (3) a0 → rgI (1) (3) y3_11 → (3 - (y3_11).toInt).toNat < n_11 → lv_has ls 4 [(0, .ref h0), (1, .int a0), (2, .int y2_11), (3, .int y3_11)] → (F_X12_number_11 rdf askf len top isA n_11 a0 y2_11 y3_11 pa_11 pw_11) = F_X12_number rdf askf len top isA a0 at0 wr0 → HT g Ty G_11 H → va_S (AF Ty s.heap.size) s.heap H locs → Wm p l e (wsG yX12_number cX12_number 4 (some .int)) ({ frames := 3, cells := 0, slots := 0, locals := 63 }) s m [.ref h0, .int a0] below meth c H locs (0) (0) (QwI g Ty s.heap.size (fun r u => u.1 = Ty ∧ PR G u.2 r at0 M (F_X12_number rdf askf len top isA a0 at0 wr0))) 0 0 (AF Ty s.heap.size) (F0 m 11 ls []) := by
    intro n_11
    induction n_11 with
    | zero => intro H locs G_11 pa_11 pw_11 y2_11 y3_11 ls hPE_11 hp_11 hmo_11 ry1_11 ry3_11 hm; exact absurd hm (Nat.not_lt_zero _)
    | succ n_11 ih_11 =>
      intro H locs G_11 pa_11 pw_11 y2_11 y3_11 ls hPE_11 hp_11 hmo_11 ry1_11 ry3_11 hm_11 hl hv hH hS
      rw [F_X12_number_11] at hv
      refine lv_iload_n hx hb dX12_number_11 rfl (lv_at hl 3 rfl) ?_
      refine lv_iload_n hx hb dX12_number_12 rfl (lv_at hl 1 rfl) ?_
      refine lv_icmp_ge (tgt := 57) hx hb dX12_number_13 (by decide) (fun c_1 => ?_) (fun c_1 => ?_)
      · rw [if_pos c_1] at hv
        have r_2 : rgI (3) (3) y3_11 := rg_w (rg_leR ry1_11 ry3_11 c_1) (by decide) (by decide)
        exact L_57 H locs G_11 pa_11 pw_11 y2_11 ls hPE_11 hp_11 hmo_11 (lv_sub hl [2] rfl) hv hH hS
      · rw [if_neg c_1] at hv
        have r_3 : rgI (1) (2) y3_11 := rg_w (rg_ltL ry3_11 ry1_11 (nle_lt c_1)) (by decide) (by decide)
        refine lv_aload_n hx hb dX12_number_16 rfl (lv_at hl 0 rfl) ?_
        obtain ⟨_, ⟨rfl, t_5, hk_6⟩, o_c_4⟩ := hH h0 _ k_h0
        refine vp_callSi (W.runV (As := []) (rest := []) ⟨hx, hb, hml, hown, hts⟩ (c_X12_fine_p l g Ty G_11 h0 k_h0 rd nn rdf askf len top isA M pa_11 pw_11 hPE_11) (cwV 0 hts (gwV mw_1463 mw_1465 mw_39 mw_88 mw_1466) rfl rfl rfl hv_X12_fine ⟨Nat.le_of_ble_eq_true rfl, Nat.le_of_ble_eq_true rfl⟩) ⟨PcH_blind, hg_recv hK o_c_4 rfl, PcH_pre hK hH⟩ rfl rfl hl.1 rfl (lv_room (Nat.le_of_ble_eq_true rfl)) dX12_number_17 ⟨Nat.zero_le _, Nat.zero_le _⟩) (fun x_7 hx_7 => ?_)
        have rx_7 : rgI (0) (1) x_7 := hx_7.1
        try rw [← hx_7.2] at hv
        refine lv_if_eq (tgt := 57) hx hb dX12_number_20 (by decide) (fun c_8 => ?_) (fun c_8 => ?_)
        · rw [if_pos c_8] at hv
          have r_9 : rgI (0) (0) x_7 := rg_w (rg_eq rl_0 c_8) (by decide) (by decide)
          exact L_57 H locs G_11 pa_11 pw_11 y2_11 ls hPE_11 hp_11 hmo_11 (lv_sub hl [2] rfl) hv hH hS
        · rw [if_neg c_8] at hv
          have r_10 : rgI (1) (1) x_7 := rg_w (rg_neL rx_7 rl_0 c_8) (by decide) (by decide)
          refine lv_aload_n hx hb dX12_number_23 rfl (lv_at hl 0 rfl) ?_
          refine vp_callSi (W.runV (As := []) (rest := []) ⟨hx, hb, hml, hown, hts⟩ (c_X12_here l g Ty G_11 h0 k_h0 rd nn rdf askf len top isA M pa_11 pw_11 hPE_11) (cwV 0 hts (gwV mw_1467 mw_1469 mw_40 mw_88 mw_1470) rfl rfl rfl hv_X12_here ⟨Nat.le_of_ble_eq_true rfl, Nat.le_of_ble_eq_true rfl⟩) ⟨PcH_blind, hg_recv hK o_c_4 rfl, PcH_pre hK hH⟩ rfl rfl hl.1 rfl (lv_room (Nat.le_of_ble_eq_true rfl)) dX12_number_24 ⟨Nat.zero_le _, Nat.zero_le _⟩) (fun x_11 hx_11 => ?_)
          have rx_11 : rgI (-1) (255) x_11 := hx_11.1
          try rw [← hx_11.2] at hv
          refine lv_bipush (v := 48) hx hb dX12_number_27 (by decide) ?_
          refine lv_bipush (v := 57) hx hb dX12_number_29 (by decide) ?_
          refine vp_callSi (W.runS (As := [.int x_11, .int 48, .int 57]) (rest := []) ⟨hx, hb, hml, hown, hts⟩ (c_X12_in l g Ty G_11 x_11 48 57 ) (cwSx 3 hts hG (gwC mw_1426) mw_88 mw_1424 mw_1425 rfl rfl rfl hd_X12_in ⟨Nat.le_of_ble_eq_true rfl, Nat.le_of_ble_eq_true rfl⟩) ⟨PcH_blind, PcH_pre hK hH⟩ rfl rfl hl.1 rfl (lv_room (Nat.le_of_ble_eq_true rfl)) dX12_number_31 ⟨Nat.zero_le _, Nat.zero_le _⟩) (fun x_12 hx_12 => ?_)
          have rx_12 : rgI (0) (1) x_12 := hx_12.1
          try rw [← hx_12.2.2] at hv
          refine lv_if_eq (tgt := 57) hx hb dX12_number_34 (by decide) (fun c_13 => ?_) (fun c_13 => ?_)
          · rw [if_pos c_13] at hv
            have r_14 : rgI (0) (0) x_12 := rg_w (rg_eq rl_0 c_13) (by decide) (by decide)
            exact L_57 H locs G_11 pa_11 pw_11 y2_11 ls hPE_11 hp_11 hmo_11 (lv_sub hl [2] rfl) hv hH hS
          · rw [if_neg c_13] at hv
            have r_15 : rgI (1) (1) x_12 := rg_w (rg_neL rx_12 rl_0 c_13) (by decide) (by decide)
            refine lv_bipush (v := 10) hx hb dX12_number_37 (by decide) ?_
            refine lv_iload_n hx hb dX12_number_39 rfl (lv_at hl 2 rfl) ?_
            refine lv_imul hx hb dX12_number_40 ?_
            refine lv_topi (fun x_16 ex_16 => ?_)
            try rw [← ex_16] at hv
            refine lv_aload_n hx hb dX12_number_41 rfl (lv_at hl 0 rfl) ?_
            refine lv_bipush (v := 48) hx hb dX12_number_42 (by decide) ?_
            refine lv_bipush (v := 10) hx hb dX12_number_44 (by decide) ?_
            refine va_calli (va_runV (As := [.int 48, .int 10]) (rest := [.int x_16]) ⟨hx, hb, hml, hown, hts⟩ (c_X12_oneOf l g Ty G_11 H.size h0 48 10 k_h0 (rg_w rl_48 (by decide) (by decide)) (rg_w rl_10 (by decide) (by decide)) rd nn rdf askf len top isA M pa_11 pw_11 hPE_11) (cwV 2 hts (gwV mw_1483 mw_1485 mw_44 mw_88 mw_1486) rfl rfl rfl hv_X12_oneOf ⟨Nat.le_of_ble_eq_true rfl, Nat.le_of_ble_eq_true rfl⟩) ⟨PcT_blind, hg_recv hK o_c_4 rfl, PcT_pre hK hH⟩ rfl rfl hl.1 rfl (lv_room (Nat.le_of_ble_eq_true rfl)) dX12_number_46 ⟨Nat.zero_le _, Nat.zero_le _⟩) hS (fun q _ h => AF.mono hS.1 h) (fun q h => AF.mono hS.1 h) (fun x_17 ux_17 t H locs ht hvm hx_17 hB hz hk hS => ?_)
            obtain ⟨eTx_17, eGx_17⟩ := hx_17
            obtain ⟨G_18, eG_18⟩ : ∃ z, z = ux_17.2 := ⟨_, rfl⟩
            rw [← eG_18] at eGx_17
            obtain ⟨hr_k_19, hg_k_19, hm_k_19, hq_k_19⟩ := eGx_17
            obtain ⟨xa_20, exa_20⟩ : ∃ z : Int32, z = (F_X12_oneOf rdf askf len top isA (48 : Int32) (10 : Int32) pa_11 pw_11).2.1 := ⟨_, rfl⟩
            obtain ⟨xw_21, exw_21⟩ : ∃ z : Int32, z = (F_X12_oneOf rdf askf len top isA (48 : Int32) (10 : Int32) pa_11 pw_11).2.2 := ⟨_, rfl⟩
            rw [← exa_20] at hg_k_19 hm_k_19 hq_k_19
            rw [← exw_21] at hg_k_19
            have hPE_22 : PE g Ty G_18 rd nn rdf askf len top isA M xa_20 xw_21 := PE.ps hPE_11 hg_k_19 hq_k_19
            have hp_23 : G_18 = pst G xa_20 xw_21 := pst_pst hg_k_19 hp_11
            have hmo_24 : at0.toInt ≤ (xa_20 : Int32).toInt := Int.le_trans hmo_11 hm_k_19
            have hH : HT g Ty G_18 H := by rw [← ht, ← eTx_17, eG_18]; exact hB
            have hv : (F_X12_number_11 rdf askf len top isA n_11 a0 (x_16 + x_17) (y3_11 + (1 : Int32)) xa_20 xw_21) = F_X12_number rdf askf len top isA a0 at0 wr0 := by have q := bn3_to hr_k_19 exa_20 exw_21 hv; exact q
            refine lv_iadd hx hb dX12_number_49 ?_
            refine lv_topi (fun x_25 ex_25 => ?_)
            try rw [← ex_25] at hv
            refine lv_istore_n (lv' := [(2, .int x_25), (0, .ref h0), (1, .int a0), (3, .int y3_11)]) hx hb dX12_number_50 rfl hl (by decide) rfl (fun ls hl => ?_)
            obtain ⟨x_26, ex_26⟩ : ∃ y : Int32, y = y3_11 + 1 := ⟨_, rfl⟩
            try rw [← ex_26] at hv
            have rx_26 : rgI (2) (3) x_26 := by rw [ex_26]; exact rg_w (rg_add r_3 rl_1 (by decide) (by decide)) (by decide) (by decide)
            have qx_26 : x_26.toInt = (y3_11 : Int32).toInt + 1 := by rw [ex_26]; exact rg_addE r_3 rl_1 (by decide) (by decide)
            refine lv_iinc (v := x_26) (lv' := [(3, .int x_26), (2, .int x_25), (0, .ref h0), (1, .int a0)]) hx hb dX12_number_51 hl (k := 3) rfl (by rw [ex_26]; rfl) (by decide) rfl (fun ls hl => ?_)
            refine lv_goto (tgt := 11) hx hb dX12_number_54 (by decide) ?_
            exact ih_11 H locs G_18 xa_20 xw_21 x_25 x_26 ls hPE_22 hp_23 hmo_24 ry1_11 (rg_w rx_26 (by decide) (by decide)) (by have h1 := qx_26; have h2 := r_3.1; have h3 := r_3.2; have h4 := hm_11; omega) (lv_sub hl [2, 3, 1, 0] rfl) hv hH hS
  refine lv_aload_n hx hb dX12_number_0 rfl (lv_at hl 0 rfl) ?_
  refine lv_bipush (v := 48) hx hb dX12_number_1 (by decide) ?_
  refine lv_bipush (v := 10) hx hb dX12_number_3 (by decide) ?_
  obtain ⟨_, ⟨rfl, t_28, hk_29⟩, o_c_27⟩ := hH h0 _ k_h0
  refine va_calli (va_runV (As := [.int 48, .int 10]) (rest := []) ⟨hx, hb, hml, hown, hts⟩ (c_X12_oneOf l g Ty G s.heap.size h0 48 10 k_h0 (rg_w rl_48 (by decide) (by decide)) (rg_w rl_10 (by decide) (by decide)) rd nn rdf askf len top isA M at0 wr0 hPE) (cwV 2 hts (gwV mw_1483 mw_1485 mw_44 mw_88 mw_1486) rfl rfl rfl hv_X12_oneOf ⟨Nat.le_of_ble_eq_true rfl, Nat.le_of_ble_eq_true rfl⟩) ⟨PcT_blind, hg_recv hK o_c_27 rfl, PcT_pre hK hH⟩ rfl rfl hl.1 rfl (lv_room (Nat.le_of_ble_eq_true rfl)) dX12_number_5 ⟨Nat.zero_le _, Nat.zero_le _⟩) hS (fun q _ h => AF.mono hS.1 h) (fun q h => AF.mono hS.1 h) (fun x_30 ux_30 t H locs ht hvm hx_30 hB hz hk hS => ?_)
  obtain ⟨eTx_30, eGx_30⟩ := hx_30
  obtain ⟨G_31, eG_31⟩ : ∃ z, z = ux_30.2 := ⟨_, rfl⟩
  rw [← eG_31] at eGx_30
  obtain ⟨hr_k_32, hg_k_32, hm_k_32, hq_k_32⟩ := eGx_30
  obtain ⟨xa_33, exa_33⟩ : ∃ z : Int32, z = (F_X12_oneOf rdf askf len top isA (48 : Int32) (10 : Int32) at0 wr0).2.1 := ⟨_, rfl⟩
  obtain ⟨xw_34, exw_34⟩ : ∃ z : Int32, z = (F_X12_oneOf rdf askf len top isA (48 : Int32) (10 : Int32) at0 wr0).2.2 := ⟨_, rfl⟩
  rw [← exa_33] at hg_k_32 hm_k_32 hq_k_32
  rw [← exw_34] at hg_k_32
  have hPE_35 : PE g Ty G_31 rd nn rdf askf len top isA M xa_33 xw_34 := PE.ps hPE hg_k_32 hq_k_32
  have hp_36 : G_31 = pst G xa_33 xw_34 := pst_pst hg_k_32 hp0
  have hmo_37 : at0.toInt ≤ (xa_33 : Int32).toInt := Int.le_trans (Int.le_refl at0.toInt) hm_k_32
  have hH : HT g Ty G_31 H := by rw [← ht, ← eTx_30, eG_31]; exact hB
  have hv : (F_X12_number_11 rdf askf len top isA 5 a0 x_30 (1 : Int32) xa_33 xw_34) = F_X12_number rdf askf len top isA a0 at0 wr0 := by have q := bn3_to hr_k_32 exa_33 exw_34 hv; exact q
  refine lv_istore_n (lv' := [(2, .int x_30), (0, .ref h0), (1, .int a0)]) hx hb dX12_number_8 rfl hl (by decide) rfl (fun ls hl => ?_)
  refine lv_iconst (v := 1) hx hb dX12_number_9 (by decide) ?_
  refine lv_istore_n (lv' := [(3, .int 1), (2, .int x_30), (0, .ref h0), (1, .int a0)]) hx hb dX12_number_10 rfl hl (by decide) rfl (fun ls hl => ?_)
  exact L_11 5 H locs G_31 xa_33 xw_34 x_30 1 ls hPE_35 hp_36 hmo_37 pr0 (rg_w rl_1 (by decide) (by decide)) (by decide) (lv_sub hl [2, 3, 1, 0] rfl) hv hH hS
