def beg (G : Gh) (b : Nat) (n t : Int32) : Gh := gset (gset (gset (gset (rset G 106 (some b)) 107 n) 108 t) 109 0) 110 (-1)
theorem beg_fr {G G1 : Gh} {b : Nat} {n t : Int32} (e : G1 = beg G b n t) : FR [107, 108, 109, 110] [] [106] G G1 := by
  subst e
  exact FR.n (FR.n (FR.n (FR.n (FR.r FR.rf rfl (by decide)) rfl (by decide)) rfl (by decide)) rfl (by decide)) rfl (by decide)
theorem beg_107 {G G1 : Gh} {b : Nat} {n t : Int32} (e : G1 = beg G b n t) : G1.1 107 = n := by subst e; rfl
theorem beg_108 {G G1 : Gh} {b : Nat} {n t : Int32} (e : G1 = beg G b n t) : G1.1 108 = t := by subst e; rfl
theorem beg_109 {G G1 : Gh} {b : Nat} {n t : Int32} (e : G1 = beg G b n t) : G1.1 109 = 0 := by subst e; rfl
theorem beg_110 {G G1 : Gh} {b : Nat} {n t : Int32} (e : G1 = beg G b n t) : G1.1 110 = -1 := by subst e; rfl
theorem beg_106 {G G1 : Gh} {b : Nat} {n t : Int32} (e : G1 = beg G b n t) : G1.2.2 106 = some b := by subst e; rfl
theorem ask_eq {f : Nat → Int32} {m d x0 x1 x2 x5 x6 : Int32} (h0 : x0 = F_X12_stepsOf f m) (h1 : x1 = F_X12_childrenOf f m) (h2 : x2 = (if f (48 + m).toNatClampNeg = 0 then 0 else F_J6_bitCount_0f7a4 (F_X12_inGroup f (f (48 + m).toNatClampNeg)))) (h5 : x5 = jrem (f 120) 7) (h6 : x6 = F_X12_kindOf f m) : pick7 x0 x1 x2 m d x5 x6 = askF f m d := by
  subst h0 h1 h2 h5 h6; rfl
theorem let_0 {f rl : Nat → Int32} {m d : Int32} {size : Int32} (h : size = 0) : (1 : Int32) = LetF f rl size m d := by unfold LetF; rw [if_pos h]
theorem let_1 {f rl ask : Nat → Int32} {m d : Int32} {size x : Int32} (h : ¬ size = 0) (ea : ask = askF f m d) (e : x = (F_X12_held rl ask size 40 1 (F_X12_thing rl ask size 40 1 82) 0 0 (-1)).1) (hx : ¬ x ≤ 0) : (1 : Int32) = LetF f rl size m d := by
  subst ea; unfold LetF; rw [if_neg h, ← e, if_neg hx]
theorem let_2 {f rl ask : Nat → Int32} {m d : Int32} {size x : Int32} (h : ¬ size = 0) (ea : ask = askF f m d) (e : x = (F_X12_held rl ask size 40 1 (F_X12_thing rl ask size 40 1 82) 0 0 (-1)).1) (hx : x ≤ 0) : (0 : Int32) = LetF f rl size m d := by
  subst ea; unfold LetF; rw [if_neg h, ← e, if_pos hx]

set_option maxHeartbeats 4000000 in
set_option maxRecDepth 100000 in
theorem c_X12_begin_t (l : Launch) (g : Gx) (Ty : TyM) (G : Gh) (sz : Nat) (h0 : Nat) (b0 : Nat) (a1 : Int32) (a2 : Int32) (k_h0 : Ty h0 = some (22, 0)) (k_b0 : Ty b0 = some (31, 80)) : Met l yX12_begin (wsG yX12_begin cX12_begin 4 none) ({ frames := 0, cells := 0, slots := 0, locals := 0 }) (PcT g Ty G sz [.ref h0, .ref b0, .int a1, .int a2]) (QwV g Ty sz (fun u => u.1 = Ty ∧ u.2 = beg G b0 a1 a2)) 0 0 (AF Ty sz) := by
  refine Met.ofW (cc := cX12_begin) (maxL := 4) (ret := none) (by decide) rfl ?_
  intro p e s m args below meth c s₁ B hml hv
  obtain ⟨rfl, hsz, hK, hH⟩ := hv
  subst hsz
  have hx := B.exec
  have hb := B.bytes
  have hr := B.returns
  have hts := atoms_spec (ws := (wsG yX12_begin cX12_begin 4 none)) B.pre
  have hG : ∀ w ∈ GW, w.before ([.ref h0, .ref b0, .int a1, .int a2] : List Value).toArray s = true := fun w h => hts w (List.mem_cons_of_mem _ h)
  have hown : s.vm.findClass RX12 = some m.cls := findClass_of_methodNamed B.named
  have hlocks := B.notSynchronized
  have hl := lv_entry [.ref h0, .ref b0, .int a1, .int a2] (n := 4) (Nat.le_of_ble_eq_true rfl)
  rw [lg_entry_eq]
  generalize (lg_sl [.ref h0, .ref b0, .int a1, .int a2] ++ List.replicate (4 - (lg_sl [.ref h0, .ref b0, .int a1, .int a2]).length) Slot.unset).toArray = ls at hl ⊢
  have hl : lv_has ls 4 [(0, .ref h0), (1, .ref b0), (2, .int a1), (3, .int a2)] := hl
  have hS : va_S (AF Ty s.heap.size) s.heap s.heap [] := va_S.rf
  refine lv_aload_n hx hb dX12_begin_0 rfl (lv_at hl 0 rfl) ?_
  refine lv_aload_n hx hb dX12_begin_1 rfl (lv_at hl 1 rfl) ?_
  obtain ⟨_, ⟨rfl, t_2, hk_3⟩, o_c_1⟩ := hH h0 _ k_h0
  refine hg_put (ty := (.array .byte)) hx hb hG igX12 tyX12 tyX12_ok nmX12 hown hK hS o_c_1 (AF.of k_h0) rfl 6 (by decide) (hG _ mw_1290) rfl (by decide +kernel) rfl rfl (Nat.le_of_ble_eq_true rfl) dX12_begin_2 (fun H locs o_c_1 hz oq hS => ?_)
  obtain ⟨G_4, eG_4⟩ : ∃ z : Gh, z = rset G 106 (some b0) := ⟨_, rfl⟩
  have hH : HT g Ty G_4 H := by rw [eG_4]; exact HT.putR 106 (some b0) hH k_h0 ⟨rfl, t_2, hk_3⟩ o_c_1 oq t_2
  clear oq hz
  refine lv_aload_n hx hb dX12_begin_5 rfl (lv_at hl 0 rfl) ?_
  refine lv_iload_n hx hb dX12_begin_6 rfl (lv_at hl 2 rfl) ?_
  obtain ⟨_, ⟨rfl, t_6, hk_7⟩, o_c_5⟩ := hH h0 _ k_h0
  refine hg_put (ty := .int) hx hb hG igX12 tyX12 tyX12_ok nmX12 hown hK hS o_c_5 (AF.of k_h0) rfl 7 (by decide) (hG _ mw_1291) rfl (by decide +kernel) rfl rfl (Nat.le_of_ble_eq_true rfl) dX12_begin_7 (fun H locs o_c_5 hz oq hS => ?_)
  obtain ⟨G_8, eG_8⟩ : ∃ z : Gh, z = gset G_4 107 a1 := ⟨_, rfl⟩
  have hH : HT g Ty G_8 H := by rw [eG_8]; exact HT.putN 107 a1 hH k_h0 ⟨rfl, t_6, hk_7⟩ o_c_5 oq (Or.inr (Or.inr (Or.inr (Or.inr (Or.inr ⟨by decide, t_6⟩)))))
  have u_9 : G_8.1 107 = a1 := by rw [eG_8]; exact gs_eq
  clear oq hz
  refine lv_aload_n hx hb dX12_begin_10 rfl (lv_at hl 0 rfl) ?_
  refine lv_iload_n hx hb dX12_begin_11 rfl (lv_at hl 3 rfl) ?_
  obtain ⟨_, ⟨rfl, t_11, hk_12⟩, o_c_10⟩ := hH h0 _ k_h0
  refine hg_put (ty := .int) hx hb hG igX12 tyX12 tyX12_ok nmX12 hown hK hS o_c_10 (AF.of k_h0) rfl 8 (by decide) (hG _ mw_1292) rfl (by decide +kernel) rfl rfl (Nat.le_of_ble_eq_true rfl) dX12_begin_12 (fun H locs o_c_10 hz oq hS => ?_)
  obtain ⟨G_13, eG_13⟩ : ∃ z : Gh, z = gset G_8 108 a2 := ⟨_, rfl⟩
  have hH : HT g Ty G_13 H := by rw [eG_13]; exact HT.putN 108 a2 hH k_h0 ⟨rfl, t_11, hk_12⟩ o_c_10 oq (Or.inr (Or.inr (Or.inr (Or.inr (Or.inr ⟨by decide, t_11⟩)))))
  have u_14 : G_13.1 107 = a1 := by rw [eG_13]; exact (gs_ne (by decide)).trans u_9
  have u_15 : G_13.1 108 = a2 := by rw [eG_13]; exact gs_eq
  clear oq hz
  refine lv_aload_n hx hb dX12_begin_15 rfl (lv_at hl 0 rfl) ?_
  refine lv_iconst (v := 0) hx hb dX12_begin_16 (by decide) ?_
  obtain ⟨_, ⟨rfl, t_17, hk_18⟩, o_c_16⟩ := hH h0 _ k_h0
  refine hg_put (ty := .int) hx hb hG igX12 tyX12 tyX12_ok nmX12 hown hK hS o_c_16 (AF.of k_h0) rfl 9 (by decide) (hG _ mw_1293) rfl (by decide +kernel) rfl rfl (Nat.le_of_ble_eq_true rfl) dX12_begin_17 (fun H locs o_c_16 hz oq hS => ?_)
  obtain ⟨G_19, eG_19⟩ : ∃ z : Gh, z = gset G_13 109 0 := ⟨_, rfl⟩
  have hH : HT g Ty G_19 H := by rw [eG_19]; exact HT.putN 109 0 hH k_h0 ⟨rfl, t_17, hk_18⟩ o_c_16 oq (Or.inr (Or.inr (Or.inr (Or.inr (Or.inr ⟨by decide, t_17⟩)))))
  have u_20 : G_19.1 107 = a1 := by rw [eG_19]; exact (gs_ne (by decide)).trans u_14
  have u_21 : G_19.1 108 = a2 := by rw [eG_19]; exact (gs_ne (by decide)).trans u_15
  have u_22 : G_19.1 109 = 0 := by rw [eG_19]; exact gs_eq
  clear oq hz
  refine lv_aload_n hx hb dX12_begin_20 rfl (lv_at hl 0 rfl) ?_
  refine lv_iconst (v := (-1)) hx hb dX12_begin_21 (by decide) ?_
  obtain ⟨_, ⟨rfl, t_24, hk_25⟩, o_c_23⟩ := hH h0 _ k_h0
  refine hg_put (ty := .int) hx hb hG igX12 tyX12 tyX12_ok nmX12 hown hK hS o_c_23 (AF.of k_h0) rfl 10 (by decide) (hG _ mw_1294) rfl (by decide +kernel) rfl rfl (Nat.le_of_ble_eq_true rfl) dX12_begin_22 (fun H locs o_c_23 hz oq hS => ?_)
  obtain ⟨G_26, eG_26⟩ : ∃ z : Gh, z = gset G_19 110 (-1) := ⟨_, rfl⟩
  have hH : HT g Ty G_26 H := by rw [eG_26]; exact HT.putN 110 (-1) hH k_h0 ⟨rfl, t_24, hk_25⟩ o_c_23 oq (Or.inr (Or.inr (Or.inr (Or.inr (Or.inr ⟨by decide, t_24⟩)))))
  have u_27 : G_26.1 107 = a1 := by rw [eG_26]; exact (gs_ne (by decide)).trans u_20
  have u_28 : G_26.1 108 = a2 := by rw [eG_26]; exact (gs_ne (by decide)).trans u_21
  have u_29 : G_26.1 109 = 0 := by rw [eG_26]; exact (gs_ne (by decide)).trans u_22
  have u_30 : G_26.1 110 = (-1) := by rw [eG_26]; exact gs_eq
  clear oq hz
  exact W.vret hx hb hr (fun t ht hWm => ⟨⟨(Ty, G_26), rfl, ⟨rfl, (by rw [eG_26, eG_19, eG_13, eG_8, eG_4]; rfl)⟩, by show HT g Ty G_26 t.heap; rw [ht]; exact hH⟩, hS.F ht⟩) hS.2.2 dX12_begin_25

set_option maxHeartbeats 4000000 in
set_option maxRecDepth 100000 in
theorem c_X12_begin_r (l : Launch) (g : Gx) (Ty : TyM) (G : Gh) (sz : Nat) (h0 : Nat) (b0 : Nat) (a1 : Int32) (a2 : Int32) (k_h0 : Ty h0 = some (22, 0)) (k_b0 : Ty b0 = some (31, 40)) : Met l yX12_begin (wsG yX12_begin cX12_begin 4 none) ({ frames := 0, cells := 0, slots := 0, locals := 0 }) (PcT g Ty G sz [.ref h0, .ref b0, .int a1, .int a2]) (QwV g Ty sz (fun u => u.1 = Ty ∧ u.2 = beg G b0 a1 a2)) 0 0 (AF Ty sz) := by
  refine Met.ofW (cc := cX12_begin) (maxL := 4) (ret := none) (by decide) rfl ?_
  intro p e s m args below meth c s₁ B hml hv
  obtain ⟨rfl, hsz, hK, hH⟩ := hv
  subst hsz
  have hx := B.exec
  have hb := B.bytes
  have hr := B.returns
  have hts := atoms_spec (ws := (wsG yX12_begin cX12_begin 4 none)) B.pre
  have hG : ∀ w ∈ GW, w.before ([.ref h0, .ref b0, .int a1, .int a2] : List Value).toArray s = true := fun w h => hts w (List.mem_cons_of_mem _ h)
  have hown : s.vm.findClass RX12 = some m.cls := findClass_of_methodNamed B.named
  have hlocks := B.notSynchronized
  have hl := lv_entry [.ref h0, .ref b0, .int a1, .int a2] (n := 4) (Nat.le_of_ble_eq_true rfl)
  rw [lg_entry_eq]
  generalize (lg_sl [.ref h0, .ref b0, .int a1, .int a2] ++ List.replicate (4 - (lg_sl [.ref h0, .ref b0, .int a1, .int a2]).length) Slot.unset).toArray = ls at hl ⊢
  have hl : lv_has ls 4 [(0, .ref h0), (1, .ref b0), (2, .int a1), (3, .int a2)] := hl
  have hS : va_S (AF Ty s.heap.size) s.heap s.heap [] := va_S.rf
  refine lv_aload_n hx hb dX12_begin_0 rfl (lv_at hl 0 rfl) ?_
  refine lv_aload_n hx hb dX12_begin_1 rfl (lv_at hl 1 rfl) ?_
  obtain ⟨_, ⟨rfl, t_2, hk_3⟩, o_c_1⟩ := hH h0 _ k_h0
  refine hg_put (ty := (.array .byte)) hx hb hG igX12 tyX12 tyX12_ok nmX12 hown hK hS o_c_1 (AF.of k_h0) rfl 6 (by decide) (hG _ mw_1290) rfl (by decide +kernel) rfl rfl (Nat.le_of_ble_eq_true rfl) dX12_begin_2 (fun H locs o_c_1 hz oq hS => ?_)
  obtain ⟨G_4, eG_4⟩ : ∃ z : Gh, z = rset G 106 (some b0) := ⟨_, rfl⟩
  have hH : HT g Ty G_4 H := by rw [eG_4]; exact HT.putR 106 (some b0) hH k_h0 ⟨rfl, t_2, hk_3⟩ o_c_1 oq t_2
  clear oq hz
  refine lv_aload_n hx hb dX12_begin_5 rfl (lv_at hl 0 rfl) ?_
  refine lv_iload_n hx hb dX12_begin_6 rfl (lv_at hl 2 rfl) ?_
  obtain ⟨_, ⟨rfl, t_6, hk_7⟩, o_c_5⟩ := hH h0 _ k_h0
  refine hg_put (ty := .int) hx hb hG igX12 tyX12 tyX12_ok nmX12 hown hK hS o_c_5 (AF.of k_h0) rfl 7 (by decide) (hG _ mw_1291) rfl (by decide +kernel) rfl rfl (Nat.le_of_ble_eq_true rfl) dX12_begin_7 (fun H locs o_c_5 hz oq hS => ?_)
  obtain ⟨G_8, eG_8⟩ : ∃ z : Gh, z = gset G_4 107 a1 := ⟨_, rfl⟩
  have hH : HT g Ty G_8 H := by rw [eG_8]; exact HT.putN 107 a1 hH k_h0 ⟨rfl, t_6, hk_7⟩ o_c_5 oq (Or.inr (Or.inr (Or.inr (Or.inr (Or.inr ⟨by decide, t_6⟩)))))
  have u_9 : G_8.1 107 = a1 := by rw [eG_8]; exact gs_eq
  clear oq hz
  refine lv_aload_n hx hb dX12_begin_10 rfl (lv_at hl 0 rfl) ?_
  refine lv_iload_n hx hb dX12_begin_11 rfl (lv_at hl 3 rfl) ?_
  obtain ⟨_, ⟨rfl, t_11, hk_12⟩, o_c_10⟩ := hH h0 _ k_h0
  refine hg_put (ty := .int) hx hb hG igX12 tyX12 tyX12_ok nmX12 hown hK hS o_c_10 (AF.of k_h0) rfl 8 (by decide) (hG _ mw_1292) rfl (by decide +kernel) rfl rfl (Nat.le_of_ble_eq_true rfl) dX12_begin_12 (fun H locs o_c_10 hz oq hS => ?_)
  obtain ⟨G_13, eG_13⟩ : ∃ z : Gh, z = gset G_8 108 a2 := ⟨_, rfl⟩
  have hH : HT g Ty G_13 H := by rw [eG_13]; exact HT.putN 108 a2 hH k_h0 ⟨rfl, t_11, hk_12⟩ o_c_10 oq (Or.inr (Or.inr (Or.inr (Or.inr (Or.inr ⟨by decide, t_11⟩)))))
  have u_14 : G_13.1 107 = a1 := by rw [eG_13]; exact (gs_ne (by decide)).trans u_9
  have u_15 : G_13.1 108 = a2 := by rw [eG_13]; exact gs_eq
  clear oq hz
  refine lv_aload_n hx hb dX12_begin_15 rfl (lv_at hl 0 rfl) ?_
  refine lv_iconst (v := 0) hx hb dX12_begin_16 (by decide) ?_
  obtain ⟨_, ⟨rfl, t_17, hk_18⟩, o_c_16⟩ := hH h0 _ k_h0
  refine hg_put (ty := .int) hx hb hG igX12 tyX12 tyX12_ok nmX12 hown hK hS o_c_16 (AF.of k_h0) rfl 9 (by decide) (hG _ mw_1293) rfl (by decide +kernel) rfl rfl (Nat.le_of_ble_eq_true rfl) dX12_begin_17 (fun H locs o_c_16 hz oq hS => ?_)
  obtain ⟨G_19, eG_19⟩ : ∃ z : Gh, z = gset G_13 109 0 := ⟨_, rfl⟩
  have hH : HT g Ty G_19 H := by rw [eG_19]; exact HT.putN 109 0 hH k_h0 ⟨rfl, t_17, hk_18⟩ o_c_16 oq (Or.inr (Or.inr (Or.inr (Or.inr (Or.inr ⟨by decide, t_17⟩)))))
  have u_20 : G_19.1 107 = a1 := by rw [eG_19]; exact (gs_ne (by decide)).trans u_14
  have u_21 : G_19.1 108 = a2 := by rw [eG_19]; exact (gs_ne (by decide)).trans u_15
  have u_22 : G_19.1 109 = 0 := by rw [eG_19]; exact gs_eq
  clear oq hz
  refine lv_aload_n hx hb dX12_begin_20 rfl (lv_at hl 0 rfl) ?_
  refine lv_iconst (v := (-1)) hx hb dX12_begin_21 (by decide) ?_
  obtain ⟨_, ⟨rfl, t_24, hk_25⟩, o_c_23⟩ := hH h0 _ k_h0
  refine hg_put (ty := .int) hx hb hG igX12 tyX12 tyX12_ok nmX12 hown hK hS o_c_23 (AF.of k_h0) rfl 10 (by decide) (hG _ mw_1294) rfl (by decide +kernel) rfl rfl (Nat.le_of_ble_eq_true rfl) dX12_begin_22 (fun H locs o_c_23 hz oq hS => ?_)
  obtain ⟨G_26, eG_26⟩ : ∃ z : Gh, z = gset G_19 110 (-1) := ⟨_, rfl⟩
  have hH : HT g Ty G_26 H := by rw [eG_26]; exact HT.putN 110 (-1) hH k_h0 ⟨rfl, t_24, hk_25⟩ o_c_23 oq (Or.inr (Or.inr (Or.inr (Or.inr (Or.inr ⟨by decide, t_24⟩)))))
  have u_27 : G_26.1 107 = a1 := by rw [eG_26]; exact (gs_ne (by decide)).trans u_20
  have u_28 : G_26.1 108 = a2 := by rw [eG_26]; exact (gs_ne (by decide)).trans u_21
  have u_29 : G_26.1 109 = 0 := by rw [eG_26]; exact (gs_ne (by decide)).trans u_22
  have u_30 : G_26.1 110 = (-1) := by rw [eG_26]; exact gs_eq
  clear oq hz
  exact W.vret hx hb hr (fun t ht hWm => ⟨⟨(Ty, G_26), rfl, ⟨rfl, (by rw [eG_26, eG_19, eG_13, eG_8, eG_4]; rfl)⟩, by show HT g Ty G_26 t.heap; rw [ht]; exact hH⟩, hS.F ht⟩) hS.2.2 dX12_begin_25

set_option maxHeartbeats 4000000 in
set_option maxRecDepth 100000 in
theorem c_X12_isLet (l : Launch) (g : Gx) (Ty : TyM) (G : Gh) (sz : Nat) (h0 : Nat) (b0 : Nat) (a1 : Int32) (a2 : Int32) (k_h0 : Ty h0 = some (22, 0)) (k_b0 : Ty b0 = some (30, 122)) (pr1 : rgI (0) (23) a1) (ρ : Nat → Nat) (hT : P1 (G.2.1 b0) ρ) (hm0 : thr (G.2.1 b0) a1) (rl : Nat) (krl : Ty rl = some (31, 40)) (hr1 : G.2.2 111 = some rl) (hr3 : rgI 0 40 (G.1 113)) : Met l yX12_isLet (wsG yX12_isLet cX12_isLet 6 (some .boolean)) ({ frames := 338, cells := 0, slots := 0, locals := 7919 }) (PcT g Ty G sz [.ref h0, .ref b0, .int a1, .int a2]) (QwI g Ty sz (fun r u => (rgI (0) (1) r ∧ (r = LetF (G.2.1 b0) (G.2.1 rl) (G.1 113) a1 a2)) ∧ u.1 = Ty ∧ FR [107, 108, 109, 110, 114] [(g.2.2 115)] [106] G u.2)) 0 0 (AF Ty sz) := by
  refine Met.ofW (cc := cX12_isLet) (maxL := 6) (ret := (some .boolean)) (by decide) rfl ?_
  intro p e s m args below meth c s₁ B hml hv
  obtain ⟨rfl, hsz, hK, hH⟩ := hv
  subst hsz
  have hx := B.exec
  have hb := B.bytes
  have hr := B.returns
  have hts := atoms_spec (ws := (wsG yX12_isLet cX12_isLet 6 (some .boolean))) B.pre
  have hG : ∀ w ∈ GW, w.before ([.ref h0, .ref b0, .int a1, .int a2] : List Value).toArray s = true := fun w h => hts w (List.mem_cons_of_mem _ h)
  have hown : s.vm.findClass RX12 = some m.cls := findClass_of_methodNamed B.named
  have hlocks := B.notSynchronized
  have hl := lv_entry [.ref h0, .ref b0, .int a1, .int a2] (n := 6) (Nat.le_of_ble_eq_true rfl)
  rw [lg_entry_eq]
  generalize (lg_sl [.ref h0, .ref b0, .int a1, .int a2] ++ List.replicate (6 - (lg_sl [.ref h0, .ref b0, .int a1, .int a2]).length) Slot.unset).toArray = ls at hl ⊢
  have hl : lv_has ls 6 [(0, .ref h0), (1, .ref b0), (2, .int a1), (3, .int a2)] := hl
  have hmk : mdK g Ty := mdk_of hH k_h0
  have hS : va_S (AF Ty s.heap.size) s.heap s.heap [] := va_S.rf
  refine lv_aload_n hx hb dX12_isLet_0 rfl (lv_at hl 0 rfl) ?_
  obtain ⟨_, ⟨rfl, t_2, hk_3⟩, o_c_1⟩ := hH h0 _ k_h0
  refine hg_get hx hb hG igX12 hown hK o_c_1 rfl 13 (by decide) (hG _ mw_1297) rfl dX12_isLet_1 ?_
  refine lv_if_ne (tgt := 9) hx hb dX12_isLet_4 (by decide) (fun c_4 => ?_) (fun c_4 => ?_)
  · have r_5 : rgI (1) (40) (G.1 113) := rg_w (rg_neL hr3 rl_0 c_4) (by decide) (by decide)
    refine lv_aload_n hx hb dX12_isLet_9 rfl (lv_at hl 1 rfl) ?_
    refine lv_bipush (v := 48) hx hb dX12_isLet_10 (by decide) ?_
    refine lv_iload_n hx hb dX12_isLet_12 rfl (lv_at hl 2 rfl) ?_
    refine lv_iadd hx hb dX12_isLet_13 ?_
    refine lv_topi (fun x_6 ex_6 => ?_)
    have rx_6 : rgI (48) (71) x_6 := by rw [ex_6]; exact rg_w (rg_add rl_48 pr1 (by decide) (by decide)) (by decide) (by decide)
    obtain ⟨_, rfl, o_c_7⟩ := hH b0 _ k_b0
    have o_c_7 : va_at g.1 vwCl (b0, .inl (g.2.1 1, 122, .inl (G.2.1 b0))) s.heap := o_c_7
    refine hg_iald hx hb hK o_c_7 (rg_in (n := 122) rx_6 (by decide) (by decide)) dX12_isLet_14 ?_
    refine lv_topi (fun x_8 ex_8 => ?_)
    have gq_9 : x_8 = (G.2.1 b0) (48 + a1 : Int32).toNatClampNeg := by rw [ex_8, ex_6]
    refine lv_istore (lv' := [(4, .int x_8), (0, .ref h0), (1, .ref b0), (2, .int a1), (3, .int a2)]) hx hb dX12_isLet_15 hl (by decide) rfl (fun ls hl => ?_)
    refine lv_aload_n hx hb dX12_isLet_17 rfl (lv_at hl 1 rfl) ?_
    refine hg_get hx hb hG igX12 hown hK o_c_1 rfl 15 (by decide) (hG _ mw_1299) rfl dX12_isLet_18 ?_
    refine lv_iconst (v := 0) hx hb dX12_isLet_21 (by decide) ?_
    refine lv_aload_n hx hb dX12_isLet_22 rfl (lv_at hl 2 rfl) ?_
    refine lv_iload_n hx hb dX12_isLet_23 rfl (lv_at hl 3 rfl) ?_
    refine vp_callSi (W.runS (As := [.ref b0, .int a1]) (rest := [.int 0, .ref (g.2.2 115)]) ⟨hx, hb, hml, hown, hts⟩ (c_X12_stepsOf l g Ty G b0 a1 k_b0 ρ hT hm0) (cwSx 2 hts hG (gwC mw_1530) mw_88 mw_1528 mw_1529 rfl rfl rfl hd_X12_stepsOf ⟨Nat.le_of_ble_eq_true rfl, Nat.le_of_ble_eq_true rfl⟩) ⟨PcH_blind, PcH_pre hK hH⟩ rfl rfl hl.1 rfl (lv_room (Nat.le_of_ble_eq_true rfl)) dX12_isLet_24 ⟨Nat.zero_le _, Nat.zero_le _⟩) (fun x_10 hx_10 => ?_)
    have rx_10 : rgI (0) (23) x_10 := hx_10.1
    obtain ⟨_, rfl, o_c_11⟩ := hH (g.2.2 115) _ hk_3.2.2.2.1
    have o_c_11 : va_at g.1 vwCl ((g.2.2 115), .inl (g.2.1 1, 7, .inl (G.2.1 (g.2.2 115)))) s.heap := o_c_11
    refine hg_iast hx hb hK hS o_c_11 (AF.of hk_3.2.2.2.1) (rg_in (n := 7) rl_0 (by decide) (by decide)) dX12_isLet_27 (fun H locs o_c_11 hz oq hS => ?_)
    obtain ⟨G_12, eG_12⟩ : ∃ z : Gh, z = aset G (g.2.2 115) (upd (G.2.1 (g.2.2 115)) (0 : Int32).toNatClampNeg x_10) := ⟨_, rfl⟩
    have hH : HT g Ty G_12 H := by rw [eG_12]; exact HT.putA (upd (G.2.1 (g.2.2 115)) (0 : Int32).toNatClampNeg x_10) hH hk_3.2.2.2.1 cf30 o_c_11 oq
    obtain ⟨f_13, ef_13⟩ : ∃ z : Nat → Int32, z = (upd (G.2.1 (g.2.2 115)) (0 : Int32).toNatClampNeg x_10) := ⟨_, rfl⟩
    have eaf_13 : G_12 = aset G (g.2.2 115) f_13 := by rw [eG_12, ef_13]
    have fr_14 : FR [107, 108, 109, 110, 114] [(g.2.2 115)] [106] G G_12 := FR.a FR.rf eaf_13 (fun b h => h.1)
    have u_15 : G_12.1 113 = (G.1 113) := by rw [eaf_13]; exact rfl
    have w_16 : G_12.2.1 b0 = (G.2.1 b0) := by rw [eaf_13]; exact (aset_ne (ne_kd k_b0 hmk.2.2.2.1 (by decide)))
    have w_17 : G_12.2.1 rl = (G.2.1 rl) := by rw [eaf_13]; exact (aset_ne (ne_kd krl hmk.2.2.2.1 (by decide)))
    have w_18 : G_12.2.1 (g.2.2 115) = f_13 := by rw [eaf_13]; exact aset_eq
    have u_19 : G_12.2.2 111 = some rl := by rw [eaf_13]; exact hr1
    clear oq hz
    refine lv_aload_n hx hb dX12_isLet_28 rfl (lv_at hl 1 rfl) ?_
    obtain ⟨_, ⟨rfl, t_21, hk_22⟩, o_c_20⟩ := hH h0 _ k_h0
    refine hg_get hx hb hG igX12 hown hK o_c_20 rfl 15 (by decide) (hG _ mw_1299) rfl dX12_isLet_29 ?_
    refine lv_iconst (v := 1) hx hb dX12_isLet_32 (by decide) ?_
    refine lv_aload_n hx hb dX12_isLet_33 rfl (lv_at hl 2 rfl) ?_
    refine lv_iload_n hx hb dX12_isLet_34 rfl (lv_at hl 3 rfl) ?_
    refine vp_callSi (W.runS (As := [.ref b0, .int a1]) (rest := [.int 1, .ref (g.2.2 115)]) ⟨hx, hb, hml, hown, hts⟩ (c_X12_childrenOf l g Ty G_12 b0 a1 k_b0) (cwSx 2 hts hG (gwC mw_1576) mw_88 mw_1574 mw_1575 rfl rfl rfl hd_X12_childrenOf ⟨Nat.le_of_ble_eq_true rfl, Nat.le_of_ble_eq_true rfl⟩) ⟨PcH_blind, PcH_pre hK hH⟩ rfl rfl hl.1 rfl (lv_room (Nat.le_of_ble_eq_true rfl)) dX12_isLet_35 ⟨Nat.zero_le _, Nat.zero_le _⟩) (fun x_23 hx_23 => ?_)
    have ex_24 : x_23 = F_X12_childrenOf (G.2.1 b0) a1 := by rw [← w_16]; exact hx_23
    obtain ⟨_, rfl, o_c_25⟩ := hH (g.2.2 115) _ hk_22.2.2.2.1
    have o_c_25 : va_at g.1 vwCl ((g.2.2 115), .inl (g.2.1 1, 7, .inl (G_12.2.1 (g.2.2 115)))) H := o_c_25
    refine hg_iast hx hb hK hS o_c_25 (AF.of hk_22.2.2.2.1) (rg_in (n := 7) rl_1 (by decide) (by decide)) dX12_isLet_38 (fun H locs o_c_25 hz oq hS => ?_)
    obtain ⟨G_26, eG_26⟩ : ∃ z : Gh, z = aset G_12 (g.2.2 115) (upd (G_12.2.1 (g.2.2 115)) (1 : Int32).toNatClampNeg x_23) := ⟨_, rfl⟩
    have hH : HT g Ty G_26 H := by rw [eG_26]; exact HT.putA (upd (G_12.2.1 (g.2.2 115)) (1 : Int32).toNatClampNeg x_23) hH hk_22.2.2.2.1 cf30 o_c_25 oq
    obtain ⟨f_27, ef_27⟩ : ∃ z : Nat → Int32, z = (upd f_13 (1 : Int32).toNatClampNeg x_23) := ⟨_, rfl⟩
    have eaf_27 : G_26 = aset G_12 (g.2.2 115) f_27 := by rw [eG_26, ef_27, w_18]
    have fr_28 : FR [107, 108, 109, 110, 114] [(g.2.2 115)] [106] G G_26 := FR.a fr_14 eaf_27 (fun b h => h.1)
    have u_29 : G_26.1 113 = (G.1 113) := by rw [eaf_27]; exact u_15
    have w_30 : G_26.2.1 b0 = (G.2.1 b0) := by rw [eaf_27]; exact (aset_ne (ne_kd k_b0 hmk.2.2.2.1 (by decide))).trans w_16
    have w_31 : G_26.2.1 rl = (G.2.1 rl) := by rw [eaf_27]; exact (aset_ne (ne_kd krl hmk.2.2.2.1 (by decide))).trans w_17
    have w_32 : G_26.2.1 (g.2.2 115) = f_27 := by rw [eaf_27]; exact aset_eq
    have u_33 : G_26.2.2 111 = some rl := by rw [eaf_27]; exact u_19
    clear oq hz
    refine lv_aload_n hx hb dX12_isLet_39 rfl (lv_at hl 1 rfl) ?_
    obtain ⟨_, ⟨rfl, t_35, hk_36⟩, o_c_34⟩ := hH h0 _ k_h0
    refine hg_get hx hb hG igX12 hown hK o_c_34 rfl 15 (by decide) (hG _ mw_1299) rfl dX12_isLet_40 ?_
    refine lv_iconst (v := 2) hx hb dX12_isLet_43 (by decide) ?_
    refine lv_iload hx hb dX12_isLet_44 (lv_at hl 0 rfl) ?_
    refine lv_if_ne (tgt := 53) hx hb dX12_isLet_46 (by decide) (fun c_37 => ?_) (fun c_37 => ?_)
    · refine lv_aload_n hx hb dX12_isLet_53 rfl (lv_at hl 2 rfl) ?_
      refine lv_iload hx hb dX12_isLet_54 (lv_at hl 0 rfl) ?_
      refine vp_callSi (W.runS (As := [.ref b0, .int x_8]) (rest := [.int 2, .ref (g.2.2 115)]) ⟨hx, hb, hml, hown, hts⟩ (c_X12_inGroup l g Ty G_26 b0 x_8 k_b0) (cwSx 2 hts hG (gwC mw_1566) mw_88 mw_1564 mw_1565 rfl rfl rfl hd_X12_inGroup ⟨Nat.le_of_ble_eq_true rfl, Nat.le_of_ble_eq_true rfl⟩) ⟨PcH_blind, PcH_pre hK hH⟩ rfl rfl hl.1 rfl (lv_room (Nat.le_of_ble_eq_true rfl)) dX12_isLet_56 ⟨Nat.zero_le _, Nat.zero_le _⟩) (fun x_38 hx_38 => ?_)
      have ex_39 : x_38 = F_X12_inGroup (G.2.1 b0) x_8 := by rw [← w_30]; exact hx_38
      refine vp_callSi (W.runS (As := [.int x_38]) (rest := [.int 2, .ref (g.2.2 115)]) ⟨hx, hb, hml, hown, hts⟩ (c_J6_bitCount_x l g Ty G_26 x_38 ) (cwSx 1 hts hG (gwC mw_620) mw_99 mw_1553 mw_619 rfl rfl rfl hd_J6_bitCount_0f7a4 ⟨Nat.le_of_ble_eq_true rfl, Nat.le_of_ble_eq_true rfl⟩) ⟨PcH_blind, PcH_pre hK hH⟩ rfl rfl hl.1 rfl (lv_room (Nat.le_of_ble_eq_true rfl)) dX12_isLet_59 ⟨Nat.zero_le _, Nat.zero_le _⟩) (fun x_40 hx_40 => ?_)
      have rx_40 : rgI (0) (63) x_40 := hx_40.1
      obtain ⟨_, rfl, o_c_41⟩ := hH (g.2.2 115) _ hk_36.2.2.2.1
      have o_c_41 : va_at g.1 vwCl ((g.2.2 115), .inl (g.2.1 1, 7, .inl (G_26.2.1 (g.2.2 115)))) H := o_c_41
      refine hg_iast hx hb hK hS o_c_41 (AF.of hk_36.2.2.2.1) (rg_in (n := 7) rl_2 (by decide) (by decide)) dX12_isLet_62 (fun H locs o_c_41 hz oq hS => ?_)
      obtain ⟨G_42, eG_42⟩ : ∃ z : Gh, z = aset G_26 (g.2.2 115) (upd (G_26.2.1 (g.2.2 115)) (2 : Int32).toNatClampNeg x_40) := ⟨_, rfl⟩
      have hH : HT g Ty G_42 H := by rw [eG_42]; exact HT.putA (upd (G_26.2.1 (g.2.2 115)) (2 : Int32).toNatClampNeg x_40) hH hk_36.2.2.2.1 cf30 o_c_41 oq
      obtain ⟨f_43, ef_43⟩ : ∃ z : Nat → Int32, z = (upd f_27 (2 : Int32).toNatClampNeg x_40) := ⟨_, rfl⟩
      have eaf_43 : G_42 = aset G_26 (g.2.2 115) f_43 := by rw [eG_42, ef_43, w_32]
      have fr_44 : FR [107, 108, 109, 110, 114] [(g.2.2 115)] [106] G G_42 := FR.a fr_28 eaf_43 (fun b h => h.1)
      have u_45 : G_42.1 113 = (G.1 113) := by rw [eaf_43]; exact u_29
      have w_46 : G_42.2.1 b0 = (G.2.1 b0) := by rw [eaf_43]; exact (aset_ne (ne_kd k_b0 hmk.2.2.2.1 (by decide))).trans w_30
      have w_47 : G_42.2.1 rl = (G.2.1 rl) := by rw [eaf_43]; exact (aset_ne (ne_kd krl hmk.2.2.2.1 (by decide))).trans w_31
      have w_48 : G_42.2.1 (g.2.2 115) = f_43 := by rw [eaf_43]; exact aset_eq
      have u_49 : G_42.2.2 111 = some rl := by rw [eaf_43]; exact u_33
      clear oq hz
      refine lv_aload_n hx hb dX12_isLet_63 rfl (lv_at hl 1 rfl) ?_
      obtain ⟨_, ⟨rfl, t_51, hk_52⟩, o_c_50⟩ := hH h0 _ k_h0
      refine hg_get hx hb hG igX12 hown hK o_c_50 rfl 15 (by decide) (hG _ mw_1299) rfl dX12_isLet_64 ?_
      refine lv_iconst (v := 3) hx hb dX12_isLet_67 (by decide) ?_
      refine lv_iload_n hx hb dX12_isLet_68 rfl (lv_at hl 3 rfl) ?_
      obtain ⟨_, rfl, o_c_53⟩ := hH (g.2.2 115) _ hk_52.2.2.2.1
      have o_c_53 : va_at g.1 vwCl ((g.2.2 115), .inl (g.2.1 1, 7, .inl (G_42.2.1 (g.2.2 115)))) H := o_c_53
      refine hg_iast hx hb hK hS o_c_53 (AF.of hk_52.2.2.2.1) (rg_in (n := 7) rl_3 (by decide) (by decide)) dX12_isLet_69 (fun H locs o_c_53 hz oq hS => ?_)
      obtain ⟨G_54, eG_54⟩ : ∃ z : Gh, z = aset G_42 (g.2.2 115) (upd (G_42.2.1 (g.2.2 115)) (3 : Int32).toNatClampNeg a1) := ⟨_, rfl⟩
      have hH : HT g Ty G_54 H := by rw [eG_54]; exact HT.putA (upd (G_42.2.1 (g.2.2 115)) (3 : Int32).toNatClampNeg a1) hH hk_52.2.2.2.1 cf30 o_c_53 oq
      obtain ⟨f_55, ef_55⟩ : ∃ z : Nat → Int32, z = (upd f_43 (3 : Int32).toNatClampNeg a1) := ⟨_, rfl⟩
      have eaf_55 : G_54 = aset G_42 (g.2.2 115) f_55 := by rw [eG_54, ef_55, w_48]
      have fr_56 : FR [107, 108, 109, 110, 114] [(g.2.2 115)] [106] G G_54 := FR.a fr_44 eaf_55 (fun b h => h.1)
      have u_57 : G_54.1 113 = (G.1 113) := by rw [eaf_55]; exact u_45
      have w_58 : G_54.2.1 b0 = (G.2.1 b0) := by rw [eaf_55]; exact (aset_ne (ne_kd k_b0 hmk.2.2.2.1 (by decide))).trans w_46
      have w_59 : G_54.2.1 rl = (G.2.1 rl) := by rw [eaf_55]; exact (aset_ne (ne_kd krl hmk.2.2.2.1 (by decide))).trans w_47
      have w_60 : G_54.2.1 (g.2.2 115) = f_55 := by rw [eaf_55]; exact aset_eq
      have u_61 : G_54.2.2 111 = some rl := by rw [eaf_55]; exact u_49
      clear oq hz
      refine lv_aload_n hx hb dX12_isLet_70 rfl (lv_at hl 1 rfl) ?_
      obtain ⟨_, ⟨rfl, t_63, hk_64⟩, o_c_62⟩ := hH h0 _ k_h0
      refine hg_get hx hb hG igX12 hown hK o_c_62 rfl 15 (by decide) (hG _ mw_1299) rfl dX12_isLet_71 ?_
      refine lv_iconst (v := 4) hx hb dX12_isLet_74 (by decide) ?_
      refine lv_iload_n hx hb dX12_isLet_75 rfl (lv_at hl 4 rfl) ?_
      obtain ⟨_, rfl, o_c_65⟩ := hH (g.2.2 115) _ hk_64.2.2.2.1
      have o_c_65 : va_at g.1 vwCl ((g.2.2 115), .inl (g.2.1 1, 7, .inl (G_54.2.1 (g.2.2 115)))) H := o_c_65
      refine hg_iast hx hb hK hS o_c_65 (AF.of hk_64.2.2.2.1) (rg_in (n := 7) rl_4 (by decide) (by decide)) dX12_isLet_76 (fun H locs o_c_65 hz oq hS => ?_)
      obtain ⟨G_66, eG_66⟩ : ∃ z : Gh, z = aset G_54 (g.2.2 115) (upd (G_54.2.1 (g.2.2 115)) (4 : Int32).toNatClampNeg a2) := ⟨_, rfl⟩
      have hH : HT g Ty G_66 H := by rw [eG_66]; exact HT.putA (upd (G_54.2.1 (g.2.2 115)) (4 : Int32).toNatClampNeg a2) hH hk_64.2.2.2.1 cf30 o_c_65 oq
      obtain ⟨f_67, ef_67⟩ : ∃ z : Nat → Int32, z = (upd f_55 (4 : Int32).toNatClampNeg a2) := ⟨_, rfl⟩
      have eaf_67 : G_66 = aset G_54 (g.2.2 115) f_67 := by rw [eG_66, ef_67, w_60]
      have fr_68 : FR [107, 108, 109, 110, 114] [(g.2.2 115)] [106] G G_66 := FR.a fr_56 eaf_67 (fun b h => h.1)
      have u_69 : G_66.1 113 = (G.1 113) := by rw [eaf_67]; exact u_57
      have w_70 : G_66.2.1 b0 = (G.2.1 b0) := by rw [eaf_67]; exact (aset_ne (ne_kd k_b0 hmk.2.2.2.1 (by decide))).trans w_58
      have w_71 : G_66.2.1 rl = (G.2.1 rl) := by rw [eaf_67]; exact (aset_ne (ne_kd krl hmk.2.2.2.1 (by decide))).trans w_59
      have w_72 : G_66.2.1 (g.2.2 115) = f_67 := by rw [eaf_67]; exact aset_eq
      have u_73 : G_66.2.2 111 = some rl := by rw [eaf_67]; exact u_61
      clear oq hz
      refine lv_aload_n hx hb dX12_isLet_77 rfl (lv_at hl 1 rfl) ?_
      obtain ⟨_, ⟨rfl, t_75, hk_76⟩, o_c_74⟩ := hH h0 _ k_h0
      refine hg_get hx hb hG igX12 hown hK o_c_74 rfl 15 (by decide) (hG _ mw_1299) rfl dX12_isLet_78 ?_
      refine lv_iconst (v := 5) hx hb dX12_isLet_81 (by decide) ?_
      refine lv_aload_n hx hb dX12_isLet_82 rfl (lv_at hl 2 rfl) ?_
      refine lv_bipush (v := 120) hx hb dX12_isLet_83 (by decide) ?_
      obtain ⟨_, rfl, o_c_77⟩ := hH b0 _ k_b0
      have o_c_77 : va_at g.1 vwCl (b0, .inl (g.2.1 1, 122, .inl (G_66.2.1 b0))) H := o_c_77
      refine hg_iald hx hb hK o_c_77 (rg_in (n := 122) rl_120 (by decide) (by decide)) dX12_isLet_85 ?_
      rw [w_70]
      refine lv_topi (fun x_78 ex_78 => ?_)
      refine lv_bipush (v := 7) hx hb dX12_isLet_86 (by decide) ?_
      refine lv_irem hx hb dX12_isLet_88 (by decide) ?_
      refine lv_topi (fun x_79 ex_79 => ?_)
      obtain ⟨_, rfl, o_c_80⟩ := hH (g.2.2 115) _ hk_76.2.2.2.1
      have o_c_80 : va_at g.1 vwCl ((g.2.2 115), .inl (g.2.1 1, 7, .inl (G_66.2.1 (g.2.2 115)))) H := o_c_80
      refine hg_iast hx hb hK hS o_c_80 (AF.of hk_76.2.2.2.1) (rg_in (n := 7) rl_5 (by decide) (by decide)) dX12_isLet_89 (fun H locs o_c_80 hz oq hS => ?_)
      obtain ⟨G_81, eG_81⟩ : ∃ z : Gh, z = aset G_66 (g.2.2 115) (upd (G_66.2.1 (g.2.2 115)) (5 : Int32).toNatClampNeg x_79) := ⟨_, rfl⟩
      have hH : HT g Ty G_81 H := by rw [eG_81]; exact HT.putA (upd (G_66.2.1 (g.2.2 115)) (5 : Int32).toNatClampNeg x_79) hH hk_76.2.2.2.1 cf30 o_c_80 oq
      obtain ⟨f_82, ef_82⟩ : ∃ z : Nat → Int32, z = (upd f_67 (5 : Int32).toNatClampNeg x_79) := ⟨_, rfl⟩
      have eaf_82 : G_81 = aset G_66 (g.2.2 115) f_82 := by rw [eG_81, ef_82, w_72]
      have fr_83 : FR [107, 108, 109, 110, 114] [(g.2.2 115)] [106] G G_81 := FR.a fr_68 eaf_82 (fun b h => h.1)
      have u_84 : G_81.1 113 = (G.1 113) := by rw [eaf_82]; exact u_69
      have w_85 : G_81.2.1 b0 = (G.2.1 b0) := by rw [eaf_82]; exact (aset_ne (ne_kd k_b0 hmk.2.2.2.1 (by decide))).trans w_70
      have w_86 : G_81.2.1 rl = (G.2.1 rl) := by rw [eaf_82]; exact (aset_ne (ne_kd krl hmk.2.2.2.1 (by decide))).trans w_71
      have w_87 : G_81.2.1 (g.2.2 115) = f_82 := by rw [eaf_82]; exact aset_eq
      have u_88 : G_81.2.2 111 = some rl := by rw [eaf_82]; exact u_73
      clear oq hz
      refine lv_aload_n hx hb dX12_isLet_90 rfl (lv_at hl 1 rfl) ?_
      obtain ⟨_, ⟨rfl, t_90, hk_91⟩, o_c_89⟩ := hH h0 _ k_h0
      refine hg_get hx hb hG igX12 hown hK o_c_89 rfl 15 (by decide) (hG _ mw_1299) rfl dX12_isLet_91 ?_
      refine lv_bipush (v := 6) hx hb dX12_isLet_94 (by decide) ?_
      refine lv_aload_n hx hb dX12_isLet_96 rfl (lv_at hl 2 rfl) ?_
      refine lv_iload_n hx hb dX12_isLet_97 rfl (lv_at hl 3 rfl) ?_
      refine vp_callSi (W.runS (As := [.ref b0, .int a1]) (rest := [.int 6, .ref (g.2.2 115)]) ⟨hx, hb, hml, hown, hts⟩ (c_X12_kindOf l g Ty G_81 b0 a1 k_b0 (rg_w pr1 (by decide) (by decide))) (cwSx 2 hts hG (gwC mw_1527) mw_88 mw_1525 mw_1526 rfl rfl rfl hd_X12_kindOf ⟨Nat.le_of_ble_eq_true rfl, Nat.le_of_ble_eq_true rfl⟩) ⟨PcH_blind, PcH_pre hK hH⟩ rfl rfl hl.1 rfl (lv_room (Nat.le_of_ble_eq_true rfl)) dX12_isLet_98 ⟨Nat.zero_le _, Nat.zero_le _⟩) (fun x_92 hx_92 => ?_)
      have ex_93 : x_92 = F_X12_kindOf (G.2.1 b0) a1 := by rw [← w_85]; exact hx_92
      obtain ⟨_, rfl, o_c_94⟩ := hH (g.2.2 115) _ hk_91.2.2.2.1
      have o_c_94 : va_at g.1 vwCl ((g.2.2 115), .inl (g.2.1 1, 7, .inl (G_81.2.1 (g.2.2 115)))) H := o_c_94
      refine hg_iast hx hb hK hS o_c_94 (AF.of hk_91.2.2.2.1) (rg_in (n := 7) rl_6 (by decide) (by decide)) dX12_isLet_101 (fun H locs o_c_94 hz oq hS => ?_)
      obtain ⟨G_95, eG_95⟩ : ∃ z : Gh, z = aset G_81 (g.2.2 115) (upd (G_81.2.1 (g.2.2 115)) (6 : Int32).toNatClampNeg x_92) := ⟨_, rfl⟩
      have hH : HT g Ty G_95 H := by rw [eG_95]; exact HT.putA (upd (G_81.2.1 (g.2.2 115)) (6 : Int32).toNatClampNeg x_92) hH hk_91.2.2.2.1 cf30 o_c_94 oq
      obtain ⟨f_96, ef_96⟩ : ∃ z : Nat → Int32, z = (upd f_82 (6 : Int32).toNatClampNeg x_92) := ⟨_, rfl⟩
      have eaf_96 : G_95 = aset G_81 (g.2.2 115) f_96 := by rw [eG_95, ef_96, w_87]
      have fr_97 : FR [107, 108, 109, 110, 114] [(g.2.2 115)] [106] G G_95 := FR.a fr_83 eaf_96 (fun b h => h.1)
      have u_98 : G_95.1 113 = (G.1 113) := by rw [eaf_96]; exact u_84
      have w_99 : G_95.2.1 b0 = (G.2.1 b0) := by rw [eaf_96]; exact (aset_ne (ne_kd k_b0 hmk.2.2.2.1 (by decide))).trans w_85
      have w_100 : G_95.2.1 rl = (G.2.1 rl) := by rw [eaf_96]; exact (aset_ne (ne_kd krl hmk.2.2.2.1 (by decide))).trans w_86
      have w_101 : G_95.2.1 (g.2.2 115) = f_96 := by rw [eaf_96]; exact aset_eq
      have u_102 : G_95.2.2 111 = some rl := by rw [eaf_96]; exact u_88
      clear oq hz
      refine lv_aload_n hx hb dX12_isLet_102 rfl (lv_at hl 1 rfl) ?_
      refine lv_aload_n hx hb dX12_isLet_103 rfl (lv_at hl 1 rfl) ?_
      obtain ⟨_, ⟨rfl, t_104, hk_105⟩, o_c_103⟩ := hH h0 _ k_h0
      refine hg_get hx hb hG igX12 hown hK o_c_103 rfl 11 (by decide) (hG _ mw_1295) rfl dX12_isLet_104 ?_
      rw [show va_rf (G_95.2.2 111) = Value.ref rl by rw [u_102]; rfl]
      refine lv_aload_n hx hb dX12_isLet_107 rfl (lv_at hl 1 rfl) ?_
      refine hg_get hx hb hG igX12 hown hK o_c_103 rfl 13 (by decide) (hG _ mw_1297) rfl dX12_isLet_108 ?_
      rw [u_98]
      refine lv_bipush (v := 40) hx hb dX12_isLet_111 (by decide) ?_
      refine va_callv (va_runV (As := [.ref rl, .int (G.1 113), .int 40]) (rest := []) ⟨hx, hb, hml, hown, hts⟩ (c_X12_begin_r l g Ty G_95 H.size h0 rl (G.1 113) 40 k_h0 krl) (cwV 3 hts (gwV mw_1439 mw_1441 mw_33 mw_88 mw_1442) rfl rfl rfl hv_X12_begin ⟨Nat.le_of_ble_eq_true rfl, Nat.le_of_ble_eq_true rfl⟩) ⟨PcT_blind, hg_recv hK o_c_103 rfl, PcT_pre hK hH⟩ rfl rfl hl.1 rfl (lv_room (Nat.le_of_ble_eq_true rfl)) dX12_isLet_113 ⟨Nat.zero_le _, Nat.zero_le _⟩) hS (fun q _ h => AF.mono hS.1 h) (fun q h => AF.mono hS.1 h) (fun ux_106 t H locs ht hvm hx_106 hB hz hk hS => ?_)
      obtain ⟨eTx_106, eGx_106⟩ := hx_106
      obtain ⟨G_107, eG_107⟩ : ∃ z, z = ux_106.2 := ⟨_, rfl⟩
      rw [← eG_107] at eGx_106
      have hfr_108 := beg_fr eGx_106
      have fr_109 : FR [107, 108, 109, 110, 114] [(g.2.2 115)] [106] G G_107 := FR.tr fr_97 hfr_108 (by decide) (fun _ _ => trivial) (by decide)
      have u_110 : G_107.1 113 = (G.1 113) := (hfr_108.1 113 (by decide)).trans u_98
      have w_111 : G_107.2.1 b0 = (G.2.1 b0) := (hfr_108.2.1 b0 trivial).trans w_99
      have w_112 : G_107.2.1 rl = (G.2.1 rl) := (hfr_108.2.1 rl trivial).trans w_100
      have w_113 : G_107.2.1 (g.2.2 115) = f_96 := (hfr_108.2.1 (g.2.2 115) trivial).trans w_101
      have u_114 : G_107.2.2 111 = some rl := (hfr_108.2.2 111 (by decide)).trans u_102
      have u_115 : G_107.1 107 = (G.1 113) := beg_107 eGx_106
      have u_116 : G_107.1 108 = 40 := beg_108 eGx_106
      have u_117 : G_107.1 109 = 0 := beg_109 eGx_106
      have u_118 : G_107.1 110 = (-1) := beg_110 eGx_106
      have u_119 : G_107.2.2 106 = some rl := beg_106 eGx_106
      have hH : HT g Ty G_107 H := by rw [← ht, ← eTx_106, eG_107]; exact hB
      refine lv_aload_n hx hb dX12_isLet_116 rfl (lv_at hl 1 rfl) ?_
      refine lv_iconst (v := 1) hx hb dX12_isLet_117 (by decide) ?_
      obtain ⟨_, ⟨rfl, t_121, hk_122⟩, o_c_120⟩ := hH h0 _ k_h0
      refine hg_put (ty := .boolean) hx hb hG igX12 tyX12 tyX12_ok nmX12 hown hK hS o_c_120 (AF.of k_h0) rfl 14 (by decide) (hG _ mw_1298) rfl (by decide +kernel) (by rfl) (by rfl) (Nat.le_of_ble_eq_true rfl) dX12_isLet_118 (fun H locs o_c_120 hz oq hS => ?_)
      obtain ⟨G_123, eG_123⟩ : ∃ z : Gh, z = gset G_107 114 1 := ⟨_, rfl⟩
      have hH : HT g Ty G_123 H := by rw [eG_123]; exact HT.putN 114 1 hH k_h0 ⟨rfl, t_121, hk_122⟩ o_c_120 oq (Or.inr (Or.inr (Or.inr (Or.inr (Or.inr ⟨by decide, t_121⟩)))))
      have fr_124 : FR [107, 108, 109, 110, 114] [(g.2.2 115)] [106] G G_123 := FR.n fr_109 eG_123 (by decide)
      have u_125 : G_123.1 113 = (G.1 113) := by rw [eG_123]; exact (gs_ne (by decide)).trans u_110
      have u_126 : G_123.1 107 = (G.1 113) := by rw [eG_123]; exact (gs_ne (by decide)).trans u_115
      have u_127 : G_123.1 108 = 40 := by rw [eG_123]; exact (gs_ne (by decide)).trans u_116
      have u_128 : G_123.1 109 = 0 := by rw [eG_123]; exact (gs_ne (by decide)).trans u_117
      have u_129 : G_123.1 110 = (-1) := by rw [eG_123]; exact (gs_ne (by decide)).trans u_118
      have u_130 : G_123.1 114 = 1 := by rw [eG_123]; exact gs_eq
      have w_131 : G_123.2.1 b0 = (G.2.1 b0) := by rw [eG_123]; exact w_111
      have w_132 : G_123.2.1 rl = (G.2.1 rl) := by rw [eG_123]; exact w_112
      have w_133 : G_123.2.1 (g.2.2 115) = f_96 := by rw [eG_123]; exact w_113
      have u_134 : G_123.2.2 111 = some rl := by rw [eG_123]; exact u_114
      have u_135 : G_123.2.2 106 = some rl := by rw [eG_123]; exact u_119
      clear oq hz
      refine lv_aload_n hx hb dX12_isLet_121 rfl (lv_at hl 1 rfl) ?_
      refine lv_iconst (v := 0) hx hb dX12_isLet_122 (by decide) ?_
      obtain ⟨_, ⟨rfl, t_137, hk_138⟩, o_c_136⟩ := hH h0 _ k_h0
      refine va_calli (va_runV (As := [.int 0]) (rest := []) ⟨hx, hb, hml, hown, hts⟩ (c_X12_held l g 82 (c_X12_thing l g 82) Ty G_123 H.size h0 0 k_h0 rl 40 (G.2.1 rl) (pick7 x_10 x_23 x_40 a1 a2 x_79 x_92) (G.1 113) 40 1 40 0 (-1) ⟨u_135, krl, w_132, (fun i hi => by rw [w_133]; exact ask_ok ef_13 ef_27 ef_43 ef_55 ef_67 ef_82 ef_96 i hi), u_126, u_127, u_130, u_128, u_129, hr3, by decide, Or.inl hr3.2, by decide, by decide, by decide, by decide⟩ (by decide)) (cwV 1 hts (gwV mw_1443 mw_1445 mw_34 mw_88 mw_1446) rfl rfl rfl hv_X12_held ⟨Nat.le_of_ble_eq_true rfl, Nat.le_of_ble_eq_true rfl⟩) ⟨PcT_blind, hg_recv hK o_c_136 rfl, PcT_pre hK hH⟩ rfl rfl hl.1 rfl (lv_room (Nat.le_of_ble_eq_true rfl)) dX12_isLet_123 ⟨Nat.zero_le _, Nat.zero_le _⟩) hS (fun q _ h => AF.mono hS.1 h) (fun q h => AF.mono hS.1 h) (fun x_139 ux_139 t H locs ht hvm hx_139 hB hz hk hS => ?_)
      obtain ⟨eTx_139, eGx_139⟩ := hx_139
      obtain ⟨G_140, eG_140⟩ : ∃ z, z = ux_139.2 := ⟨_, rfl⟩
      rw [← eG_140] at eGx_139
      obtain ⟨hr_141, hg_142, hm_143, hq_144⟩ := eGx_139
      have hfr_145 : FR [109, 110] [] [] G_123 G_140 := FR.ps FR.rf hg_142 (by decide) (by decide)
      have fr_146 : FR [107, 108, 109, 110, 114] [(g.2.2 115)] [106] G G_140 := FR.tr fr_124 hfr_145 (by decide) (fun _ _ => trivial) (by decide)
      have u_147 : G_140.1 113 = (G.1 113) := (hfr_145.1 113 (by decide)).trans u_125
      have u_148 : G_140.1 107 = (G.1 113) := (hfr_145.1 107 (by decide)).trans u_126
      have u_149 : G_140.1 108 = 40 := (hfr_145.1 108 (by decide)).trans u_127
      have u_150 : G_140.1 114 = 1 := (hfr_145.1 114 (by decide)).trans u_130
      have w_151 : G_140.2.1 b0 = (G.2.1 b0) := (hfr_145.2.1 b0 trivial).trans w_131
      have w_152 : G_140.2.1 rl = (G.2.1 rl) := (hfr_145.2.1 rl trivial).trans w_132
      have w_153 : G_140.2.1 (g.2.2 115) = f_96 := (hfr_145.2.1 (g.2.2 115) trivial).trans w_133
      have u_154 : G_140.2.2 111 = some rl := (hfr_145.2.2 111 (by decide)).trans u_134
      have u_155 : G_140.2.2 106 = some rl := (hfr_145.2.2 106 (by decide)).trans u_135
      have hH : HT g Ty G_140 H := by rw [← ht, ← eTx_139, eG_140]; exact hB
      refine lv_istore (lv' := [(5, .int x_139), (4, .int x_8), (0, .ref h0), (1, .ref b0), (2, .int a1), (3, .int a2)]) hx hb dX12_isLet_126 hl (by decide) rfl (fun ls hl => ?_)
      refine lv_aload_n hx hb dX12_isLet_128 rfl (lv_at hl 2 rfl) ?_
      refine lv_iconst (v := 0) hx hb dX12_isLet_129 (by decide) ?_
      obtain ⟨_, ⟨rfl, t_157, hk_158⟩, o_c_156⟩ := hH h0 _ k_h0
      refine hg_put (ty := .boolean) hx hb hG igX12 tyX12 tyX12_ok nmX12 hown hK hS o_c_156 (AF.of k_h0) rfl 14 (by decide) (hG _ mw_1298) rfl (by decide +kernel) (by rfl) (by rfl) (Nat.le_of_ble_eq_true rfl) dX12_isLet_130 (fun H locs o_c_156 hz oq hS => ?_)
      obtain ⟨G_159, eG_159⟩ : ∃ z : Gh, z = gset G_140 114 0 := ⟨_, rfl⟩
      have hH : HT g Ty G_159 H := by rw [eG_159]; exact HT.putN 114 0 hH k_h0 ⟨rfl, t_157, hk_158⟩ o_c_156 oq (Or.inr (Or.inr (Or.inr (Or.inr (Or.inr ⟨by decide, t_157⟩)))))
      have fr_160 : FR [107, 108, 109, 110, 114] [(g.2.2 115)] [106] G G_159 := FR.n fr_146 eG_159 (by decide)
      have u_161 : G_159.1 113 = (G.1 113) := by rw [eG_159]; exact (gs_ne (by decide)).trans u_147
      have u_162 : G_159.1 107 = (G.1 113) := by rw [eG_159]; exact (gs_ne (by decide)).trans u_148
      have u_163 : G_159.1 108 = 40 := by rw [eG_159]; exact (gs_ne (by decide)).trans u_149
      have u_164 : G_159.1 114 = 0 := by rw [eG_159]; exact gs_eq
      have w_165 : G_159.2.1 b0 = (G.2.1 b0) := by rw [eG_159]; exact w_151
      have w_166 : G_159.2.1 rl = (G.2.1 rl) := by rw [eG_159]; exact w_152
      have w_167 : G_159.2.1 (g.2.2 115) = f_96 := by rw [eG_159]; exact w_153
      have u_168 : G_159.2.2 111 = some rl := by rw [eG_159]; exact u_154
      have u_169 : G_159.2.2 106 = some rl := by rw [eG_159]; exact u_155
      clear oq hz
      refine lv_iload hx hb dX12_isLet_133 (lv_at hl 0 rfl) ?_
      refine lv_if_le (tgt := 142) hx hb dX12_isLet_135 (by decide) (fun c_170 => ?_) (fun c_170 => ?_)
      · have r_171 : rgI (-2147483648) (0) x_139 := rg_w (rg_leL (rg_top x_139) rl_0 c_170) (by decide) (by decide)
        refine lv_iconst (v := 0) hx hb dX12_isLet_142 (by decide) ?_
        exact W.zret hx hb hr rfl (fun t ht hWm => ⟨⟨0, (Ty, G_159), rfl, ⟨⟨rg_w rl_0 (by decide) (by decide), let_2 c_4 (ask_eq hx_10.2 ex_24 (by rw [← gq_9, if_neg c_37, ← ex_39]; exact hx_40.2) (by rw [ex_79, ex_78]; rfl) ex_93) hr_141 c_170⟩, ⟨rfl, fr_160⟩⟩, by show HT g Ty G_159 t.heap; rw [ht]; exact hH⟩, hS.F ht⟩) hS.2.2 dX12_isLet_143
      · have r_172 : rgI (1) (2147483647) x_139 := rg_w (rg_ltR rl_0 (rg_top x_139) (nle_lt c_170)) (by decide) (by decide)
        refine lv_iconst (v := 1) hx hb dX12_isLet_138 (by decide) ?_
        refine lv_goto (tgt := 143) hx hb dX12_isLet_139 (by decide) ?_
        exact W.zret hx hb hr rfl (fun t ht hWm => ⟨⟨1, (Ty, G_159), rfl, ⟨⟨rg_w rl_1 (by decide) (by decide), let_1 c_4 (ask_eq hx_10.2 ex_24 (by rw [← gq_9, if_neg c_37, ← ex_39]; exact hx_40.2) (by rw [ex_79, ex_78]; rfl) ex_93) hr_141 c_170⟩, ⟨rfl, fr_160⟩⟩, by show HT g Ty G_159 t.heap; rw [ht]; exact hH⟩, hS.F ht⟩) hS.2.2 dX12_isLet_143
    · have r_173 : rgI (0) (0) x_8 := rg_w (rg_eq rl_0 c_37) (by decide) (by decide)
      refine lv_iconst (v := 0) hx hb dX12_isLet_49 (by decide) ?_
      refine lv_goto (tgt := 62) hx hb dX12_isLet_50 (by decide) ?_
      obtain ⟨_, rfl, o_c_174⟩ := hH (g.2.2 115) _ hk_36.2.2.2.1
      have o_c_174 : va_at g.1 vwCl ((g.2.2 115), .inl (g.2.1 1, 7, .inl (G_26.2.1 (g.2.2 115)))) H := o_c_174
      refine hg_iast hx hb hK hS o_c_174 (AF.of hk_36.2.2.2.1) (rg_in (n := 7) rl_2 (by decide) (by decide)) dX12_isLet_62 (fun H locs o_c_174 hz oq hS => ?_)
      obtain ⟨G_175, eG_175⟩ : ∃ z : Gh, z = aset G_26 (g.2.2 115) (upd (G_26.2.1 (g.2.2 115)) (2 : Int32).toNatClampNeg 0) := ⟨_, rfl⟩
      have hH : HT g Ty G_175 H := by rw [eG_175]; exact HT.putA (upd (G_26.2.1 (g.2.2 115)) (2 : Int32).toNatClampNeg 0) hH hk_36.2.2.2.1 cf30 o_c_174 oq
      obtain ⟨f_176, ef_176⟩ : ∃ z : Nat → Int32, z = (upd f_27 (2 : Int32).toNatClampNeg 0) := ⟨_, rfl⟩
      have eaf_176 : G_175 = aset G_26 (g.2.2 115) f_176 := by rw [eG_175, ef_176, w_32]
      have fr_177 : FR [107, 108, 109, 110, 114] [(g.2.2 115)] [106] G G_175 := FR.a fr_28 eaf_176 (fun b h => h.1)
      have u_178 : G_175.1 113 = (G.1 113) := by rw [eaf_176]; exact u_29
      have w_179 : G_175.2.1 b0 = (G.2.1 b0) := by rw [eaf_176]; exact (aset_ne (ne_kd k_b0 hmk.2.2.2.1 (by decide))).trans w_30
      have w_180 : G_175.2.1 rl = (G.2.1 rl) := by rw [eaf_176]; exact (aset_ne (ne_kd krl hmk.2.2.2.1 (by decide))).trans w_31
      have w_181 : G_175.2.1 (g.2.2 115) = f_176 := by rw [eaf_176]; exact aset_eq
      have u_182 : G_175.2.2 111 = some rl := by rw [eaf_176]; exact u_33
      clear oq hz
      refine lv_aload_n hx hb dX12_isLet_63 rfl (lv_at hl 1 rfl) ?_
      obtain ⟨_, ⟨rfl, t_184, hk_185⟩, o_c_183⟩ := hH h0 _ k_h0
      refine hg_get hx hb hG igX12 hown hK o_c_183 rfl 15 (by decide) (hG _ mw_1299) rfl dX12_isLet_64 ?_
      refine lv_iconst (v := 3) hx hb dX12_isLet_67 (by decide) ?_
      refine lv_iload_n hx hb dX12_isLet_68 rfl (lv_at hl 3 rfl) ?_
      obtain ⟨_, rfl, o_c_186⟩ := hH (g.2.2 115) _ hk_185.2.2.2.1
      have o_c_186 : va_at g.1 vwCl ((g.2.2 115), .inl (g.2.1 1, 7, .inl (G_175.2.1 (g.2.2 115)))) H := o_c_186
      refine hg_iast hx hb hK hS o_c_186 (AF.of hk_185.2.2.2.1) (rg_in (n := 7) rl_3 (by decide) (by decide)) dX12_isLet_69 (fun H locs o_c_186 hz oq hS => ?_)
      obtain ⟨G_187, eG_187⟩ : ∃ z : Gh, z = aset G_175 (g.2.2 115) (upd (G_175.2.1 (g.2.2 115)) (3 : Int32).toNatClampNeg a1) := ⟨_, rfl⟩
      have hH : HT g Ty G_187 H := by rw [eG_187]; exact HT.putA (upd (G_175.2.1 (g.2.2 115)) (3 : Int32).toNatClampNeg a1) hH hk_185.2.2.2.1 cf30 o_c_186 oq
      obtain ⟨f_188, ef_188⟩ : ∃ z : Nat → Int32, z = (upd f_176 (3 : Int32).toNatClampNeg a1) := ⟨_, rfl⟩
      have eaf_188 : G_187 = aset G_175 (g.2.2 115) f_188 := by rw [eG_187, ef_188, w_181]
      have fr_189 : FR [107, 108, 109, 110, 114] [(g.2.2 115)] [106] G G_187 := FR.a fr_177 eaf_188 (fun b h => h.1)
      have u_190 : G_187.1 113 = (G.1 113) := by rw [eaf_188]; exact u_178
      have w_191 : G_187.2.1 b0 = (G.2.1 b0) := by rw [eaf_188]; exact (aset_ne (ne_kd k_b0 hmk.2.2.2.1 (by decide))).trans w_179
      have w_192 : G_187.2.1 rl = (G.2.1 rl) := by rw [eaf_188]; exact (aset_ne (ne_kd krl hmk.2.2.2.1 (by decide))).trans w_180
      have w_193 : G_187.2.1 (g.2.2 115) = f_188 := by rw [eaf_188]; exact aset_eq
      have u_194 : G_187.2.2 111 = some rl := by rw [eaf_188]; exact u_182
      clear oq hz
      refine lv_aload_n hx hb dX12_isLet_70 rfl (lv_at hl 1 rfl) ?_
      obtain ⟨_, ⟨rfl, t_196, hk_197⟩, o_c_195⟩ := hH h0 _ k_h0
      refine hg_get hx hb hG igX12 hown hK o_c_195 rfl 15 (by decide) (hG _ mw_1299) rfl dX12_isLet_71 ?_
      refine lv_iconst (v := 4) hx hb dX12_isLet_74 (by decide) ?_
      refine lv_iload_n hx hb dX12_isLet_75 rfl (lv_at hl 4 rfl) ?_
      obtain ⟨_, rfl, o_c_198⟩ := hH (g.2.2 115) _ hk_197.2.2.2.1
      have o_c_198 : va_at g.1 vwCl ((g.2.2 115), .inl (g.2.1 1, 7, .inl (G_187.2.1 (g.2.2 115)))) H := o_c_198
      refine hg_iast hx hb hK hS o_c_198 (AF.of hk_197.2.2.2.1) (rg_in (n := 7) rl_4 (by decide) (by decide)) dX12_isLet_76 (fun H locs o_c_198 hz oq hS => ?_)
      obtain ⟨G_199, eG_199⟩ : ∃ z : Gh, z = aset G_187 (g.2.2 115) (upd (G_187.2.1 (g.2.2 115)) (4 : Int32).toNatClampNeg a2) := ⟨_, rfl⟩
      have hH : HT g Ty G_199 H := by rw [eG_199]; exact HT.putA (upd (G_187.2.1 (g.2.2 115)) (4 : Int32).toNatClampNeg a2) hH hk_197.2.2.2.1 cf30 o_c_198 oq
      obtain ⟨f_200, ef_200⟩ : ∃ z : Nat → Int32, z = (upd f_188 (4 : Int32).toNatClampNeg a2) := ⟨_, rfl⟩
      have eaf_200 : G_199 = aset G_187 (g.2.2 115) f_200 := by rw [eG_199, ef_200, w_193]
      have fr_201 : FR [107, 108, 109, 110, 114] [(g.2.2 115)] [106] G G_199 := FR.a fr_189 eaf_200 (fun b h => h.1)
      have u_202 : G_199.1 113 = (G.1 113) := by rw [eaf_200]; exact u_190
      have w_203 : G_199.2.1 b0 = (G.2.1 b0) := by rw [eaf_200]; exact (aset_ne (ne_kd k_b0 hmk.2.2.2.1 (by decide))).trans w_191
      have w_204 : G_199.2.1 rl = (G.2.1 rl) := by rw [eaf_200]; exact (aset_ne (ne_kd krl hmk.2.2.2.1 (by decide))).trans w_192
      have w_205 : G_199.2.1 (g.2.2 115) = f_200 := by rw [eaf_200]; exact aset_eq
      have u_206 : G_199.2.2 111 = some rl := by rw [eaf_200]; exact u_194
      clear oq hz
      refine lv_aload_n hx hb dX12_isLet_77 rfl (lv_at hl 1 rfl) ?_
      obtain ⟨_, ⟨rfl, t_208, hk_209⟩, o_c_207⟩ := hH h0 _ k_h0
      refine hg_get hx hb hG igX12 hown hK o_c_207 rfl 15 (by decide) (hG _ mw_1299) rfl dX12_isLet_78 ?_
      refine lv_iconst (v := 5) hx hb dX12_isLet_81 (by decide) ?_
      refine lv_aload_n hx hb dX12_isLet_82 rfl (lv_at hl 2 rfl) ?_
      refine lv_bipush (v := 120) hx hb dX12_isLet_83 (by decide) ?_
      obtain ⟨_, rfl, o_c_210⟩ := hH b0 _ k_b0
      have o_c_210 : va_at g.1 vwCl (b0, .inl (g.2.1 1, 122, .inl (G_199.2.1 b0))) H := o_c_210
      refine hg_iald hx hb hK o_c_210 (rg_in (n := 122) rl_120 (by decide) (by decide)) dX12_isLet_85 ?_
      rw [w_203]
      refine lv_topi (fun x_211 ex_211 => ?_)
      refine lv_bipush (v := 7) hx hb dX12_isLet_86 (by decide) ?_
      refine lv_irem hx hb dX12_isLet_88 (by decide) ?_
      refine lv_topi (fun x_212 ex_212 => ?_)
      obtain ⟨_, rfl, o_c_213⟩ := hH (g.2.2 115) _ hk_209.2.2.2.1
      have o_c_213 : va_at g.1 vwCl ((g.2.2 115), .inl (g.2.1 1, 7, .inl (G_199.2.1 (g.2.2 115)))) H := o_c_213
      refine hg_iast hx hb hK hS o_c_213 (AF.of hk_209.2.2.2.1) (rg_in (n := 7) rl_5 (by decide) (by decide)) dX12_isLet_89 (fun H locs o_c_213 hz oq hS => ?_)
      obtain ⟨G_214, eG_214⟩ : ∃ z : Gh, z = aset G_199 (g.2.2 115) (upd (G_199.2.1 (g.2.2 115)) (5 : Int32).toNatClampNeg x_212) := ⟨_, rfl⟩
      have hH : HT g Ty G_214 H := by rw [eG_214]; exact HT.putA (upd (G_199.2.1 (g.2.2 115)) (5 : Int32).toNatClampNeg x_212) hH hk_209.2.2.2.1 cf30 o_c_213 oq
      obtain ⟨f_215, ef_215⟩ : ∃ z : Nat → Int32, z = (upd f_200 (5 : Int32).toNatClampNeg x_212) := ⟨_, rfl⟩
      have eaf_215 : G_214 = aset G_199 (g.2.2 115) f_215 := by rw [eG_214, ef_215, w_205]
      have fr_216 : FR [107, 108, 109, 110, 114] [(g.2.2 115)] [106] G G_214 := FR.a fr_201 eaf_215 (fun b h => h.1)
      have u_217 : G_214.1 113 = (G.1 113) := by rw [eaf_215]; exact u_202
      have w_218 : G_214.2.1 b0 = (G.2.1 b0) := by rw [eaf_215]; exact (aset_ne (ne_kd k_b0 hmk.2.2.2.1 (by decide))).trans w_203
      have w_219 : G_214.2.1 rl = (G.2.1 rl) := by rw [eaf_215]; exact (aset_ne (ne_kd krl hmk.2.2.2.1 (by decide))).trans w_204
      have w_220 : G_214.2.1 (g.2.2 115) = f_215 := by rw [eaf_215]; exact aset_eq
      have u_221 : G_214.2.2 111 = some rl := by rw [eaf_215]; exact u_206
      clear oq hz
      refine lv_aload_n hx hb dX12_isLet_90 rfl (lv_at hl 1 rfl) ?_
      obtain ⟨_, ⟨rfl, t_223, hk_224⟩, o_c_222⟩ := hH h0 _ k_h0
      refine hg_get hx hb hG igX12 hown hK o_c_222 rfl 15 (by decide) (hG _ mw_1299) rfl dX12_isLet_91 ?_
      refine lv_bipush (v := 6) hx hb dX12_isLet_94 (by decide) ?_
      refine lv_aload_n hx hb dX12_isLet_96 rfl (lv_at hl 2 rfl) ?_
      refine lv_iload_n hx hb dX12_isLet_97 rfl (lv_at hl 3 rfl) ?_
      refine vp_callSi (W.runS (As := [.ref b0, .int a1]) (rest := [.int 6, .ref (g.2.2 115)]) ⟨hx, hb, hml, hown, hts⟩ (c_X12_kindOf l g Ty G_214 b0 a1 k_b0 (rg_w pr1 (by decide) (by decide))) (cwSx 2 hts hG (gwC mw_1527) mw_88 mw_1525 mw_1526 rfl rfl rfl hd_X12_kindOf ⟨Nat.le_of_ble_eq_true rfl, Nat.le_of_ble_eq_true rfl⟩) ⟨PcH_blind, PcH_pre hK hH⟩ rfl rfl hl.1 rfl (lv_room (Nat.le_of_ble_eq_true rfl)) dX12_isLet_98 ⟨Nat.zero_le _, Nat.zero_le _⟩) (fun x_225 hx_225 => ?_)
      have ex_226 : x_225 = F_X12_kindOf (G.2.1 b0) a1 := by rw [← w_218]; exact hx_225
      obtain ⟨_, rfl, o_c_227⟩ := hH (g.2.2 115) _ hk_224.2.2.2.1
      have o_c_227 : va_at g.1 vwCl ((g.2.2 115), .inl (g.2.1 1, 7, .inl (G_214.2.1 (g.2.2 115)))) H := o_c_227
      refine hg_iast hx hb hK hS o_c_227 (AF.of hk_224.2.2.2.1) (rg_in (n := 7) rl_6 (by decide) (by decide)) dX12_isLet_101 (fun H locs o_c_227 hz oq hS => ?_)
      obtain ⟨G_228, eG_228⟩ : ∃ z : Gh, z = aset G_214 (g.2.2 115) (upd (G_214.2.1 (g.2.2 115)) (6 : Int32).toNatClampNeg x_225) := ⟨_, rfl⟩
      have hH : HT g Ty G_228 H := by rw [eG_228]; exact HT.putA (upd (G_214.2.1 (g.2.2 115)) (6 : Int32).toNatClampNeg x_225) hH hk_224.2.2.2.1 cf30 o_c_227 oq
      obtain ⟨f_229, ef_229⟩ : ∃ z : Nat → Int32, z = (upd f_215 (6 : Int32).toNatClampNeg x_225) := ⟨_, rfl⟩
      have eaf_229 : G_228 = aset G_214 (g.2.2 115) f_229 := by rw [eG_228, ef_229, w_220]
      have fr_230 : FR [107, 108, 109, 110, 114] [(g.2.2 115)] [106] G G_228 := FR.a fr_216 eaf_229 (fun b h => h.1)
      have u_231 : G_228.1 113 = (G.1 113) := by rw [eaf_229]; exact u_217
      have w_232 : G_228.2.1 b0 = (G.2.1 b0) := by rw [eaf_229]; exact (aset_ne (ne_kd k_b0 hmk.2.2.2.1 (by decide))).trans w_218
      have w_233 : G_228.2.1 rl = (G.2.1 rl) := by rw [eaf_229]; exact (aset_ne (ne_kd krl hmk.2.2.2.1 (by decide))).trans w_219
      have w_234 : G_228.2.1 (g.2.2 115) = f_229 := by rw [eaf_229]; exact aset_eq
      have u_235 : G_228.2.2 111 = some rl := by rw [eaf_229]; exact u_221
      clear oq hz
      refine lv_aload_n hx hb dX12_isLet_102 rfl (lv_at hl 1 rfl) ?_
      refine lv_aload_n hx hb dX12_isLet_103 rfl (lv_at hl 1 rfl) ?_
      obtain ⟨_, ⟨rfl, t_237, hk_238⟩, o_c_236⟩ := hH h0 _ k_h0
      refine hg_get hx hb hG igX12 hown hK o_c_236 rfl 11 (by decide) (hG _ mw_1295) rfl dX12_isLet_104 ?_
      rw [show va_rf (G_228.2.2 111) = Value.ref rl by rw [u_235]; rfl]
      refine lv_aload_n hx hb dX12_isLet_107 rfl (lv_at hl 1 rfl) ?_
      refine hg_get hx hb hG igX12 hown hK o_c_236 rfl 13 (by decide) (hG _ mw_1297) rfl dX12_isLet_108 ?_
      rw [u_231]
      refine lv_bipush (v := 40) hx hb dX12_isLet_111 (by decide) ?_
      refine va_callv (va_runV (As := [.ref rl, .int (G.1 113), .int 40]) (rest := []) ⟨hx, hb, hml, hown, hts⟩ (c_X12_begin_r l g Ty G_228 H.size h0 rl (G.1 113) 40 k_h0 krl) (cwV 3 hts (gwV mw_1439 mw_1441 mw_33 mw_88 mw_1442) rfl rfl rfl hv_X12_begin ⟨Nat.le_of_ble_eq_true rfl, Nat.le_of_ble_eq_true rfl⟩) ⟨PcT_blind, hg_recv hK o_c_236 rfl, PcT_pre hK hH⟩ rfl rfl hl.1 rfl (lv_room (Nat.le_of_ble_eq_true rfl)) dX12_isLet_113 ⟨Nat.zero_le _, Nat.zero_le _⟩) hS (fun q _ h => AF.mono hS.1 h) (fun q h => AF.mono hS.1 h) (fun ux_239 t H locs ht hvm hx_239 hB hz hk hS => ?_)
      obtain ⟨eTx_239, eGx_239⟩ := hx_239
      obtain ⟨G_240, eG_240⟩ : ∃ z, z = ux_239.2 := ⟨_, rfl⟩
      rw [← eG_240] at eGx_239
      have hfr_241 := beg_fr eGx_239
      have fr_242 : FR [107, 108, 109, 110, 114] [(g.2.2 115)] [106] G G_240 := FR.tr fr_230 hfr_241 (by decide) (fun _ _ => trivial) (by decide)
      have u_243 : G_240.1 113 = (G.1 113) := (hfr_241.1 113 (by decide)).trans u_231
      have w_244 : G_240.2.1 b0 = (G.2.1 b0) := (hfr_241.2.1 b0 trivial).trans w_232
      have w_245 : G_240.2.1 rl = (G.2.1 rl) := (hfr_241.2.1 rl trivial).trans w_233
      have w_246 : G_240.2.1 (g.2.2 115) = f_229 := (hfr_241.2.1 (g.2.2 115) trivial).trans w_234
      have u_247 : G_240.2.2 111 = some rl := (hfr_241.2.2 111 (by decide)).trans u_235
      have u_248 : G_240.1 107 = (G.1 113) := beg_107 eGx_239
      have u_249 : G_240.1 108 = 40 := beg_108 eGx_239
      have u_250 : G_240.1 109 = 0 := beg_109 eGx_239
      have u_251 : G_240.1 110 = (-1) := beg_110 eGx_239
      have u_252 : G_240.2.2 106 = some rl := beg_106 eGx_239
      have hH : HT g Ty G_240 H := by rw [← ht, ← eTx_239, eG_240]; exact hB
      refine lv_aload_n hx hb dX12_isLet_116 rfl (lv_at hl 1 rfl) ?_
      refine lv_iconst (v := 1) hx hb dX12_isLet_117 (by decide) ?_
      obtain ⟨_, ⟨rfl, t_254, hk_255⟩, o_c_253⟩ := hH h0 _ k_h0
      refine hg_put (ty := .boolean) hx hb hG igX12 tyX12 tyX12_ok nmX12 hown hK hS o_c_253 (AF.of k_h0) rfl 14 (by decide) (hG _ mw_1298) rfl (by decide +kernel) (by rfl) (by rfl) (Nat.le_of_ble_eq_true rfl) dX12_isLet_118 (fun H locs o_c_253 hz oq hS => ?_)
      obtain ⟨G_256, eG_256⟩ : ∃ z : Gh, z = gset G_240 114 1 := ⟨_, rfl⟩
      have hH : HT g Ty G_256 H := by rw [eG_256]; exact HT.putN 114 1 hH k_h0 ⟨rfl, t_254, hk_255⟩ o_c_253 oq (Or.inr (Or.inr (Or.inr (Or.inr (Or.inr ⟨by decide, t_254⟩)))))
      have fr_257 : FR [107, 108, 109, 110, 114] [(g.2.2 115)] [106] G G_256 := FR.n fr_242 eG_256 (by decide)
      have u_258 : G_256.1 113 = (G.1 113) := by rw [eG_256]; exact (gs_ne (by decide)).trans u_243
      have u_259 : G_256.1 107 = (G.1 113) := by rw [eG_256]; exact (gs_ne (by decide)).trans u_248
      have u_260 : G_256.1 108 = 40 := by rw [eG_256]; exact (gs_ne (by decide)).trans u_249
      have u_261 : G_256.1 109 = 0 := by rw [eG_256]; exact (gs_ne (by decide)).trans u_250
      have u_262 : G_256.1 110 = (-1) := by rw [eG_256]; exact (gs_ne (by decide)).trans u_251
      have u_263 : G_256.1 114 = 1 := by rw [eG_256]; exact gs_eq
      have w_264 : G_256.2.1 b0 = (G.2.1 b0) := by rw [eG_256]; exact w_244
      have w_265 : G_256.2.1 rl = (G.2.1 rl) := by rw [eG_256]; exact w_245
      have w_266 : G_256.2.1 (g.2.2 115) = f_229 := by rw [eG_256]; exact w_246
      have u_267 : G_256.2.2 111 = some rl := by rw [eG_256]; exact u_247
      have u_268 : G_256.2.2 106 = some rl := by rw [eG_256]; exact u_252
      clear oq hz
      refine lv_aload_n hx hb dX12_isLet_121 rfl (lv_at hl 1 rfl) ?_
      refine lv_iconst (v := 0) hx hb dX12_isLet_122 (by decide) ?_
      obtain ⟨_, ⟨rfl, t_270, hk_271⟩, o_c_269⟩ := hH h0 _ k_h0
      refine va_calli (va_runV (As := [.int 0]) (rest := []) ⟨hx, hb, hml, hown, hts⟩ (c_X12_held l g 82 (c_X12_thing l g 82) Ty G_256 H.size h0 0 k_h0 rl 40 (G.2.1 rl) (pick7 x_10 x_23 0 a1 a2 x_212 x_225) (G.1 113) 40 1 40 0 (-1) ⟨u_268, krl, w_265, (fun i hi => by rw [w_266]; exact ask_ok ef_13 ef_27 ef_176 ef_188 ef_200 ef_215 ef_229 i hi), u_259, u_260, u_263, u_261, u_262, hr3, by decide, Or.inl hr3.2, by decide, by decide, by decide, by decide⟩ (by decide)) (cwV 1 hts (gwV mw_1443 mw_1445 mw_34 mw_88 mw_1446) rfl rfl rfl hv_X12_held ⟨Nat.le_of_ble_eq_true rfl, Nat.le_of_ble_eq_true rfl⟩) ⟨PcT_blind, hg_recv hK o_c_269 rfl, PcT_pre hK hH⟩ rfl rfl hl.1 rfl (lv_room (Nat.le_of_ble_eq_true rfl)) dX12_isLet_123 ⟨Nat.zero_le _, Nat.zero_le _⟩) hS (fun q _ h => AF.mono hS.1 h) (fun q h => AF.mono hS.1 h) (fun x_272 ux_272 t H locs ht hvm hx_272 hB hz hk hS => ?_)
      obtain ⟨eTx_272, eGx_272⟩ := hx_272
      obtain ⟨G_273, eG_273⟩ : ∃ z, z = ux_272.2 := ⟨_, rfl⟩
      rw [← eG_273] at eGx_272
      obtain ⟨hr_274, hg_275, hm_276, hq_277⟩ := eGx_272
      have hfr_278 : FR [109, 110] [] [] G_256 G_273 := FR.ps FR.rf hg_275 (by decide) (by decide)
      have fr_279 : FR [107, 108, 109, 110, 114] [(g.2.2 115)] [106] G G_273 := FR.tr fr_257 hfr_278 (by decide) (fun _ _ => trivial) (by decide)
      have u_280 : G_273.1 113 = (G.1 113) := (hfr_278.1 113 (by decide)).trans u_258
      have u_281 : G_273.1 107 = (G.1 113) := (hfr_278.1 107 (by decide)).trans u_259
      have u_282 : G_273.1 108 = 40 := (hfr_278.1 108 (by decide)).trans u_260
      have u_283 : G_273.1 114 = 1 := (hfr_278.1 114 (by decide)).trans u_263
      have w_284 : G_273.2.1 b0 = (G.2.1 b0) := (hfr_278.2.1 b0 trivial).trans w_264
      have w_285 : G_273.2.1 rl = (G.2.1 rl) := (hfr_278.2.1 rl trivial).trans w_265
      have w_286 : G_273.2.1 (g.2.2 115) = f_229 := (hfr_278.2.1 (g.2.2 115) trivial).trans w_266
      have u_287 : G_273.2.2 111 = some rl := (hfr_278.2.2 111 (by decide)).trans u_267
      have u_288 : G_273.2.2 106 = some rl := (hfr_278.2.2 106 (by decide)).trans u_268
      have hH : HT g Ty G_273 H := by rw [← ht, ← eTx_272, eG_273]; exact hB
      refine lv_istore (lv' := [(5, .int x_272), (4, .int x_8), (0, .ref h0), (1, .ref b0), (2, .int a1), (3, .int a2)]) hx hb dX12_isLet_126 hl (by decide) rfl (fun ls hl => ?_)
      refine lv_aload_n hx hb dX12_isLet_128 rfl (lv_at hl 2 rfl) ?_
      refine lv_iconst (v := 0) hx hb dX12_isLet_129 (by decide) ?_
      obtain ⟨_, ⟨rfl, t_290, hk_291⟩, o_c_289⟩ := hH h0 _ k_h0
      refine hg_put (ty := .boolean) hx hb hG igX12 tyX12 tyX12_ok nmX12 hown hK hS o_c_289 (AF.of k_h0) rfl 14 (by decide) (hG _ mw_1298) rfl (by decide +kernel) (by rfl) (by rfl) (Nat.le_of_ble_eq_true rfl) dX12_isLet_130 (fun H locs o_c_289 hz oq hS => ?_)
      obtain ⟨G_292, eG_292⟩ : ∃ z : Gh, z = gset G_273 114 0 := ⟨_, rfl⟩
      have hH : HT g Ty G_292 H := by rw [eG_292]; exact HT.putN 114 0 hH k_h0 ⟨rfl, t_290, hk_291⟩ o_c_289 oq (Or.inr (Or.inr (Or.inr (Or.inr (Or.inr ⟨by decide, t_290⟩)))))
      have fr_293 : FR [107, 108, 109, 110, 114] [(g.2.2 115)] [106] G G_292 := FR.n fr_279 eG_292 (by decide)
      have u_294 : G_292.1 113 = (G.1 113) := by rw [eG_292]; exact (gs_ne (by decide)).trans u_280
      have u_295 : G_292.1 107 = (G.1 113) := by rw [eG_292]; exact (gs_ne (by decide)).trans u_281
      have u_296 : G_292.1 108 = 40 := by rw [eG_292]; exact (gs_ne (by decide)).trans u_282
      have u_297 : G_292.1 114 = 0 := by rw [eG_292]; exact gs_eq
      have w_298 : G_292.2.1 b0 = (G.2.1 b0) := by rw [eG_292]; exact w_284
      have w_299 : G_292.2.1 rl = (G.2.1 rl) := by rw [eG_292]; exact w_285
      have w_300 : G_292.2.1 (g.2.2 115) = f_229 := by rw [eG_292]; exact w_286
      have u_301 : G_292.2.2 111 = some rl := by rw [eG_292]; exact u_287
      have u_302 : G_292.2.2 106 = some rl := by rw [eG_292]; exact u_288
      clear oq hz
      refine lv_iload hx hb dX12_isLet_133 (lv_at hl 0 rfl) ?_
      refine lv_if_le (tgt := 142) hx hb dX12_isLet_135 (by decide) (fun c_303 => ?_) (fun c_303 => ?_)
      · have r_304 : rgI (-2147483648) (0) x_272 := rg_w (rg_leL (rg_top x_272) rl_0 c_303) (by decide) (by decide)
        refine lv_iconst (v := 0) hx hb dX12_isLet_142 (by decide) ?_
        exact W.zret hx hb hr rfl (fun t ht hWm => ⟨⟨0, (Ty, G_292), rfl, ⟨⟨rg_w rl_0 (by decide) (by decide), let_2 c_4 (ask_eq hx_10.2 ex_24 (by rw [← gq_9, if_pos c_37]) (by rw [ex_212, ex_211]; rfl) ex_226) hr_274 c_303⟩, ⟨rfl, fr_293⟩⟩, by show HT g Ty G_292 t.heap; rw [ht]; exact hH⟩, hS.F ht⟩) hS.2.2 dX12_isLet_143
      · have r_305 : rgI (1) (2147483647) x_272 := rg_w (rg_ltR rl_0 (rg_top x_272) (nle_lt c_303)) (by decide) (by decide)
        refine lv_iconst (v := 1) hx hb dX12_isLet_138 (by decide) ?_
        refine lv_goto (tgt := 143) hx hb dX12_isLet_139 (by decide) ?_
        exact W.zret hx hb hr rfl (fun t ht hWm => ⟨⟨1, (Ty, G_292), rfl, ⟨⟨rg_w rl_1 (by decide) (by decide), let_1 c_4 (ask_eq hx_10.2 ex_24 (by rw [← gq_9, if_pos c_37]) (by rw [ex_212, ex_211]; rfl) ex_226) hr_274 c_303⟩, ⟨rfl, fr_293⟩⟩, by show HT g Ty G_292 t.heap; rw [ht]; exact hH⟩, hS.F ht⟩) hS.2.2 dX12_isLet_143
  · have r_306 : rgI (0) (0) (G.1 113) := rg_w (rg_eq rl_0 c_4) (by decide) (by decide)
    refine lv_iconst (v := 1) hx hb dX12_isLet_7 (by decide) ?_
    exact W.zret hx hb hr rfl (fun t ht hWm => ⟨⟨1, (Ty, G), rfl, ⟨⟨rg_w rl_1 (by decide) (by decide), let_0 c_4⟩, ⟨rfl, FR.rf⟩⟩, by show HT g Ty G t.heap; rw [ht]; exact hH⟩, hS.F ht⟩) hS.2.2 dX12_isLet_8
