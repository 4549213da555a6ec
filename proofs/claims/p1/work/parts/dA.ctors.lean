set_option maxHeartbeats 4000000 in
set_option maxRecDepth 100000 in
theorem c_X10_init_n (l : Launch) (g : Gx) (Ty : TyM) (G : Gh) (sz h0 : Nat) (hno : Ty h0 = none) (hg : h0 = g.2.2 0) (hp1 : g.2.2 70 = sz) (hp2 : g.2.2 71 = sz + 1) (hp3 : g.2.2 72 = sz + 2) (e20 : G.1 20 = 1) (e21 : G.1 21 = 0) (e22 : G.1 22 = 0) (e23 : G.1 23 = 1) (ew0 : G.2.1 sz = P0) (ew1 : G.2.1 (sz + 1) = fun _ => 0) (ew2 : G.2.1 (sz + 2) = fun _ => 0) : Met l yX10_init (wsG yX10_init cX10_init 2 none) ({ frames := 1, cells := 3, slots := 72, locals := 12 }) (PcC g Ty G sz h0 (.inr (10, [.null, .null, .null, .int 0, .int 0, .int 0, .int 0])) [.ref h0]) (QcC g (tset (tset (tset (tset Ty (sz + 1) (30, 24)) (sz + 2) (30, 24)) sz (30, 24)) h0 (24, 0)) G sz h0 3) 3 72 (AN h0 sz) := by
  refine Met.ofW (cc := cX10_init) (maxL := 2) (ret := none) (by decide) rfl ?_
  intro p e s m args below meth c s₁ B hml hv
  obtain ⟨rfl, hsz, hK, hH, o_0⟩ := hv
  have hH0 := hH
  subst hsz
  have hx := B.exec
  have hb := B.bytes
  have hr := B.returns
  have hts := atoms_spec (ws := (wsG yX10_init cX10_init 2 none)) B.pre
  have hG : ∀ w ∈ GW, w.before ([.ref h0] : List Value).toArray s = true := fun w h => hts w (List.mem_cons_of_mem _ h)
  have hown : s.vm.findClass RX10 = some m.cls := findClass_of_methodNamed B.named
  have hlocks := B.notSynchronized
  have hl := lv_entry [.ref h0] (n := 2) (Nat.le_of_ble_eq_true rfl)
  rw [lg_entry_eq]
  generalize (lg_sl [.ref h0] ++ List.replicate (2 - (lg_sl [.ref h0]).length) Slot.unset).toArray = ls at hl ⊢
  have hl : lv_has ls 2 [(0, .ref h0)] := hl
  have hS : va_S (AN h0 s.heap.size) s.heap s.heap [] := va_S.rf
  have hin : meth.name = "<init>" := (name_of_methodNamed B.named B.method).1
  have hlt : h0 < s.heap.size := o_0.lt
  have z_0 : s.heap.size = s.heap.size + 0 := rfl
  refine lv_aload_n hx hb dX10_init_0 rfl (lv_at hl 0 rfl) ?_
  refine W.objInit hx hb hown (hG _ mw_114) (hG _ mw_107) (hG _ mw_108) rfl (by rw [hml]; exact hl.1) rfl dX10_init_1 (Nat.le_of_ble_eq_true rfl) (Nat.le_of_ble_eq_true rfl) ?_
  refine lv_aload_n hx hb dX10_init_4 rfl (lv_at hl 0 rfl) ?_
  refine lv_bipush (v := 24) hx hb dX10_init_5 (by decide) ?_
  refine hg_newi (N := 24) hx hb (hG _ mw_145) hK hS (by decide) (by decide) (by decide) (Nat.le_of_ble_eq_true rfl) (Nat.le_of_ble_eq_true rfl) dX10_init_7 (fun H o_1 z_2 p_3 hS => ?_)
  have o_0 := o_0.kept (p_3 h0 o_0.lt)
  have hH : HT g Ty G H := hH.more p_3
  clear p_3
  refine hg_putF (ty := (.array .int)) hx hb hG igX10 tyX10 tyX10_ok nmX10 hown hK hS o_0 (Or.inl rfl) rfl 0 (by decide) (hG _ mw_115) rfl hin rfl (by decide +kernel) rfl rfl (Nat.le_of_ble_eq_true rfl) dX10_init_9 (fun H locs o_0 hz oq hS => ?_)
  have o_0 : va_at g.1 vwCl (h0, .inr (10, [.ref s.heap.size, .null, .null, .int 0, .int 0, .int 0, .int 0])) H := o_0
  have hH : HT g Ty G H := hH.raw hno oq
  have o_1 := o_1.kept (oq _ (Ne.symm (Nat.ne_of_lt hlt)))
  have z_4 : H.size = s.heap.size + 1 := hz.trans z_2
  clear hz oq
  refine lv_aload_n hx hb dX10_init_12 rfl (lv_at hl 0 rfl) ?_
  refine lv_bipush (v := 24) hx hb dX10_init_13 (by decide) ?_
  refine hg_newi (N := 24) hx hb (hG _ mw_145) hK hS (by decide) (by decide) (by decide) (Nat.le_of_ble_eq_true rfl) (Nat.le_of_ble_eq_true rfl) dX10_init_15 (fun H o_5 z_6 p_7 hS => ?_)
  rw [z_4] at o_5 z_6
  rw [z_4]
  have o_0 := o_0.kept (p_7 h0 o_0.lt)
  have o_1 := o_1.kept (p_7 _ o_1.lt)
  have hH : HT g (tset Ty (s.heap.size + 1) (30, 24)) G H := hH.grow (Nat.le_of_eq z_4) p_7 o_5 (by show _ = _; rw [ew1])
  have hno_8 : (tset Ty (s.heap.size + 1) (30, 24)) h0 = none := (ts_ne (ne_lo hlt)).trans hno
  clear p_7
  refine hg_putF (ty := (.array .int)) hx hb hG igX10 tyX10 tyX10_ok nmX10 hown hK hS o_0 (Or.inl rfl) rfl 1 (by decide) (hG _ mw_116) rfl hin rfl (by decide +kernel) rfl rfl (Nat.le_of_ble_eq_true rfl) dX10_init_17 (fun H locs o_0 hz oq hS => ?_)
  have o_0 : va_at g.1 vwCl (h0, .inr (10, [.ref s.heap.size, .ref (s.heap.size + 1), .null, .int 0, .int 0, .int 0, .int 0])) H := o_0
  have hH : HT g (tset Ty (s.heap.size + 1) (30, 24)) G H := hH.raw hno_8 oq
  have o_1 := o_1.kept (oq _ (Ne.symm (Nat.ne_of_lt hlt)))
  have z_9 : H.size = s.heap.size + 2 := hz.trans z_6
  clear hz oq
  refine lv_aload_n hx hb dX10_init_20 rfl (lv_at hl 0 rfl) ?_
  refine lv_bipush (v := 24) hx hb dX10_init_21 (by decide) ?_
  refine hg_newi (N := 24) hx hb (hG _ mw_145) hK hS (by decide) (by decide) (by decide) (Nat.le_of_ble_eq_true rfl) (Nat.le_of_ble_eq_true rfl) dX10_init_23 (fun H o_10 z_11 p_12 hS => ?_)
  rw [z_9] at o_10 z_11
  rw [z_9]
  have o_0 := o_0.kept (p_12 h0 o_0.lt)
  have o_1 := o_1.kept (p_12 _ o_1.lt)
  have hH : HT g (tset (tset Ty (s.heap.size + 1) (30, 24)) (s.heap.size + 2) (30, 24)) G H := hH.grow (Nat.le_of_eq z_9) p_12 o_10 (by show _ = _; rw [ew2])
  have hno_13 : (tset (tset Ty (s.heap.size + 1) (30, 24)) (s.heap.size + 2) (30, 24)) h0 = none := (ts_ne (ne_lo hlt)).trans hno_8
  clear p_12
  refine hg_putF (ty := (.array .int)) hx hb hG igX10 tyX10 tyX10_ok nmX10 hown hK hS o_0 (Or.inl rfl) rfl 2 (by decide) (hG _ mw_117) rfl hin rfl (by decide +kernel) rfl rfl (Nat.le_of_ble_eq_true rfl) dX10_init_25 (fun H locs o_0 hz oq hS => ?_)
  have o_0 : va_at g.1 vwCl (h0, .inr (10, [.ref s.heap.size, .ref (s.heap.size + 1), .ref (s.heap.size + 2), .int 0, .int 0, .int 0, .int 0])) H := o_0
  have hH : HT g (tset (tset Ty (s.heap.size + 1) (30, 24)) (s.heap.size + 2) (30, 24)) G H := hH.raw hno_13 oq
  have o_1 := o_1.kept (oq _ (Ne.symm (Nat.ne_of_lt hlt)))
  have z_14 : H.size = s.heap.size + 3 := hz.trans z_11
  clear hz oq
  refine lv_aload_n hx hb dX10_init_28 rfl (lv_at hl 0 rfl) ?_
  refine lv_iconst (v := 1) hx hb dX10_init_29 (by decide) ?_
  refine hg_put (ty := .int) hx hb hG igX10 tyX10 tyX10_ok nmX10 hown hK hS o_0 (Or.inl rfl) rfl 3 (by decide) (hG _ mw_118) rfl (by decide +kernel) rfl rfl (Nat.le_of_ble_eq_true rfl) dX10_init_30 (fun H locs o_0 hz oq hS => ?_)
  have o_0 : va_at g.1 vwCl (h0, .inr (10, [.ref s.heap.size, .ref (s.heap.size + 1), .ref (s.heap.size + 2), .int 1, .int 0, .int 0, .int 0])) H := o_0
  have hH : HT g (tset (tset Ty (s.heap.size + 1) (30, 24)) (s.heap.size + 2) (30, 24)) G H := hH.raw hno_13 oq
  have o_1 := o_1.kept (oq _ (Ne.symm (Nat.ne_of_lt hlt)))
  have z_15 : H.size = s.heap.size + 3 := hz.trans z_14
  clear hz oq
  refine lv_aload_n hx hb dX10_init_33 rfl (lv_at hl 0 rfl) ?_
  refine lv_iconst (v := 1) hx hb dX10_init_34 (by decide) ?_
  refine hg_put (ty := .int) hx hb hG igX10 tyX10 tyX10_ok nmX10 hown hK hS o_0 (Or.inl rfl) rfl 6 (by decide) (hG _ mw_128) rfl (by decide +kernel) rfl rfl (Nat.le_of_ble_eq_true rfl) dX10_init_35 (fun H locs o_0 hz oq hS => ?_)
  have o_0 : va_at g.1 vwCl (h0, .inr (10, [.ref s.heap.size, .ref (s.heap.size + 1), .ref (s.heap.size + 2), .int 1, .int 0, .int 0, .int 1])) H := o_0
  have hH : HT g (tset (tset Ty (s.heap.size + 1) (30, 24)) (s.heap.size + 2) (30, 24)) G H := hH.raw hno_13 oq
  have o_1 := o_1.kept (oq _ (Ne.symm (Nat.ne_of_lt hlt)))
  have z_16 : H.size = s.heap.size + 3 := hz.trans z_15
  clear hz oq
  have hf0 : Ty s.heap.size = none := hH0.free (Nat.le_refl _)
  have hfn : (tset (tset Ty (s.heap.size + 1) (30, 24)) (s.heap.size + 2) (30, 24)) s.heap.size = none := ((ts_ne (ad_0 (by decide))).trans ((ts_ne (ad_0 (by decide))).trans hf0))
  have L_40 : ∀ (n : Nat) (H : Heap) (locs : List Loc) (y1 : Int32) (f : Nat → Int32) (ls : Array Slot), rgI (0) (24) y1 → NWk f y1.toNatClampNeg → (24 - y1.toInt).toNat < n → lv_has ls 2 [(1, .int y1), (0, .ref h0)] → HT g (tset (tset Ty (s.heap.size + 1) (30, 24)) (s.heap.size + 2) (30, 24)) G H → va_at g.1 vwCl (h0, .inr (10, [.ref s.heap.size, .ref (s.heap.size + 1), .ref (s.heap.size + 2), .int 1, .int 0, .int 0, .int 1])) H → va_at g.1 vwCl (s.heap.size, .inl (g.2.1 1, 24, .inl f)) H → H.size = s.heap.size + 3 → va_S (AN h0 s.heap.size) s.heap H locs → W p l e (headSpec (wsG yX10_init cX10_init 2 none) ({ frames := 1, cells := 3, slots := 72, locals := 12 })).room s m [.ref h0].toArray below meth c H locs 3 72 (MQ below (QcC g (tset (tset (tset (tset Ty (s.heap.size + 1) (30, 24)) (s.heap.size + 2) (30, 24)) s.heap.size (30, 24)) h0 (24, 0)) G s.heap.size h0 3) [.ref h0].toArray s 3 72 (AN h0 s.heap.size)) (F0 m 40 ls []) := by
    intro n
    induction n with
    | zero => intro H locs y1 f ls ry hw hm; exact absurd hm (Nat.not_lt_zero _)
    | succ n ih =>
      intro H locs y1 f ls ry hw hm hl hH o_0 oa hz hS
      refine lv_iload_n hx hb dX10_init_40 rfl (lv_at hl 0 rfl) ?_
      refine lv_bipush (v := 24) hx hb dX10_init_41 (by decide) ?_
      refine lv_icmp_ge (tgt := 59) hx hb dX10_init_43 (by decide) (fun c1 => ?_) (fun c1 => ?_)
      · have r24 : rgI 24 24 y1 := ⟨fz_le.mp c1, ry.2⟩
        rw [NWk_P0 hw r24, ← ew0] at oa
        have hH : HT g (tset (tset (tset Ty (s.heap.size + 1) (30, 24)) (s.heap.size + 2) (30, 24)) s.heap.size (30, 24)) G H := HT.type hH hfn oa rfl
        have hn1 : (tset (tset (tset Ty (s.heap.size + 1) (30, 24)) (s.heap.size + 2) (30, 24)) s.heap.size (30, 24)) h0 = none := (ts_ne (Nat.ne_of_lt hlt)).trans hno_13
        have hH : HT g (tset (tset (tset (tset Ty (s.heap.size + 1) (30, 24)) (s.heap.size + 2) (30, 24)) s.heap.size (30, 24)) h0 (24, 0)) G H := HT.type hH hn1 o_0 ⟨by rw [hp1, hp2, hp3, e20, e21, e22, e23], by rw [hp1]; exact (ts_up (Ne.symm (Nat.ne_of_lt hlt)) ts_eq), by rw [hp2]; exact (ts_up (Ne.symm (ne_lo hlt)) (ts_up (Ne.symm (ad_0 (by decide))) (ts_up (ad_ne (by decide)) ts_eq))), by rw [hp3]; exact (ts_up (Ne.symm (ne_lo hlt)) (ts_up (Ne.symm (ad_0 (by decide))) ts_eq)), hg⟩
        exact W.vret hx hb hr (fun t ht hWm => ⟨⟨(), rfl, trivial, by show HT g (tset (tset (tset (tset Ty (s.heap.size + 1) (30, 24)) (s.heap.size + 2) (30, 24)) s.heap.size (30, 24)) h0 (24, 0)) G t.heap ∧ t.heap.size = s.heap.size + 3; rw [ht]; exact ⟨hH, hz⟩⟩, hS.F ht⟩) hS.2.2 dX10_init_59
      · have r1 : rgI (0) (23) y1 := rg_w (rg_ltL ry rl_24 (nle_lt c1)) (by decide) (by decide)
        refine lv_aload_n hx hb dX10_init_46 rfl (lv_at hl 1 rfl) ?_
        refine hg_get hx hb hG igX10 hown hK o_0 rfl 0 (by decide) (hG _ mw_115) rfl dX10_init_47 ?_
        refine lv_iload_n hx hb dX10_init_50 rfl (lv_at hl 0 rfl) ?_
        refine lv_iconst (v := (-1)) hx hb dX10_init_51 (by decide) ?_
        refine hg_iast hx hb hK hS oa (Or.inr (Nat.le_refl _)) (rg_in (n := 24) r1 (by decide) (by decide)) dX10_init_52 (fun H locs oa hz2 oq hS => ?_)
        have hH : HT g (tset (tset Ty (s.heap.size + 1) (30, 24)) (s.heap.size + 2) (30, 24)) G H := hH.raw hfn oq
        have o_0 := o_0.kept (oq h0 (Nat.ne_of_lt hlt))
        obtain ⟨x, ex⟩ : ∃ y : Int32, y = y1 + 1 := ⟨_, rfl⟩
        have rx : rgI (1) (24) x := by rw [ex]; exact rg_w (rg_add r1 rl_1 (by decide) (by decide)) (by decide) (by decide)
        have qx : x.toInt = y1.toInt + 1 := by rw [ex]; exact rg_addE r1 rl_1 (by decide) (by decide)
        refine lv_iinc (v := x) (lv' := [(1, .int x), (0, .ref h0)]) hx hb dX10_init_53 hl (k := 0) rfl (by rw [ex]; rfl) (by decide) rfl (fun ls hl => ?_)
        refine lv_goto (tgt := 40) hx hb dX10_init_56 (by decide) ?_
        exact ih H locs x _ ls (rg_w rx (by decide) (by decide)) (NWk_s hw r1 qx) (by have h3 := r1.1; have h4 := r1.2; omega) hl hH o_0 oa (hz2.trans hz) hS
  refine lv_iconst (v := 0) hx hb dX10_init_38 (by decide) ?_
  refine lv_istore_n (lv' := [(1, .int 0), (0, .ref h0)]) hx hb dX10_init_39 rfl hl (by decide) rfl (fun ls hl => ?_)
  exact L_40 25 H locs 0 _ ls ⟨by decide, by decide⟩ NWk_0 (by decide) hl hH o_0 o_1 z_16 hS

set_option maxHeartbeats 4000000 in
set_option maxRecDepth 100000 in
theorem c_X4_init (l : Launch) (g : Gx) (Ty : TyM) (G : Gh) (sz h0 : Nat) (hno : Ty h0 = none) (hg : h0 = g.2.2 2) (e28 : G.1 28 = 0) : Met l yX4_init (wsG yX4_init cX4_init 1 none) ({ frames := 1, cells := 1, slots := 12, locals := 12 }) (PcA g Ty G sz h0 (.inr (4, [.null, .int 0, .int 0])) [.ref h0]) (QcC g (tset (tset Ty sz (4, 12)) h0 (14, 0)) G sz h0 1) 1 12 (AN h0 sz) := by
  refine Met.ofW (cc := cX4_init) (maxL := 1) (ret := none) (by decide) rfl ?_
  intro p e s m args below meth c s₁ B hml hv
  obtain ⟨rfl, hsz, hK, hAO, hH, o_0⟩ := hv
  subst hsz
  have hx := B.exec
  have hb := B.bytes
  have hr := B.returns
  have hts := atoms_spec (ws := (wsG yX4_init cX4_init 1 none)) B.pre
  have hG : ∀ w ∈ GW, w.before ([.ref h0] : List Value).toArray s = true := fun w h => hts w (List.mem_cons_of_mem _ h)
  have hown : s.vm.findClass RX4 = some m.cls := findClass_of_methodNamed B.named
  have hlocks := B.notSynchronized
  have hl := lv_entry [.ref h0] (n := 1) (Nat.le_of_ble_eq_true rfl)
  rw [lg_entry_eq]
  generalize (lg_sl [.ref h0] ++ List.replicate (1 - (lg_sl [.ref h0]).length) Slot.unset).toArray = ls at hl ⊢
  have hl : lv_has ls 1 [(0, .ref h0)] := hl
  have hS : va_S (AN h0 s.heap.size) s.heap s.heap [] := va_S.rf
  have hin : meth.name = "<init>" := (name_of_methodNamed B.named B.method).1
  have hlt : h0 < s.heap.size := o_0.lt
  have z_0 : s.heap.size = s.heap.size + 0 := rfl
  refine lv_aload_n hx hb dX4_init_0 rfl (lv_at hl 0 rfl) ?_
  refine W.objInit hx hb hown (hG _ mw_151) (hG _ mw_107) (hG _ mw_108) rfl (by rw [hml]; exact hl.1) rfl dX4_init_1 (Nat.le_of_ble_eq_true rfl) (Nat.le_of_ble_eq_true rfl) ?_
  refine lv_aload_n hx hb dX4_init_4 rfl (lv_at hl 0 rfl) ?_
  refine lv_bipush (v := 12) hx hb dX4_init_5 (by decide) ?_
  refine hg_newq (N := 12) hx hb hown (hG _ mw_152) hAO hK hS (by decide) (by decide) (by decide) (Nat.le_of_ble_eq_true rfl) (Nat.le_of_ble_eq_true rfl) dX4_init_7 (fun H o_1 z_2 p_3 hS => ?_)
  have o_0 := o_0.kept (p_3 h0 o_0.lt)
  have hH : HT g (tset Ty s.heap.size (4, 12)) G H := hH.grow (Nat.le_of_eq z_0) p_3 o_1 ⟨_, rfl, fun j t q => by cases q⟩
  have hno_4 : (tset Ty s.heap.size (4, 12)) h0 = none := (ts_ne (Nat.ne_of_lt hlt)).trans hno
  clear p_3
  refine hg_putF (ty := (.array (.object "MountPeers$Tree"))) hx hb hG igX4 tyX4 tyX4_ok nmX4 hown hK hS o_0 (Or.inl rfl) rfl 0 (by decide) (hG _ mw_154) rfl hin rfl (by decide +kernel) rfl rfl (Nat.le_of_ble_eq_true rfl) dX4_init_10 (fun H locs o_0 hz oq hS => ?_)
  have o_0 : va_at g.1 vwCl (h0, .inr (4, [.ref s.heap.size, .int 0, .int 0])) H := o_0
  have hH : HT g (tset Ty s.heap.size (4, 12)) G H := hH.raw hno_4 oq
  have z_5 : H.size = s.heap.size + 1 := hz.trans z_2
  clear hz oq
  have hH : HT g (tset (tset Ty s.heap.size (4, 12)) h0 (14, 0)) G H := HT.type hH hno_4 o_0 ⟨_, _, by rw [e28], (ts_up (Ne.symm (Nat.ne_of_lt hlt)) ts_eq), hg⟩
  exact W.vret hx hb hr (fun t ht hWm => ⟨⟨(), rfl, trivial, by show HT g (tset (tset Ty s.heap.size (4, 12)) h0 (14, 0)) G t.heap ∧ t.heap.size = s.heap.size + 1; rw [ht]; exact ⟨hH, z_5⟩⟩, hS.F ht⟩) hS.2.2 dX4_init_13

set_option maxHeartbeats 4000000 in
set_option maxRecDepth 100000 in
theorem c_X7_init (l : Launch) (g : Gx) (Ty : TyM) (G : Gh) (sz h0 : Nat) (hno : Ty h0 = none) (hg : h0 = g.2.2 5) (e27 : G.1 27 = 0) : Met l yX7_init (wsG yX7_init cX7_init 1 none) ({ frames := 1, cells := 1, slots := 24, locals := 12 }) (PcC g Ty G sz h0 (.inr (7, [.null, .int 0])) [.ref h0]) (QcC g (tset (tset Ty sz (1, 24)) h0 (17, 0)) G sz h0 1) 1 24 (AN h0 sz) := by
  refine Met.ofW (cc := cX7_init) (maxL := 1) (ret := none) (by decide) rfl ?_
  intro p e s m args below meth c s₁ B hml hv
  obtain ⟨rfl, hsz, hK, hH, o_0⟩ := hv
  subst hsz
  have hx := B.exec
  have hb := B.bytes
  have hr := B.returns
  have hts := atoms_spec (ws := (wsG yX7_init cX7_init 1 none)) B.pre
  have hG : ∀ w ∈ GW, w.before ([.ref h0] : List Value).toArray s = true := fun w h => hts w (List.mem_cons_of_mem _ h)
  have hown : s.vm.findClass RX7 = some m.cls := findClass_of_methodNamed B.named
  have hlocks := B.notSynchronized
  have hl := lv_entry [.ref h0] (n := 1) (Nat.le_of_ble_eq_true rfl)
  rw [lg_entry_eq]
  generalize (lg_sl [.ref h0] ++ List.replicate (1 - (lg_sl [.ref h0]).length) Slot.unset).toArray = ls at hl ⊢
  have hl : lv_has ls 1 [(0, .ref h0)] := hl
  have hS : va_S (AN h0 s.heap.size) s.heap s.heap [] := va_S.rf
  have hin : meth.name = "<init>" := (name_of_methodNamed B.named B.method).1
  have hlt : h0 < s.heap.size := o_0.lt
  have z_0 : s.heap.size = s.heap.size + 0 := rfl
  refine lv_aload_n hx hb dX7_init_0 rfl (lv_at hl 0 rfl) ?_
  refine W.objInit hx hb hown (hG _ mw_186) (hG _ mw_107) (hG _ mw_108) rfl (by rw [hml]; exact hl.1) rfl dX7_init_1 (Nat.le_of_ble_eq_true rfl) (Nat.le_of_ble_eq_true rfl) ?_
  refine lv_aload_n hx hb dX7_init_4 rfl (lv_at hl 0 rfl) ?_
  refine lv_bipush (v := 24) hx hb dX7_init_5 (by decide) ?_
  refine hg_newl (N := 24) hx hb (hG _ mw_195) hK hS (by decide) (by decide) (by decide) (Nat.le_of_ble_eq_true rfl) (Nat.le_of_ble_eq_true rfl) dX7_init_7 (fun H o_1 z_2 p_3 hS => ?_)
  have o_0 := o_0.kept (p_3 h0 o_0.lt)
  have hH : HT g (tset Ty s.heap.size (1, 24)) G H := hH.grow (Nat.le_of_eq z_0) p_3 o_1 ⟨_, rfl⟩
  have hno_4 : (tset Ty s.heap.size (1, 24)) h0 = none := (ts_ne (Nat.ne_of_lt hlt)).trans hno
  clear p_3
  refine hg_putF (ty := (.array .long)) hx hb hG igX7 tyX7 tyX7_ok nmX7 hown hK hS o_0 (Or.inl rfl) rfl 0 (by decide) (hG _ mw_187) rfl hin rfl (by decide +kernel) rfl rfl (Nat.le_of_ble_eq_true rfl) dX7_init_9 (fun H locs o_0 hz oq hS => ?_)
  have o_0 : va_at g.1 vwCl (h0, .inr (7, [.ref s.heap.size, .int 0])) H := o_0
  have hH : HT g (tset Ty s.heap.size (1, 24)) G H := hH.raw hno_4 oq
  have z_5 : H.size = s.heap.size + 1 := hz.trans z_2
  clear hz oq
  have hH : HT g (tset (tset Ty s.heap.size (1, 24)) h0 (17, 0)) G H := HT.type hH hno_4 o_0 ⟨_, by rw [e27], (ts_up (Ne.symm (Nat.ne_of_lt hlt)) ts_eq), by rw [e27]; exact ⟨by decide, by decide⟩, hg⟩
  exact W.vret hx hb hr (fun t ht hWm => ⟨⟨(), rfl, trivial, by show HT g (tset (tset Ty s.heap.size (1, 24)) h0 (17, 0)) G t.heap ∧ t.heap.size = s.heap.size + 1; rw [ht]; exact ⟨hH, z_5⟩⟩, hS.F ht⟩) hS.2.2 dX7_init_12

set_option maxHeartbeats 4000000 in
set_option maxRecDepth 100000 in
theorem c_X8_init (l : Launch) (g : Gx) (Ty : TyM) (G : Gh) (sz h0 : Nat) (hno : Ty h0 = none) (hg : h0 = g.2.2 6) (e24 : G.1 24 = 0) : Met l yX8_init (wsG yX8_init cX8_init 1 none) ({ frames := 1, cells := 4, slots := 127, locals := 12 }) (PcC g Ty G sz h0 (.inr (8, [.null, .int 0, .null, .int 0, .int 0, .int 0, .int 0, .int 0, .null, .null])) [.ref h0]) (QcC g (tset (tset (tset (tset (tset Ty sz (0, 40)) (sz + 1) (0, 40)) (sz + 2) (0, 7)) (sz + 3) (0, 40)) h0 (18, 0)) G sz h0 4) 4 127 (AN h0 sz) := by
  refine Met.ofW (cc := cX8_init) (maxL := 1) (ret := none) (by decide) rfl ?_
  intro p e s m args below meth c s₁ B hml hv
  obtain ⟨rfl, hsz, hK, hH, o_0⟩ := hv
  subst hsz
  have hx := B.exec
  have hb := B.bytes
  have hr := B.returns
  have hts := atoms_spec (ws := (wsG yX8_init cX8_init 1 none)) B.pre
  have hG : ∀ w ∈ GW, w.before ([.ref h0] : List Value).toArray s = true := fun w h => hts w (List.mem_cons_of_mem _ h)
  have hown : s.vm.findClass RX8 = some m.cls := findClass_of_methodNamed B.named
  have hlocks := B.notSynchronized
  have hl := lv_entry [.ref h0] (n := 1) (Nat.le_of_ble_eq_true rfl)
  rw [lg_entry_eq]
  generalize (lg_sl [.ref h0] ++ List.replicate (1 - (lg_sl [.ref h0]).length) Slot.unset).toArray = ls at hl ⊢
  have hl : lv_has ls 1 [(0, .ref h0)] := hl
  have hS : va_S (AN h0 s.heap.size) s.heap s.heap [] := va_S.rf
  have hin : meth.name = "<init>" := (name_of_methodNamed B.named B.method).1
  have hlt : h0 < s.heap.size := o_0.lt
  have z_0 : s.heap.size = s.heap.size + 0 := rfl
  refine lv_aload_n hx hb dX8_init_0 rfl (lv_at hl 0 rfl) ?_
  refine W.objInit hx hb hown (hG _ mw_201) (hG _ mw_107) (hG _ mw_108) rfl (by rw [hml]; exact hl.1) rfl dX8_init_1 (Nat.le_of_ble_eq_true rfl) (Nat.le_of_ble_eq_true rfl) ?_
  refine lv_aload_n hx hb dX8_init_4 rfl (lv_at hl 0 rfl) ?_
  refine lv_bipush (v := 40) hx hb dX8_init_5 (by decide) ?_
  refine hg_newi (N := 40) hx hb (hG _ mw_145) hK hS (by decide) (by decide) (by decide) (Nat.le_of_ble_eq_true rfl) (Nat.le_of_ble_eq_true rfl) dX8_init_7 (fun H o_1 z_2 p_3 hS => ?_)
  have o_0 := o_0.kept (p_3 h0 o_0.lt)
  have hH : HT g (tset Ty s.heap.size (0, 40)) G H := hH.grow (Nat.le_of_eq z_0) p_3 o_1 ⟨_, rfl⟩
  have hno_4 : (tset Ty s.heap.size (0, 40)) h0 = none := (ts_ne (Nat.ne_of_lt hlt)).trans hno
  clear p_3
  refine hg_putF (ty := (.array .int)) hx hb hG igX8 tyX8 tyX8_ok nmX8 hown hK hS o_0 (Or.inl rfl) rfl 0 (by decide) (hG _ mw_202) rfl hin rfl (by decide +kernel) rfl rfl (Nat.le_of_ble_eq_true rfl) dX8_init_9 (fun H locs o_0 hz oq hS => ?_)
  have o_0 : va_at g.1 vwCl (h0, .inr (8, [.ref s.heap.size, .int 0, .null, .int 0, .int 0, .int 0, .int 0, .int 0, .null, .null])) H := o_0
  have hH : HT g (tset Ty s.heap.size (0, 40)) G H := hH.raw hno_4 oq
  have z_5 : H.size = s.heap.size + 1 := hz.trans z_2
  clear hz oq
  refine lv_aload_n hx hb dX8_init_12 rfl (lv_at hl 0 rfl) ?_
  refine lv_bipush (v := 40) hx hb dX8_init_13 (by decide) ?_
  refine hg_newi (N := 40) hx hb (hG _ mw_145) hK hS (by decide) (by decide) (by decide) (Nat.le_of_ble_eq_true rfl) (Nat.le_of_ble_eq_true rfl) dX8_init_15 (fun H o_6 z_7 p_8 hS => ?_)
  rw [z_5] at o_6 z_7
  rw [z_5]
  have o_0 := o_0.kept (p_8 h0 o_0.lt)
  have hH : HT g (tset (tset Ty s.heap.size (0, 40)) (s.heap.size + 1) (0, 40)) G H := hH.grow (Nat.le_of_eq z_5) p_8 o_6 ⟨_, rfl⟩
  have hno_9 : (tset (tset Ty s.heap.size (0, 40)) (s.heap.size + 1) (0, 40)) h0 = none := (ts_ne (ne_lo hlt)).trans hno_4
  clear p_8
  refine hg_putF (ty := (.array .int)) hx hb hG igX8 tyX8 tyX8_ok nmX8 hown hK hS o_0 (Or.inl rfl) rfl 2 (by decide) (hG _ mw_204) rfl hin rfl (by decide +kernel) rfl rfl (Nat.le_of_ble_eq_true rfl) dX8_init_17 (fun H locs o_0 hz oq hS => ?_)
  have o_0 : va_at g.1 vwCl (h0, .inr (8, [.ref s.heap.size, .int 0, .ref (s.heap.size + 1), .int 0, .int 0, .int 0, .int 0, .int 0, .null, .null])) H := o_0
  have hH : HT g (tset (tset Ty s.heap.size (0, 40)) (s.heap.size + 1) (0, 40)) G H := hH.raw hno_9 oq
  have z_10 : H.size = s.heap.size + 2 := hz.trans z_7
  clear hz oq
  refine lv_aload_n hx hb dX8_init_20 rfl (lv_at hl 0 rfl) ?_
  refine lv_bipush (v := 7) hx hb dX8_init_21 (by decide) ?_
  refine hg_newi (N := 7) hx hb (hG _ mw_145) hK hS (by decide) (by decide) (by decide) (Nat.le_of_ble_eq_true rfl) (Nat.le_of_ble_eq_true rfl) dX8_init_23 (fun H o_11 z_12 p_13 hS => ?_)
  rw [z_10] at o_11 z_12
  rw [z_10]
  have o_0 := o_0.kept (p_13 h0 o_0.lt)
  have hH : HT g (tset (tset (tset Ty s.heap.size (0, 40)) (s.heap.size + 1) (0, 40)) (s.heap.size + 2) (0, 7)) G H := hH.grow (Nat.le_of_eq z_10) p_13 o_11 ⟨_, rfl⟩
  have hno_14 : (tset (tset (tset Ty s.heap.size (0, 40)) (s.heap.size + 1) (0, 40)) (s.heap.size + 2) (0, 7)) h0 = none := (ts_ne (ne_lo hlt)).trans hno_9
  clear p_13
  refine hg_putF (ty := (.array .int)) hx hb hG igX8 tyX8 tyX8_ok nmX8 hown hK hS o_0 (Or.inl rfl) rfl 8 (by decide) (hG _ mw_210) rfl hin rfl (by decide +kernel) rfl rfl (Nat.le_of_ble_eq_true rfl) dX8_init_25 (fun H locs o_0 hz oq hS => ?_)
  have o_0 : va_at g.1 vwCl (h0, .inr (8, [.ref s.heap.size, .int 0, .ref (s.heap.size + 1), .int 0, .int 0, .int 0, .int 0, .int 0, .ref (s.heap.size + 2), .null])) H := o_0
  have hH : HT g (tset (tset (tset Ty s.heap.size (0, 40)) (s.heap.size + 1) (0, 40)) (s.heap.size + 2) (0, 7)) G H := hH.raw hno_14 oq
  have z_15 : H.size = s.heap.size + 3 := hz.trans z_12
  clear hz oq
  refine lv_aload_n hx hb dX8_init_28 rfl (lv_at hl 0 rfl) ?_
  refine lv_bipush (v := 40) hx hb dX8_init_29 (by decide) ?_
  refine hg_newi (N := 40) hx hb (hG _ mw_145) hK hS (by decide) (by decide) (by decide) (Nat.le_of_ble_eq_true rfl) (Nat.le_of_ble_eq_true rfl) dX8_init_31 (fun H o_16 z_17 p_18 hS => ?_)
  rw [z_15] at o_16 z_17
  rw [z_15]
  have o_0 := o_0.kept (p_18 h0 o_0.lt)
  have hH : HT g (tset (tset (tset (tset Ty s.heap.size (0, 40)) (s.heap.size + 1) (0, 40)) (s.heap.size + 2) (0, 7)) (s.heap.size + 3) (0, 40)) G H := hH.grow (Nat.le_of_eq z_15) p_18 o_16 ⟨_, rfl⟩
  have hno_19 : (tset (tset (tset (tset Ty s.heap.size (0, 40)) (s.heap.size + 1) (0, 40)) (s.heap.size + 2) (0, 7)) (s.heap.size + 3) (0, 40)) h0 = none := (ts_ne (ne_lo hlt)).trans hno_14
  clear p_18
  refine hg_putF (ty := (.array .int)) hx hb hG igX8 tyX8 tyX8_ok nmX8 hown hK hS o_0 (Or.inl rfl) rfl 9 (by decide) (hG _ mw_211) rfl hin rfl (by decide +kernel) rfl rfl (Nat.le_of_ble_eq_true rfl) dX8_init_33 (fun H locs o_0 hz oq hS => ?_)
  have o_0 : va_at g.1 vwCl (h0, .inr (8, [.ref s.heap.size, .int 0, .ref (s.heap.size + 1), .int 0, .int 0, .int 0, .int 0, .int 0, .ref (s.heap.size + 2), .ref (s.heap.size + 3)])) H := o_0
  have hH : HT g (tset (tset (tset (tset Ty s.heap.size (0, 40)) (s.heap.size + 1) (0, 40)) (s.heap.size + 2) (0, 7)) (s.heap.size + 3) (0, 40)) G H := hH.raw hno_19 oq
  have z_20 : H.size = s.heap.size + 4 := hz.trans z_17
  clear hz oq
  have hH : HT g (tset (tset (tset (tset (tset Ty s.heap.size (0, 40)) (s.heap.size + 1) (0, 40)) (s.heap.size + 2) (0, 7)) (s.heap.size + 3) (0, 40)) h0 (18, 0)) G H := HT.type hH hno_19 o_0 ⟨_, _, _, _, _, _, _, _, _, by rw [e24], (ts_up (Ne.symm (Nat.ne_of_lt hlt)) (ts_up (ad_0 (by decide)) (ts_up (ad_0 (by decide)) (ts_up (ad_0 (by decide)) ts_eq)))), (ts_up (Ne.symm (ne_lo hlt)) (ts_up (ad_ne (by decide)) (ts_up (ad_ne (by decide)) ts_eq))), (ts_up (Ne.symm (ne_lo hlt)) (ts_up (ad_ne (by decide)) ts_eq)), (ts_up (Ne.symm (ne_lo hlt)) ts_eq), by rw [e24]; exact ⟨by decide, by decide⟩, ⟨by decide, by decide⟩, hg⟩
  exact W.vret hx hb hr (fun t ht hWm => ⟨⟨(), rfl, trivial, by show HT g (tset (tset (tset (tset (tset Ty s.heap.size (0, 40)) (s.heap.size + 1) (0, 40)) (s.heap.size + 2) (0, 7)) (s.heap.size + 3) (0, 40)) h0 (18, 0)) G t.heap ∧ t.heap.size = s.heap.size + 4; rw [ht]; exact ⟨hH, z_20⟩⟩, hS.F ht⟩) hS.2.2 dX8_init_36

set_option maxHeartbeats 4000000 in
set_option maxRecDepth 100000 in
theorem c_X0_init (l : Launch) (g : Gx) (Ty : TyM) (G : Gh) (sz h0 : Nat) (b0 : Nat) (b1 : Nat) (hno : Ty h0 = none) (k_b0 : Ty b0 = some (24, 0)) (k_b1 : Ty b1 = some (18, 0)) (hb0 : b0 = g.2.2 0) (hb1 : b1 = g.2.2 6) (hh : g.2.2 73 = sz) (ew0 : G.2.1 sz = fun _ => 0) : Met l yX0_init (wsG yX0_init cX0_init 3 none) ({ frames := 1, cells := 1, slots := 24, locals := 12 }) (PcC g Ty G sz h0 (.inr (0, [.null, .null, .null])) [.ref h0, .ref b0, .ref b1]) (QcC g (tset (tset Ty sz (30, 24)) h0 (10, 0)) G sz h0 1) 1 24 (AN h0 sz) := by
  refine Met.ofW (cc := cX0_init) (maxL := 3) (ret := none) (by decide) rfl ?_
  intro p e s m args below meth c s₁ B hml hv
  obtain ⟨rfl, hsz, hK, hH, o_0⟩ := hv
  subst hsz
  have hx := B.exec
  have hb := B.bytes
  have hr := B.returns
  have hts := atoms_spec (ws := (wsG yX0_init cX0_init 3 none)) B.pre
  have hG : ∀ w ∈ GW, w.before ([.ref h0, .ref b0, .ref b1] : List Value).toArray s = true := fun w h => hts w (List.mem_cons_of_mem _ h)
  have hown : s.vm.findClass RX0 = some m.cls := findClass_of_methodNamed B.named
  have hlocks := B.notSynchronized
  have hl := lv_entry [.ref h0, .ref b0, .ref b1] (n := 3) (Nat.le_of_ble_eq_true rfl)
  rw [lg_entry_eq]
  generalize (lg_sl [.ref h0, .ref b0, .ref b1] ++ List.replicate (3 - (lg_sl [.ref h0, .ref b0, .ref b1]).length) Slot.unset).toArray = ls at hl ⊢
  have hl : lv_has ls 3 [(0, .ref h0), (1, .ref b0), (2, .ref b1)] := hl
  have hS : va_S (AN h0 s.heap.size) s.heap s.heap [] := va_S.rf
  have hin : meth.name = "<init>" := (name_of_methodNamed B.named B.method).1
  have hlt : h0 < s.heap.size := o_0.lt
  have lt_b0 : b0 < s.heap.size := hH.lt k_b0
  have lt_b1 : b1 < s.heap.size := hH.lt k_b1
  have ne_b0 : b0 ≠ h0 := fun q => by rw [q, hno] at k_b0; cases k_b0
  have ne_b1 : b1 ≠ h0 := fun q => by rw [q, hno] at k_b1; cases k_b1
  have z_0 : s.heap.size = s.heap.size + 0 := rfl
  refine lv_aload_n hx hb dX0_init_0 rfl (lv_at hl 0 rfl) ?_
  refine W.objInit hx hb hown (hG _ mw_238) (hG _ mw_107) (hG _ mw_108) rfl (by rw [hml]; exact hl.1) rfl dX0_init_1 (Nat.le_of_ble_eq_true rfl) (Nat.le_of_ble_eq_true rfl) ?_
  refine lv_aload_n hx hb dX0_init_4 rfl (lv_at hl 0 rfl) ?_
  refine lv_bipush (v := 24) hx hb dX0_init_5 (by decide) ?_
  refine hg_newi (N := 24) hx hb (hG _ mw_145) hK hS (by decide) (by decide) (by decide) (Nat.le_of_ble_eq_true rfl) (Nat.le_of_ble_eq_true rfl) dX0_init_7 (fun H o_1 z_2 p_3 hS => ?_)
  have o_0 := o_0.kept (p_3 h0 o_0.lt)
  have hH : HT g (tset Ty s.heap.size (30, 24)) G H := hH.grow (Nat.le_of_eq z_0) p_3 o_1 (by show _ = _; rw [ew0])
  have hno_4 : (tset Ty s.heap.size (30, 24)) h0 = none := (ts_ne (Nat.ne_of_lt hlt)).trans hno
  clear p_3
  refine hg_putF (ty := (.array .int)) hx hb hG igX0 tyX0 tyX0_ok nmX0 hown hK hS o_0 (Or.inl rfl) rfl 2 (by decide) (hG _ mw_241) rfl hin rfl (by decide +kernel) rfl rfl (Nat.le_of_ble_eq_true rfl) dX0_init_9 (fun H locs o_0 hz oq hS => ?_)
  have o_0 : va_at g.1 vwCl (h0, .inr (0, [.null, .null, .ref s.heap.size])) H := o_0
  have hH : HT g (tset Ty s.heap.size (30, 24)) G H := hH.raw hno_4 oq
  have z_5 : H.size = s.heap.size + 1 := hz.trans z_2
  clear hz oq
  refine lv_aload_n hx hb dX0_init_12 rfl (lv_at hl 0 rfl) ?_
  refine lv_aload_n hx hb dX0_init_13 rfl (lv_at hl 1 rfl) ?_
  refine hg_putF (ty := (.object "MountPeers$Tree")) hx hb hG igX0 tyX0 tyX0_ok nmX0 hown hK hS o_0 (Or.inl rfl) rfl 0 (by decide) (hG _ mw_239) rfl hin rfl (by decide +kernel) rfl rfl (Nat.le_of_ble_eq_true rfl) dX0_init_14 (fun H locs o_0 hz oq hS => ?_)
  have o_0 : va_at g.1 vwCl (h0, .inr (0, [.ref b0, .null, .ref s.heap.size])) H := o_0
  have hH : HT g (tset Ty s.heap.size (30, 24)) G H := hH.raw hno_4 oq
  have z_6 : H.size = s.heap.size + 1 := hz.trans z_5
  clear hz oq
  refine lv_aload_n hx hb dX0_init_17 rfl (lv_at hl 0 rfl) ?_
  refine lv_aload_n hx hb dX0_init_18 rfl (lv_at hl 2 rfl) ?_
  refine hg_putF (ty := (.object "MountPeers$Rule")) hx hb hG igX0 tyX0 tyX0_ok nmX0 hown hK hS o_0 (Or.inl rfl) rfl 1 (by decide) (hG _ mw_240) rfl hin rfl (by decide +kernel) rfl rfl (Nat.le_of_ble_eq_true rfl) dX0_init_19 (fun H locs o_0 hz oq hS => ?_)
  have o_0 : va_at g.1 vwCl (h0, .inr (0, [.ref b0, .ref b1, .ref s.heap.size])) H := o_0
  have hH : HT g (tset Ty s.heap.size (30, 24)) G H := hH.raw hno_4 oq
  have z_7 : H.size = s.heap.size + 1 := hz.trans z_6
  clear hz oq
  have hH : HT g (tset (tset Ty s.heap.size (30, 24)) h0 (10, 0)) G H := HT.type hH hno_4 o_0 ⟨by rw [hb0, hb1, hh], by rw [← hb0]; exact (ts_up ne_b0 (ts_up (Nat.ne_of_lt lt_b0) k_b0)), by rw [← hb1]; exact (ts_up ne_b1 (ts_up (Nat.ne_of_lt lt_b1) k_b1)), by rw [hh]; exact (ts_up (Ne.symm (Nat.ne_of_lt hlt)) ts_eq)⟩
  exact W.vret hx hb hr (fun t ht hWm => ⟨⟨(), rfl, trivial, by show HT g (tset (tset Ty s.heap.size (30, 24)) h0 (10, 0)) G t.heap ∧ t.heap.size = s.heap.size + 1; rw [ht]; exact ⟨hH, z_7⟩⟩, hS.F ht⟩) hS.2.2 dX0_init_22

set_option maxHeartbeats 4000000 in
set_option maxRecDepth 100000 in
theorem c_X2_init (l : Launch) (g : Gx) (Ty : TyM) (G : Gh) (sz h0 : Nat) (b0 : Nat) (b1 : Nat) (b2 : Nat) (hno : Ty h0 = none) (k_b0 : Ty b0 = some (24, 0)) (k_b1 : Ty b1 = some (10, 0)) (k_b2 : Ty b2 = some (16, 0)) (hb0 : b0 = g.2.2 0) (hb1 : b1 = g.2.2 8) (hb2 : b2 = g.2.2 9) (hg : h0 = g.2.2 10) (e29 : G.1 29 = 0) : Met l yX2_init (wsG yX2_init cX2_init 4 none) ({ frames := 1, cells := 0, slots := 0, locals := 12 }) (PcC g Ty G sz h0 (.inr (2, [.null, .null, .null, .int 0, .int 0])) [.ref h0, .ref b0, .ref b1, .ref b2]) (QcC g (tset Ty h0 (12, 0)) G sz h0 0) 0 0 (AN h0 sz) := by
  refine Met.ofW (cc := cX2_init) (maxL := 4) (ret := none) (by decide) rfl ?_
  intro p e s m args below meth c s₁ B hml hv
  obtain ⟨rfl, hsz, hK, hH, o_0⟩ := hv
  subst hsz
  have hx := B.exec
  have hb := B.bytes
  have hr := B.returns
  have hts := atoms_spec (ws := (wsG yX2_init cX2_init 4 none)) B.pre
  have hG : ∀ w ∈ GW, w.before ([.ref h0, .ref b0, .ref b1, .ref b2] : List Value).toArray s = true := fun w h => hts w (List.mem_cons_of_mem _ h)
  have hown : s.vm.findClass RX2 = some m.cls := findClass_of_methodNamed B.named
  have hlocks := B.notSynchronized
  have hl := lv_entry [.ref h0, .ref b0, .ref b1, .ref b2] (n := 4) (Nat.le_of_ble_eq_true rfl)
  rw [lg_entry_eq]
  generalize (lg_sl [.ref h0, .ref b0, .ref b1, .ref b2] ++ List.replicate (4 - (lg_sl [.ref h0, .ref b0, .ref b1, .ref b2]).length) Slot.unset).toArray = ls at hl ⊢
  have hl : lv_has ls 4 [(0, .ref h0), (1, .ref b0), (2, .ref b1), (3, .ref b2)] := hl
  have hS : va_S (AN h0 s.heap.size) s.heap s.heap [] := va_S.rf
  have hin : meth.name = "<init>" := (name_of_methodNamed B.named B.method).1
  have hlt : h0 < s.heap.size := o_0.lt
  have lt_b0 : b0 < s.heap.size := hH.lt k_b0
  have lt_b1 : b1 < s.heap.size := hH.lt k_b1
  have lt_b2 : b2 < s.heap.size := hH.lt k_b2
  have ne_b0 : b0 ≠ h0 := fun q => by rw [q, hno] at k_b0; cases k_b0
  have ne_b1 : b1 ≠ h0 := fun q => by rw [q, hno] at k_b1; cases k_b1
  have ne_b2 : b2 ≠ h0 := fun q => by rw [q, hno] at k_b2; cases k_b2
  have z_0 : s.heap.size = s.heap.size + 0 := rfl
  refine lv_aload_n hx hb dX2_init_0 rfl (lv_at hl 0 rfl) ?_
  refine W.objInit hx hb hown (hG _ mw_271) (hG _ mw_107) (hG _ mw_108) rfl (by rw [hml]; exact hl.1) rfl dX2_init_1 (Nat.le_of_ble_eq_true rfl) (Nat.le_of_ble_eq_true rfl) ?_
  refine lv_aload_n hx hb dX2_init_4 rfl (lv_at hl 0 rfl) ?_
  refine lv_aload_n hx hb dX2_init_5 rfl (lv_at hl 1 rfl) ?_
  refine hg_putF (ty := (.object "MountPeers$Tree")) hx hb hG igX2 tyX2 tyX2_ok nmX2 hown hK hS o_0 (Or.inl rfl) rfl 0 (by decide) (hG _ mw_272) rfl hin rfl (by decide +kernel) rfl rfl (Nat.le_of_ble_eq_true rfl) dX2_init_6 (fun H locs o_0 hz oq hS => ?_)
  have o_0 : va_at g.1 vwCl (h0, .inr (2, [.ref b0, .null, .null, .int 0, .int 0])) H := o_0
  have hH : HT g Ty G H := hH.raw hno oq
  have z_1 : H.size = s.heap.size + 0 := hz.trans z_0
  clear hz oq
  refine lv_aload_n hx hb dX2_init_9 rfl (lv_at hl 0 rfl) ?_
  refine lv_aload_n hx hb dX2_init_10 rfl (lv_at hl 2 rfl) ?_
  refine hg_putF (ty := (.object "MountPeers$Acts")) hx hb hG igX2 tyX2 tyX2_ok nmX2 hown hK hS o_0 (Or.inl rfl) rfl 1 (by decide) (hG _ mw_273) rfl hin rfl (by decide +kernel) rfl rfl (Nat.le_of_ble_eq_true rfl) dX2_init_11 (fun H locs o_0 hz oq hS => ?_)
  have o_0 : va_at g.1 vwCl (h0, .inr (2, [.ref b0, .ref b1, .null, .int 0, .int 0])) H := o_0
  have hH : HT g Ty G H := hH.raw hno oq
  have z_2 : H.size = s.heap.size + 0 := hz.trans z_1
  clear hz oq
  refine lv_aload_n hx hb dX2_init_14 rfl (lv_at hl 0 rfl) ?_
  refine lv_aload_n hx hb dX2_init_15 rfl (lv_at hl 3 rfl) ?_
  refine hg_putF (ty := (.object "MountPeers$Path")) hx hb hG igX2 tyX2 tyX2_ok nmX2 hown hK hS o_0 (Or.inl rfl) rfl 2 (by decide) (hG _ mw_274) rfl hin rfl (by decide +kernel) rfl rfl (Nat.le_of_ble_eq_true rfl) dX2_init_16 (fun H locs o_0 hz oq hS => ?_)
  have o_0 : va_at g.1 vwCl (h0, .inr (2, [.ref b0, .ref b1, .ref b2, .int 0, .int 0])) H := o_0
  have hH : HT g Ty G H := hH.raw hno oq
  have z_3 : H.size = s.heap.size + 0 := hz.trans z_2
  clear hz oq
  have hH : HT g (tset Ty h0 (12, 0)) G H := HT.type hH hno o_0 ⟨_, by rw [hb0, hb1, hb2, e29], by rw [← hb0]; exact (ts_up ne_b0 k_b0), by rw [← hb1]; exact (ts_up ne_b1 k_b1), by rw [← hb2]; exact (ts_up ne_b2 k_b2), hg⟩
  exact W.vret hx hb hr (fun t ht hWm => ⟨⟨(), rfl, trivial, by show HT g (tset Ty h0 (12, 0)) G t.heap ∧ t.heap.size = s.heap.size + 0; rw [ht]; exact ⟨hH, z_3⟩⟩, hS.F ht⟩) hS.2.2 dX2_init_19

set_option maxHeartbeats 4000000 in
set_option maxRecDepth 100000 in
theorem c_X3_init (l : Launch) (g : Gx) (Ty : TyM) (G : Gh) (sz h0 : Nat) (b0 : Nat) (hno : Ty h0 = none) (k_b0 : Ty b0 = some (24, 0)) (hb0 : b0 = g.2.2 0) (hh : g.2.2 74 = sz + 2) (hg : h0 = g.2.2 11) (e1 : G.1 1 = 0) (e26 : G.1 26 = 0) (ew2 : G.2.1 (sz + 2) = fun _ => 0) : Met l yX3_init (wsG yX3_init cX3_init 2 none) ({ frames := 1, cells := 3, slots := 48, locals := 12 }) (PcC g Ty G sz h0 (.inr (3, [.null, .null, .null, .int 0, .null, .int 0])) [.ref h0, .ref b0]) (QcC g (tset (tset (tset (tset Ty sz (0, 12)) (sz + 1) (0, 12)) (sz + 2) (30, 24)) h0 (13, 0)) G sz h0 3) 3 48 (AN h0 sz) := by
  refine Met.ofW (cc := cX3_init) (maxL := 2) (ret := none) (by decide) rfl ?_
  intro p e s m args below meth c s₁ B hml hv
  obtain ⟨rfl, hsz, hK, hH, o_0⟩ := hv
  subst hsz
  have hx := B.exec
  have hb := B.bytes
  have hr := B.returns
  have hts := atoms_spec (ws := (wsG yX3_init cX3_init 2 none)) B.pre
  have hG : ∀ w ∈ GW, w.before ([.ref h0, .ref b0] : List Value).toArray s = true := fun w h => hts w (List.mem_cons_of_mem _ h)
  have hown : s.vm.findClass RX3 = some m.cls := findClass_of_methodNamed B.named
  have hlocks := B.notSynchronized
  have hl := lv_entry [.ref h0, .ref b0] (n := 2) (Nat.le_of_ble_eq_true rfl)
  rw [lg_entry_eq]
  generalize (lg_sl [.ref h0, .ref b0] ++ List.replicate (2 - (lg_sl [.ref h0, .ref b0]).length) Slot.unset).toArray = ls at hl ⊢
  have hl : lv_has ls 2 [(0, .ref h0), (1, .ref b0)] := hl
  have hS : va_S (AN h0 s.heap.size) s.heap s.heap [] := va_S.rf
  have hin : meth.name = "<init>" := (name_of_methodNamed B.named B.method).1
  have hlt : h0 < s.heap.size := o_0.lt
  have lt_b0 : b0 < s.heap.size := hH.lt k_b0
  have ne_b0 : b0 ≠ h0 := fun q => by rw [q, hno] at k_b0; cases k_b0
  have z_0 : s.heap.size = s.heap.size + 0 := rfl
  refine lv_aload_n hx hb dX3_init_0 rfl (lv_at hl 0 rfl) ?_
  refine W.objInit hx hb hown (hG _ mw_293) (hG _ mw_107) (hG _ mw_108) rfl (by rw [hml]; exact hl.1) rfl dX3_init_1 (Nat.le_of_ble_eq_true rfl) (Nat.le_of_ble_eq_true rfl) ?_
  refine lv_aload_n hx hb dX3_init_4 rfl (lv_at hl 0 rfl) ?_
  refine lv_bipush (v := 12) hx hb dX3_init_5 (by decide) ?_
  refine hg_newi (N := 12) hx hb (hG _ mw_145) hK hS (by decide) (by decide) (by decide) (Nat.le_of_ble_eq_true rfl) (Nat.le_of_ble_eq_true rfl) dX3_init_7 (fun H o_1 z_2 p_3 hS => ?_)
  have o_0 := o_0.kept (p_3 h0 o_0.lt)
  have hH : HT g (tset Ty s.heap.size (0, 12)) G H := hH.grow (Nat.le_of_eq z_0) p_3 o_1 ⟨_, rfl⟩
  have hno_4 : (tset Ty s.heap.size (0, 12)) h0 = none := (ts_ne (Nat.ne_of_lt hlt)).trans hno
  clear p_3
  refine hg_putF (ty := (.array .int)) hx hb hG igX3 tyX3 tyX3_ok nmX3 hown hK hS o_0 (Or.inl rfl) rfl 1 (by decide) (hG _ mw_295) rfl hin rfl (by decide +kernel) rfl rfl (Nat.le_of_ble_eq_true rfl) dX3_init_9 (fun H locs o_0 hz oq hS => ?_)
  have o_0 : va_at g.1 vwCl (h0, .inr (3, [.null, .ref s.heap.size, .null, .int 0, .null, .int 0])) H := o_0
  have hH : HT g (tset Ty s.heap.size (0, 12)) G H := hH.raw hno_4 oq
  have z_5 : H.size = s.heap.size + 1 := hz.trans z_2
  clear hz oq
  refine lv_aload_n hx hb dX3_init_12 rfl (lv_at hl 0 rfl) ?_
  refine lv_bipush (v := 12) hx hb dX3_init_13 (by decide) ?_
  refine hg_newi (N := 12) hx hb (hG _ mw_145) hK hS (by decide) (by decide) (by decide) (Nat.le_of_ble_eq_true rfl) (Nat.le_of_ble_eq_true rfl) dX3_init_15 (fun H o_6 z_7 p_8 hS => ?_)
  rw [z_5] at o_6 z_7
  rw [z_5]
  have o_0 := o_0.kept (p_8 h0 o_0.lt)
  have hH : HT g (tset (tset Ty s.heap.size (0, 12)) (s.heap.size + 1) (0, 12)) G H := hH.grow (Nat.le_of_eq z_5) p_8 o_6 ⟨_, rfl⟩
  have hno_9 : (tset (tset Ty s.heap.size (0, 12)) (s.heap.size + 1) (0, 12)) h0 = none := (ts_ne (ne_lo hlt)).trans hno_4
  clear p_8
  refine hg_putF (ty := (.array .int)) hx hb hG igX3 tyX3 tyX3_ok nmX3 hown hK hS o_0 (Or.inl rfl) rfl 2 (by decide) (hG _ mw_296) rfl hin rfl (by decide +kernel) rfl rfl (Nat.le_of_ble_eq_true rfl) dX3_init_17 (fun H locs o_0 hz oq hS => ?_)
  have o_0 : va_at g.1 vwCl (h0, .inr (3, [.null, .ref s.heap.size, .ref (s.heap.size + 1), .int 0, .null, .int 0])) H := o_0
  have hH : HT g (tset (tset Ty s.heap.size (0, 12)) (s.heap.size + 1) (0, 12)) G H := hH.raw hno_9 oq
  have z_10 : H.size = s.heap.size + 2 := hz.trans z_7
  clear hz oq
  refine lv_aload_n hx hb dX3_init_20 rfl (lv_at hl 0 rfl) ?_
  refine lv_bipush (v := 24) hx hb dX3_init_21 (by decide) ?_
  refine hg_newi (N := 24) hx hb (hG _ mw_145) hK hS (by decide) (by decide) (by decide) (Nat.le_of_ble_eq_true rfl) (Nat.le_of_ble_eq_true rfl) dX3_init_23 (fun H o_11 z_12 p_13 hS => ?_)
  rw [z_10] at o_11 z_12
  rw [z_10]
  have o_0 := o_0.kept (p_13 h0 o_0.lt)
  have hH : HT g (tset (tset (tset Ty s.heap.size (0, 12)) (s.heap.size + 1) (0, 12)) (s.heap.size + 2) (30, 24)) G H := hH.grow (Nat.le_of_eq z_10) p_13 o_11 (by show _ = _; rw [ew2])
  have hno_14 : (tset (tset (tset Ty s.heap.size (0, 12)) (s.heap.size + 1) (0, 12)) (s.heap.size + 2) (30, 24)) h0 = none := (ts_ne (ne_lo hlt)).trans hno_9
  clear p_13
  refine hg_putF (ty := (.array .int)) hx hb hG igX3 tyX3 tyX3_ok nmX3 hown hK hS o_0 (Or.inl rfl) rfl 4 (by decide) (hG _ mw_299) rfl hin rfl (by decide +kernel) rfl rfl (Nat.le_of_ble_eq_true rfl) dX3_init_25 (fun H locs o_0 hz oq hS => ?_)
  have o_0 : va_at g.1 vwCl (h0, .inr (3, [.null, .ref s.heap.size, .ref (s.heap.size + 1), .int 0, .ref (s.heap.size + 2), .int 0])) H := o_0
  have hH : HT g (tset (tset (tset Ty s.heap.size (0, 12)) (s.heap.size + 1) (0, 12)) (s.heap.size + 2) (30, 24)) G H := hH.raw hno_14 oq
  have z_15 : H.size = s.heap.size + 3 := hz.trans z_12
  clear hz oq
  refine lv_aload_n hx hb dX3_init_28 rfl (lv_at hl 0 rfl) ?_
  refine lv_aload_n hx hb dX3_init_29 rfl (lv_at hl 1 rfl) ?_
  refine hg_putF (ty := (.object "MountPeers$Tree")) hx hb hG igX3 tyX3 tyX3_ok nmX3 hown hK hS o_0 (Or.inl rfl) rfl 0 (by decide) (hG _ mw_294) rfl hin rfl (by decide +kernel) rfl rfl (Nat.le_of_ble_eq_true rfl) dX3_init_30 (fun H locs o_0 hz oq hS => ?_)
  have o_0 : va_at g.1 vwCl (h0, .inr (3, [.ref b0, .ref s.heap.size, .ref (s.heap.size + 1), .int 0, .ref (s.heap.size + 2), .int 0])) H := o_0
  have hH : HT g (tset (tset (tset Ty s.heap.size (0, 12)) (s.heap.size + 1) (0, 12)) (s.heap.size + 2) (30, 24)) G H := hH.raw hno_14 oq
  have z_16 : H.size = s.heap.size + 3 := hz.trans z_15
  clear hz oq
  have hH : HT g (tset (tset (tset (tset Ty s.heap.size (0, 12)) (s.heap.size + 1) (0, 12)) (s.heap.size + 2) (30, 24)) h0 (13, 0)) G H := HT.type hH hno_14 o_0 ⟨_, _, by rw [hb0, hh, e1, e26], by rw [← hb0]; exact (ts_up ne_b0 (ts_up (ne_lo lt_b0) (ts_up (ne_lo lt_b0) (ts_up (Nat.ne_of_lt lt_b0) k_b0)))), (ts_up (Ne.symm (Nat.ne_of_lt hlt)) (ts_up (ad_0 (by decide)) (ts_up (ad_0 (by decide)) ts_eq))), (ts_up (Ne.symm (ne_lo hlt)) (ts_up (ad_ne (by decide)) ts_eq)), by rw [hh]; exact (ts_up (Ne.symm (ne_lo hlt)) ts_eq), by rw [e1]; exact ⟨by decide, by decide⟩, hg⟩
  exact W.vret hx hb hr (fun t ht hWm => ⟨⟨(), rfl, trivial, by show HT g (tset (tset (tset (tset Ty s.heap.size (0, 12)) (s.heap.size + 1) (0, 12)) (s.heap.size + 2) (30, 24)) h0 (13, 0)) G t.heap ∧ t.heap.size = s.heap.size + 3; rw [ht]; exact ⟨hH, z_16⟩⟩, hS.F ht⟩) hS.2.2 dX3_init_33
