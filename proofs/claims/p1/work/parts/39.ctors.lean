set_option maxHeartbeats 4000000 in
set_option maxRecDepth 100000 in
theorem c_X10_init (l : Launch) (g : Gx) (Ty : TyM) (G : Gh) (sz h0 : Nat) (hno : Ty h0 = none) : Met l yX10_init (wsG yX10_init cX10_init 2 none) ({ frames := 1, cells := 3, slots := 72, locals := 12 }) (PcC g Ty G sz h0 (.inr (10, [.null, .null, .null, .int 0, .int 0, .int 0, .int 0])) [.ref h0]) (QcC g (tset (tset (tset (tset Ty sz (0, 24)) (sz + 1) (0, 24)) (sz + 2) (0, 24)) h0 (20, 0)) G sz h0 3) 3 72 (AN h0 sz) := by
  refine Met.ofW (cc := cX10_init) (maxL := 2) (ret := none) (by decide) rfl ?_
  intro p e s m args below meth c s₁ B hml hv
  obtain ⟨rfl, hsz, hK, hH, o_0⟩ := hv
  subst hsz
  have hx := B.exec
  have hb := B.bytes
  have hr := B.returns
  have hts := atoms_spec (ws := (wsG yX10_init cX10_init 2 none)) B.pre
  have hG : ∀ w ∈ GW, w.before ([.ref h0] : List Value).toArray s = true := fun w h => hts w (List.mem_cons_of_mem _ h)
  have hown : s.vm.findClass RX10 = some m.cls := findClass_of_methodNamed B.named
  have hlocks := B.notSynchronized
  have hl := lv_entry [.ref h0] (n := 2) (Nat.le_of_ble_eq_true rfl)
  rw [lg_entry_eq]
  generalize (lg_sl [.ref h0] ++ List.replicate (2 - (lg_sl [.ref h0]).length) Slot.unset).toArray = ls at hl ⊢
  have hl : lv_has ls 2 [(0, .ref h0)] := hl
  have hS : va_S (AN h0 s.heap.size) s.heap s.heap [] := va_S.rf
  have hin : meth.name = "<init>" := (name_of_methodNamed B.named B.method).1
  have hlt : h0 < s.heap.size := o_0.lt
  have z_0 : s.heap.size = s.heap.size + 0 := rfl
  refine lv_aload_n hx hb dX10_init_0 rfl (lv_at hl 0 rfl) ?_
  refine W.objInit hx hb hown (hG _ mw_114) (hG _ mw_107) (hG _ mw_108) rfl (by rw [hml]; exact hl.1) rfl dX10_init_1 (Nat.le_of_ble_eq_true rfl) (Nat.le_of_ble_eq_true rfl) ?_
  refine lv_aload_n hx hb dX10_init_4 rfl (lv_at hl 0 rfl) ?_
  refine lv_bipush (v := 24) hx hb dX10_init_5 (by decide) ?_
  refine hg_newi (N := 24) hx hb (hG _ mw_145) hK hS (by decide) (by decide) (by decide) (Nat.le_of_ble_eq_true rfl) (Nat.le_of_ble_eq_true rfl) dX10_init_7 (fun H o_1 z_2 p_3 hS => ?_)
  have o_0 := o_0.kept (p_3 h0 o_0.lt)
  have hH : HT g (tset Ty s.heap.size (0, 24)) G H := hH.grow (Nat.le_of_eq z_0) p_3 o_1 ⟨_, rfl⟩
  have hno_4 : (tset Ty s.heap.size (0, 24)) h0 = none := (ts_ne (Nat.ne_of_lt hlt)).trans hno
  clear p_3
  refine hg_putF (ty := (.array .int)) hx hb hG igX10 tyX10 tyX10_ok nmX10 hown hK hS o_0 (Or.inl rfl) rfl 0 (by decide) (hG _ mw_115) rfl hin rfl (by decide +kernel) rfl rfl (Nat.le_of_ble_eq_true rfl) dX10_init_9 (fun H locs o_0 hz oq hS => ?_)
  have o_0 : va_at g.1 vwCl (h0, .inr (10, [.ref s.heap.size, .null, .null, .int 0, .int 0, .int 0, .int 0])) H := o_0
  have hH : HT g (tset Ty s.heap.size (0, 24)) G H := hH.raw hno_4 oq
  have z_5 : H.size = s.heap.size + 1 := hz.trans z_2
  clear hz oq
  refine lv_aload_n hx hb dX10_init_12 rfl (lv_at hl 0 rfl) ?_
  refine lv_bipush (v := 24) hx hb dX10_init_13 (by decide) ?_
  refine hg_newi (N := 24) hx hb (hG _ mw_145) hK hS (by decide) (by decide) (by decide) (Nat.le_of_ble_eq_true rfl) (Nat.le_of_ble_eq_true rfl) dX10_init_15 (fun H o_6 z_7 p_8 hS => ?_)
  rw [z_5] at o_6 z_7
  rw [z_5]
  have o_0 := o_0.kept (p_8 h0 o_0.lt)
  have hH : HT g (tset (tset Ty s.heap.size (0, 24)) (s.heap.size + 1) (0, 24)) G H := hH.grow (Nat.le_of_eq z_5) p_8 o_6 ⟨_, rfl⟩
  have hno_9 : (tset (tset Ty s.heap.size (0, 24)) (s.heap.size + 1) (0, 24)) h0 = none := (ts_ne (ne_lo hlt)).trans hno_4
  clear p_8
  refine hg_putF (ty := (.array .int)) hx hb hG igX10 tyX10 tyX10_ok nmX10 hown hK hS o_0 (Or.inl rfl) rfl 1 (by decide) (hG _ mw_116) rfl hin rfl (by decide +kernel) rfl rfl (Nat.le_of_ble_eq_true rfl) dX10_init_17 (fun H locs o_0 hz oq hS => ?_)
  have o_0 : va_at g.1 vwCl (h0, .inr (10, [.ref s.heap.size, .ref (s.heap.size + 1), .null, .int 0, .int 0, .int 0, .int 0])) H := o_0
  have hH : HT g (tset (tset Ty s.heap.size (0, 24)) (s.heap.size + 1) (0, 24)) G H := hH.raw hno_9 oq
  have z_10 : H.size = s.heap.size + 2 := hz.trans z_7
  clear hz oq
  refine lv_aload_n hx hb dX10_init_20 rfl (lv_at hl 0 rfl) ?_
  refine lv_bipush (v := 24) hx hb dX10_init_21 (by decide) ?_
  refine hg_newi (N := 24) hx hb (hG _ mw_145) hK hS (by decide) (by decide) (by decide) (Nat.le_of_ble_eq_true rfl) (Nat.le_of_ble_eq_true rfl) dX10_init_23 (fun H o_11 z_12 p_13 hS => ?_)
  rw [z_10] at o_11 z_12
  rw [z_10]
  have o_0 := o_0.kept (p_13 h0 o_0.lt)
  have hH : HT g (tset (tset (tset Ty s.heap.size (0, 24)) (s.heap.size + 1) (0, 24)) (s.heap.size + 2) (0, 24)) G H := hH.grow (Nat.le_of_eq z_10) p_13 o_11 ⟨_, rfl⟩
  have hno_14 : (tset (tset (tset Ty s.heap.size (0, 24)) (s.heap.size + 1) (0, 24)) (s.heap.size + 2) (0, 24)) h0 = none := (ts_ne (ne_lo hlt)).trans hno_9
  clear p_13
  refine hg_putF (ty := (.array .int)) hx hb hG igX10 tyX10 tyX10_ok nmX10 hown hK hS o_0 (Or.inl rfl) rfl 2 (by decide) (hG _ mw_117) rfl hin rfl (by decide +kernel) rfl rfl (Nat.le_of_ble_eq_true rfl) dX10_init_25 (fun H locs o_0 hz oq hS => ?_)
  have o_0 : va_at g.1 vwCl (h0, .inr (10, [.ref s.heap.size, .ref (s.heap.size + 1), .ref (s.heap.size + 2), .int 0, .int 0, .int 0, .int 0])) H := o_0
  have hH : HT g (tset (tset (tset Ty s.heap.size (0, 24)) (s.heap.size + 1) (0, 24)) (s.heap.size + 2) (0, 24)) G H := hH.raw hno_14 oq
  have z_15 : H.size = s.heap.size + 3 := hz.trans z_12
  clear hz oq
  refine lv_aload_n hx hb dX10_init_28 rfl (lv_at hl 0 rfl) ?_
  refine lv_iconst (v := 1) hx hb dX10_init_29 (by decide) ?_
  refine hg_put (ty := .int) hx hb hG igX10 tyX10 tyX10_ok nmX10 hown hK hS o_0 (Or.inl rfl) rfl 3 (by decide) (hG _ mw_118) rfl (by decide +kernel) rfl rfl (Nat.le_of_ble_eq_true rfl) dX10_init_30 (fun H locs o_0 hz oq hS => ?_)
  have o_0 : va_at g.1 vwCl (h0, .inr (10, [.ref s.heap.size, .ref (s.heap.size + 1), .ref (s.heap.size + 2), .int 1, .int 0, .int 0, .int 0])) H := o_0
  have hH : HT g (tset (tset (tset Ty s.heap.size (0, 24)) (s.heap.size + 1) (0, 24)) (s.heap.size + 2) (0, 24)) G H := hH.raw hno_14 oq
  have z_16 : H.size = s.heap.size + 3 := hz.trans z_15
  clear hz oq
  refine lv_aload_n hx hb dX10_init_33 rfl (lv_at hl 0 rfl) ?_
  refine lv_iconst (v := 1) hx hb dX10_init_34 (by decide) ?_
  refine hg_put (ty := .int) hx hb hG igX10 tyX10 tyX10_ok nmX10 hown hK hS o_0 (Or.inl rfl) rfl 6 (by decide) (hG _ mw_128) rfl (by decide +kernel) rfl rfl (Nat.le_of_ble_eq_true rfl) dX10_init_35 (fun H locs o_0 hz oq hS => ?_)
  have o_0 : va_at g.1 vwCl (h0, .inr (10, [.ref s.heap.size, .ref (s.heap.size + 1), .ref (s.heap.size + 2), .int 1, .int 0, .int 0, .int 1])) H := o_0
  have hH : HT g (tset (tset (tset Ty s.heap.size (0, 24)) (s.heap.size + 1) (0, 24)) (s.heap.size + 2) (0, 24)) G H := hH.raw hno_14 oq
  have z_17 : H.size = s.heap.size + 3 := hz.trans z_16
  clear hz oq
  have L_40 : ∀ (n : Nat) (H : Heap) (locs : List Loc) (y1 : Int32) (f : Nat → Int32) (ls : Array Slot), rgI (0) (24) y1 → (24 - y1.toInt).toNat < n → lv_has ls 2 [(1, .int y1), (0, .ref h0)] → HT g (tset (tset (tset Ty s.heap.size (0, 24)) (s.heap.size + 1) (0, 24)) (s.heap.size + 2) (0, 24)) G H → va_at g.1 vwCl (h0, .inr (10, [.ref s.heap.size, .ref (s.heap.size + 1), .ref (s.heap.size + 2), .int 1, .int 0, .int 0, .int 1])) H → H.size = s.heap.size + 3 → va_S (AN h0 s.heap.size) s.heap H locs → W p l e (headSpec (wsG yX10_init cX10_init 2 none) ({ frames := 1, cells := 3, slots := 72, locals := 12 })).room s m [.ref h0].toArray below meth c H locs 3 72 (MQ below (QcC g (tset (tset (tset (tset Ty s.heap.size (0, 24)) (s.heap.size + 1) (0, 24)) (s.heap.size + 2) (0, 24)) h0 (20, 0)) G s.heap.size h0 3) [.ref h0].toArray s 3 72 (AN h0 s.heap.size)) (F0 m 40 ls []) := by
    intro n
    induction n with
    | zero => intro H locs y1 f ls ry hm; exact absurd hm (Nat.not_lt_zero _)
    | succ n ih =>
      intro H locs y1 f ls ry hm hl hH o_0 hz hS
      refine lv_iload_n hx hb dX10_init_40 rfl (lv_at hl 0 rfl) ?_
      refine lv_bipush (v := 24) hx hb dX10_init_41 (by decide) ?_
      refine lv_icmp_ge (tgt := 59) hx hb dX10_init_43 (by decide) (fun c1 => ?_) (fun c1 => ?_)
      · have hH : HT g (tset (tset (tset (tset Ty s.heap.size (0, 24)) (s.heap.size + 1) (0, 24)) (s.heap.size + 2) (0, 24)) h0 (20, 0)) G H := HT.type hH hno_14 o_0 ⟨s.heap.size, (s.heap.size + 1), (s.heap.size + 2), 1, 0, 0, 1, rfl, (ts_up (Ne.symm (Nat.ne_of_lt hlt)) (ts_up (ad_0 (by decide)) (ts_up (ad_0 (by decide)) ts_eq))), (ts_up (Ne.symm (ne_lo hlt)) (ts_up (ad_ne (by decide)) ts_eq)), (ts_up (Ne.symm (ne_lo hlt)) ts_eq)⟩
        exact W.vret hx hb hr (fun t ht hWm => ⟨⟨(), rfl, trivial, by show HT g (tset (tset (tset (tset Ty s.heap.size (0, 24)) (s.heap.size + 1) (0, 24)) (s.heap.size + 2) (0, 24)) h0 (20, 0)) G t.heap ∧ t.heap.size = s.heap.size + 3; rw [ht]; exact ⟨hH, hz⟩⟩, hS.F ht⟩) hS.2.2 dX10_init_59
      · have r1 : rgI (0) (23) y1 := rg_w (rg_ltL ry rl_24 (nle_lt c1)) (by decide) (by decide)
        refine lv_aload_n hx hb dX10_init_46 rfl (lv_at hl 1 rfl) ?_
        refine hg_get hx hb hG igX10 hown hK o_0 rfl 0 (by decide) (hG _ mw_115) rfl dX10_init_47 ?_
        refine lv_iload_n hx hb dX10_init_50 rfl (lv_at hl 0 rfl) ?_
        refine lv_iconst (v := (-1)) hx hb dX10_init_51 (by decide) ?_
        have ka : (tset (tset (tset Ty s.heap.size (0, 24)) (s.heap.size + 1) (0, 24)) (s.heap.size + 2) (0, 24)) s.heap.size = some (0, 24) := (ts_up (ad_0 (by decide)) (ts_up (ad_0 (by decide)) ts_eq))
        obtain ⟨_, ⟨f1, rfl⟩, oa⟩ := hH s.heap.size _ ka
        refine hg_iast hx hb hK hS oa (Or.inr (Nat.le_refl _)) (rg_in (n := 24) r1 (by decide) (by decide)) dX10_init_52 (fun H locs oa hz2 oq hS => ?_)
        have hH : HT g (tset (tset (tset Ty s.heap.size (0, 24)) (s.heap.size + 1) (0, 24)) (s.heap.size + 2) (0, 24)) G H := hH.put ka ⟨_, rfl⟩ oa oq
        have o_0 := o_0.kept (oq h0 (by omega))
        obtain ⟨x, ex⟩ : ∃ y : Int32, y = y1 + 1 := ⟨_, rfl⟩
        have rx : rgI (1) (24) x := by rw [ex]; exact rg_w (rg_add r1 rl_1 (by decide) (by decide)) (by decide) (by decide)
        have qx : x.toInt = y1.toInt + 1 := by rw [ex]; exact rg_addE r1 rl_1 (by decide) (by decide)
        refine lv_iinc (v := x) (lv' := [(1, .int x), (0, .ref h0)]) hx hb dX10_init_53 hl (k := 0) rfl (by rw [ex]; rfl) (by decide) rfl (fun ls hl => ?_)
        refine lv_goto (tgt := 40) hx hb dX10_init_56 (by decide) ?_
        exact ih H locs x f1 ls (rg_w rx (by decide) (by decide)) (by have h3 := r1.1; have h4 := r1.2; omega) hl hH o_0 (hz2.trans hz) hS
  refine lv_iconst (v := 0) hx hb dX10_init_38 (by decide) ?_
  refine lv_istore_n (lv' := [(1, .int 0), (0, .ref h0)]) hx hb dX10_init_39 rfl hl (by decide) rfl (fun ls hl => ?_)
  exact L_40 25 H locs 0 (fun _ => 0) ls ⟨by decide, by decide⟩ (by decide) hl hH o_0 z_17 hS

set_option maxHeartbeats 4000000 in
set_option maxRecDepth 100000 in
theorem c_X9_init (l : Launch) (g : Gx) (Ty : TyM) (G : Gh) (sz h0 : Nat) (hno : Ty h0 = none) (hg : h0 = g.2.2 4) (e0 : G.1 0 = 0) : Met l yX9_init (wsG yX9_init cX9_init 1 none) ({ frames := 1, cells := 1, slots := 80, locals := 12 }) (PcC g Ty G sz h0 (.inr (9, [.null, .int 0])) [.ref h0]) (QcC g (tset (tset Ty sz (0, 80)) h0 (19, 0)) G sz h0 1) 1 80 (AN h0 sz) := by
  refine Met.ofW (cc := cX9_init) (maxL := 1) (ret := none) (by decide) rfl ?_
  intro p e s m args below meth c s₁ B hml hv
  obtain ⟨rfl, hsz, hK, hH, o_0⟩ := hv
  subst hsz
  have hx := B.exec
  have hb := B.bytes
  have hr := B.returns
  have hts := atoms_spec (ws := (wsG yX9_init cX9_init 1 none)) B.pre
  have hG : ∀ w ∈ GW, w.before ([.ref h0] : List Value).toArray s = true := fun w h => hts w (List.mem_cons_of_mem _ h)
  have hown : s.vm.findClass RX9 = some m.cls := findClass_of_methodNamed B.named
  have hlocks := B.notSynchronized
  have hl := lv_entry [.ref h0] (n := 1) (Nat.le_of_ble_eq_true rfl)
  rw [lg_entry_eq]
  generalize (lg_sl [.ref h0] ++ List.replicate (1 - (lg_sl [.ref h0]).length) Slot.unset).toArray = ls at hl ⊢
  have hl : lv_has ls 1 [(0, .ref h0)] := hl
  have hS : va_S (AN h0 s.heap.size) s.heap s.heap [] := va_S.rf
  have hin : meth.name = "<init>" := (name_of_methodNamed B.named B.method).1
  have hlt : h0 < s.heap.size := o_0.lt
  have z_0 : s.heap.size = s.heap.size + 0 := rfl
  refine lv_aload_n hx hb dX9_init_0 rfl (lv_at hl 0 rfl) ?_
  refine W.objInit hx hb hown (hG _ mw_170) (hG _ mw_107) (hG _ mw_108) rfl (by rw [hml]; exact hl.1) rfl dX9_init_1 (Nat.le_of_ble_eq_true rfl) (Nat.le_of_ble_eq_true rfl) ?_
  refine lv_aload_n hx hb dX9_init_4 rfl (lv_at hl 0 rfl) ?_
  refine lv_bipush (v := 80) hx hb dX9_init_5 (by decide) ?_
  refine hg_newi (N := 80) hx hb (hG _ mw_145) hK hS (by decide) (by decide) (by decide) (Nat.le_of_ble_eq_true rfl) (Nat.le_of_ble_eq_true rfl) dX9_init_7 (fun H o_1 z_2 p_3 hS => ?_)
  have o_0 := o_0.kept (p_3 h0 o_0.lt)
  have hH : HT g (tset Ty s.heap.size (0, 80)) G H := hH.grow (Nat.le_of_eq z_0) p_3 o_1 ⟨_, rfl⟩
  have hno_4 : (tset Ty s.heap.size (0, 80)) h0 = none := (ts_ne (Nat.ne_of_lt hlt)).trans hno
  clear p_3
  refine hg_putF (ty := (.array .int)) hx hb hG igX9 tyX9 tyX9_ok nmX9 hown hK hS o_0 (Or.inl rfl) rfl 0 (by decide) (hG _ mw_171) rfl hin rfl (by decide +kernel) rfl rfl (Nat.le_of_ble_eq_true rfl) dX9_init_9 (fun H locs o_0 hz oq hS => ?_)
  have o_0 : va_at g.1 vwCl (h0, .inr (9, [.ref s.heap.size, .int 0])) H := o_0
  have hH : HT g (tset Ty s.heap.size (0, 80)) G H := hH.raw hno_4 oq
  have z_5 : H.size = s.heap.size + 1 := hz.trans z_2
  clear hz oq
  have hH : HT g (tset (tset Ty s.heap.size (0, 80)) h0 (19, 0)) G H := HT.type hH hno_4 o_0 ⟨s.heap.size, by rw [e0], (ts_up (Ne.symm (Nat.ne_of_lt hlt)) ts_eq), by rw [e0]; exact ⟨by decide, by decide⟩, hg⟩
  exact W.vret hx hb hr (fun t ht hWm => ⟨⟨(), rfl, trivial, by show HT g (tset (tset Ty s.heap.size (0, 80)) h0 (19, 0)) G t.heap ∧ t.heap.size = s.heap.size + 1; rw [ht]; exact ⟨hH, z_5⟩⟩, hS.F ht⟩) hS.2.2 dX9_init_12

set_option maxHeartbeats 4000000 in
set_option maxRecDepth 100000 in
theorem c_X8_init_o (l : Launch) (g : Gx) (Ty : TyM) (G : Gh) (sz h0 : Nat) (hno : Ty h0 = none) (hg : h0 = g.2.2 7) (hw : g.2.2 51 = sz + 1) (e5 : G.1 5 = 0) (e6 : G.1 6 = 0) (ew : G.2.1 (sz + 1) = fun _ => 0) : Met l yX8_init (wsG yX8_init cX8_init 1 none) ({ frames := 1, cells := 4, slots := 127, locals := 12 }) (PcC g Ty G sz h0 (.inr (8, [.null, .int 0, .null, .int 0, .int 0, .int 0, .int 0, .int 0, .null, .null])) [.ref h0]) (QcC g (tset (tset (tset (tset (tset Ty sz (0, 40)) (sz + 1) (30, 40)) (sz + 2) (0, 7)) (sz + 3) (0, 40)) h0 (23, 0)) G sz h0 4) 4 127 (AN h0 sz) := by
  refine Met.ofW (cc := cX8_init) (maxL := 1) (ret := none) (by decide) rfl ?_
  intro p e s m args below meth c s₁ B hml hv
  obtain ⟨rfl, hsz, hK, hH, o_0⟩ := hv
  subst hsz
  have hx := B.exec
  have hb := B.bytes
  have hr := B.returns
  have hts := atoms_spec (ws := (wsG yX8_init cX8_init 1 none)) B.pre
  have hG : ∀ w ∈ GW, w.before ([.ref h0] : List Value).toArray s = true := fun w h => hts w (List.mem_cons_of_mem _ h)
  have hown : s.vm.findClass RX8 = some m.cls := findClass_of_methodNamed B.named
  have hlocks := B.notSynchronized
  have hl := lv_entry [.ref h0] (n := 1) (Nat.le_of_ble_eq_true rfl)
  rw [lg_entry_eq]
  generalize (lg_sl [.ref h0] ++ List.replicate (1 - (lg_sl [.ref h0]).length) Slot.unset).toArray = ls at hl ⊢
  have hl : lv_has ls 1 [(0, .ref h0)] := hl
  have hS : va_S (AN h0 s.heap.size) s.heap s.heap [] := va_S.rf
  have hin : meth.name = "<init>" := (name_of_methodNamed B.named B.method).1
  have hlt : h0 < s.heap.size := o_0.lt
  have z_0 : s.heap.size = s.heap.size + 0 := rfl
  refine lv_aload_n hx hb dX8_init_0 rfl (lv_at hl 0 rfl) ?_
  refine W.objInit hx hb hown (hG _ mw_201) (hG _ mw_107) (hG _ mw_108) rfl (by rw [hml]; exact hl.1) rfl dX8_init_1 (Nat.le_of_ble_eq_true rfl) (Nat.le_of_ble_eq_true rfl) ?_
  refine lv_aload_n hx hb dX8_init_4 rfl (lv_at hl 0 rfl) ?_
  refine lv_bipush (v := 40) hx hb dX8_init_5 (by decide) ?_
  refine hg_newi (N := 40) hx hb (hG _ mw_145) hK hS (by decide) (by decide) (by decide) (Nat.le_of_ble_eq_true rfl) (Nat.le_of_ble_eq_true rfl) dX8_init_7 (fun H o_1 z_2 p_3 hS => ?_)
  have o_0 := o_0.kept (p_3 h0 o_0.lt)
  have hH : HT g (tset Ty s.heap.size (0, 40)) G H := hH.grow (Nat.le_of_eq z_0) p_3 o_1 ⟨_, rfl⟩
  have hno_4 : (tset Ty s.heap.size (0, 40)) h0 = none := (ts_ne (Nat.ne_of_lt hlt)).trans hno
  clear p_3
  refine hg_putF (ty := (.array .int)) hx hb hG igX8 tyX8 tyX8_ok nmX8 hown hK hS o_0 (Or.inl rfl) rfl 0 (by decide) (hG _ mw_202) rfl hin rfl (by decide +kernel) rfl rfl (Nat.le_of_ble_eq_true rfl) dX8_init_9 (fun H locs o_0 hz oq hS => ?_)
  have o_0 : va_at g.1 vwCl (h0, .inr (8, [.ref s.heap.size, .int 0, .null, .int 0, .int 0, .int 0, .int 0, .int 0, .null, .null])) H := o_0
  have hH : HT g (tset Ty s.heap.size (0, 40)) G H := hH.raw hno_4 oq
  have z_5 : H.size = s.heap.size + 1 := hz.trans z_2
  clear hz oq
  refine lv_aload_n hx hb dX8_init_12 rfl (lv_at hl 0 rfl) ?_
  refine lv_bipush (v := 40) hx hb dX8_init_13 (by decide) ?_
  refine hg_newi (N := 40) hx hb (hG _ mw_145) hK hS (by decide) (by decide) (by decide) (Nat.le_of_ble_eq_true rfl) (Nat.le_of_ble_eq_true rfl) dX8_init_15 (fun H o_6 z_7 p_8 hS => ?_)
  rw [z_5] at o_6 z_7
  rw [z_5]
  have o_0 := o_0.kept (p_8 h0 o_0.lt)
  have hH : HT g (tset (tset Ty s.heap.size (0, 40)) (s.heap.size + 1) (30, 40)) G H := hH.grow (Nat.le_of_eq z_5) p_8 o_6 (by show _ = _; rw [ew])
  have hno_9 : (tset (tset Ty s.heap.size (0, 40)) (s.heap.size + 1) (30, 40)) h0 = none := (ts_ne (ne_lo hlt)).trans hno_4
  clear p_8
  refine hg_putF (ty := (.array .int)) hx hb hG igX8 tyX8 tyX8_ok nmX8 hown hK hS o_0 (Or.inl rfl) rfl 2 (by decide) (hG _ mw_204) rfl hin rfl (by decide +kernel) rfl rfl (Nat.le_of_ble_eq_true rfl) dX8_init_17 (fun H locs o_0 hz oq hS => ?_)
  have o_0 : va_at g.1 vwCl (h0, .inr (8, [.ref s.heap.size, .int 0, .ref (s.heap.size + 1), .int 0, .int 0, .int 0, .int 0, .int 0, .null, .null])) H := o_0
  have hH : HT g (tset (tset Ty s.heap.size (0, 40)) (s.heap.size + 1) (30, 40)) G H := hH.raw hno_9 oq
  have z_10 : H.size = s.heap.size + 2 := hz.trans z_7
  clear hz oq
  refine lv_aload_n hx hb dX8_init_20 rfl (lv_at hl 0 rfl) ?_
  refine lv_bipush (v := 7) hx hb dX8_init_21 (by decide) ?_
  refine hg_newi (N := 7) hx hb (hG _ mw_145) hK hS (by decide) (by decide) (by decide) (Nat.le_of_ble_eq_true rfl) (Nat.le_of_ble_eq_true rfl) dX8_init_23 (fun H o_11 z_12 p_13 hS => ?_)
  rw [z_10] at o_11 z_12
  rw [z_10]
  have o_0 := o_0.kept (p_13 h0 o_0.lt)
  have hH : HT g (tset (tset (tset Ty s.heap.size (0, 40)) (s.heap.size + 1) (30, 40)) (s.heap.size + 2) (0, 7)) G H := hH.grow (Nat.le_of_eq z_10) p_13 o_11 ⟨_, rfl⟩
  have hno_14 : (tset (tset (tset Ty s.heap.size (0, 40)) (s.heap.size + 1) (30, 40)) (s.heap.size + 2) (0, 7)) h0 = none := (ts_ne (ne_lo hlt)).trans hno_9
  clear p_13
  refine hg_putF (ty := (.array .int)) hx hb hG igX8 tyX8 tyX8_ok nmX8 hown hK hS o_0 (Or.inl rfl) rfl 8 (by decide) (hG _ mw_210) rfl hin rfl (by decide +kernel) rfl rfl (Nat.le_of_ble_eq_true rfl) dX8_init_25 (fun H locs o_0 hz oq hS => ?_)
  have o_0 : va_at g.1 vwCl (h0, .inr (8, [.ref s.heap.size, .int 0, .ref (s.heap.size + 1), .int 0, .int 0, .int 0, .int 0, .int 0, .ref (s.heap.size + 2), .null])) H := o_0
  have hH : HT g (tset (tset (tset Ty s.heap.size (0, 40)) (s.heap.size + 1) (30, 40)) (s.heap.size + 2) (0, 7)) G H := hH.raw hno_14 oq
  have z_15 : H.size = s.heap.size + 3 := hz.trans z_12
  clear hz oq
  refine lv_aload_n hx hb dX8_init_28 rfl (lv_at hl 0 rfl) ?_
  refine lv_bipush (v := 40) hx hb dX8_init_29 (by decide) ?_
  refine hg_newi (N := 40) hx hb (hG _ mw_145) hK hS (by decide) (by decide) (by decide) (Nat.le_of_ble_eq_true rfl) (Nat.le_of_ble_eq_true rfl) dX8_init_31 (fun H o_16 z_17 p_18 hS => ?_)
  rw [z_15] at o_16 z_17
  rw [z_15]
  have o_0 := o_0.kept (p_18 h0 o_0.lt)
  have hH : HT g (tset (tset (tset (tset Ty s.heap.size (0, 40)) (s.heap.size + 1) (30, 40)) (s.heap.size + 2) (0, 7)) (s.heap.size + 3) (0, 40)) G H := hH.grow (Nat.le_of_eq z_15) p_18 o_16 ⟨_, rfl⟩
  have hno_19 : (tset (tset (tset (tset Ty s.heap.size (0, 40)) (s.heap.size + 1) (30, 40)) (s.heap.size + 2) (0, 7)) (s.heap.size + 3) (0, 40)) h0 = none := (ts_ne (ne_lo hlt)).trans hno_14
  clear p_18
  refine hg_putF (ty := (.array .int)) hx hb hG igX8 tyX8 tyX8_ok nmX8 hown hK hS o_0 (Or.inl rfl) rfl 9 (by decide) (hG _ mw_211) rfl hin rfl (by decide +kernel) rfl rfl (Nat.le_of_ble_eq_true rfl) dX8_init_33 (fun H locs o_0 hz oq hS => ?_)
  have o_0 : va_at g.1 vwCl (h0, .inr (8, [.ref s.heap.size, .int 0, .ref (s.heap.size + 1), .int 0, .int 0, .int 0, .int 0, .int 0, .ref (s.heap.size + 2), .ref (s.heap.size + 3)])) H := o_0
  have hH : HT g (tset (tset (tset (tset Ty s.heap.size (0, 40)) (s.heap.size + 1) (30, 40)) (s.heap.size + 2) (0, 7)) (s.heap.size + 3) (0, 40)) G H := hH.raw hno_19 oq
  have z_20 : H.size = s.heap.size + 4 := hz.trans z_17
  clear hz oq
  have hH : HT g (tset (tset (tset (tset (tset Ty s.heap.size (0, 40)) (s.heap.size + 1) (30, 40)) (s.heap.size + 2) (0, 7)) (s.heap.size + 3) (0, 40)) h0 (23, 0)) G H := HT.type hH hno_19 o_0 ⟨_, _, _, _, _, _, _, by rw [e5, e6, hw], (ts_up (Ne.symm (Nat.ne_of_lt hlt)) (ts_up (ad_0 (by decide)) (ts_up (ad_0 (by decide)) (ts_up (ad_0 (by decide)) ts_eq)))), by rw [hw]; exact (ts_up (Ne.symm (ne_lo hlt)) (ts_up (ad_ne (by decide)) (ts_up (ad_ne (by decide)) ts_eq))), (ts_up (Ne.symm (ne_lo hlt)) (ts_up (ad_ne (by decide)) ts_eq)), (ts_up (Ne.symm (ne_lo hlt)) ts_eq), ⟨by decide, by decide⟩, ⟨by decide, by decide⟩, hg⟩
  exact W.vret hx hb hr (fun t ht hWm => ⟨⟨(), rfl, trivial, by show HT g (tset (tset (tset (tset (tset Ty s.heap.size (0, 40)) (s.heap.size + 1) (30, 40)) (s.heap.size + 2) (0, 7)) (s.heap.size + 3) (0, 40)) h0 (23, 0)) G t.heap ∧ t.heap.size = s.heap.size + 4; rw [ht]; exact ⟨hH, z_20⟩⟩, hS.F ht⟩) hS.2.2 dX8_init_36

set_option maxHeartbeats 4000000 in
set_option maxRecDepth 100000 in
theorem c_X6_init (l : Launch) (g : Gx) (Ty : TyM) (G : Gh) (sz h0 : Nat) (hno : Ty h0 = none) : Met l yX6_init (wsG yX6_init cX6_init 1 none) ({ frames := 1, cells := 0, slots := 0, locals := 12 }) (PcC g Ty G sz h0 (.inr (6, [.int 0, .int 0])) [.ref h0]) (QcC g (tset Ty h0 (16, 0)) G sz h0 0) 0 0 (AN h0 sz) := by
  refine Met.ofW (cc := cX6_init) (maxL := 1) (ret := none) (by decide) rfl ?_
  intro p e s m args below meth c s₁ B hml hv
  obtain ⟨rfl, hsz, hK, hH, o_0⟩ := hv
  subst hsz
  have hx := B.exec
  have hb := B.bytes
  have hr := B.returns
  have hts := atoms_spec (ws := (wsG yX6_init cX6_init 1 none)) B.pre
  have hG : ∀ w ∈ GW, w.before ([.ref h0] : List Value).toArray s = true := fun w h => hts w (List.mem_cons_of_mem _ h)
  have hown : s.vm.findClass RX6 = some m.cls := findClass_of_methodNamed B.named
  have hlocks := B.notSynchronized
  have hl := lv_entry [.ref h0] (n := 1) (Nat.le_of_ble_eq_true rfl)
  rw [lg_entry_eq]
  generalize (lg_sl [.ref h0] ++ List.replicate (1 - (lg_sl [.ref h0]).length) Slot.unset).toArray = ls at hl ⊢
  have hl : lv_has ls 1 [(0, .ref h0)] := hl
  have hS : va_S (AN h0 s.heap.size) s.heap s.heap [] := va_S.rf
  have hin : meth.name = "<init>" := (name_of_methodNamed B.named B.method).1
  have hlt : h0 < s.heap.size := o_0.lt
  have z_0 : s.heap.size = s.heap.size + 0 := rfl
  refine lv_aload_n hx hb dX6_init_0 rfl (lv_at hl 0 rfl) ?_
  refine W.objInit hx hb hown (hG _ mw_254) (hG _ mw_107) (hG _ mw_108) rfl (by rw [hml]; exact hl.1) rfl dX6_init_1 (Nat.le_of_ble_eq_true rfl) (Nat.le_of_ble_eq_true rfl) ?_
  have hH : HT g (tset Ty h0 (16, 0)) G s.heap := HT.type hH hno o_0 ⟨_, _, rfl⟩
  exact W.vret hx hb hr (fun t ht hWm => ⟨⟨(), rfl, trivial, by show HT g (tset Ty h0 (16, 0)) G t.heap ∧ t.heap.size = s.heap.size + 0; rw [ht]; exact ⟨hH, z_0⟩⟩, hS.F ht⟩) hS.2.2 dX6_init_4

set_option maxHeartbeats 4000000 in
set_option maxRecDepth 100000 in
theorem c_X5_init (l : Launch) (g : Gx) (Ty : TyM) (G : Gh) (sz h0 : Nat) (hno : Ty h0 = none) (hg : h0 = g.2.2 12) (hs1 : g.2.2 52 = sz) (hs2 : g.2.2 53 = sz + 1) (hs3 : g.2.2 54 = sz + 2) (e2 : G.1 2 = 0) (ew1 : G.2.1 sz = fun _ => 0) (ew2 : G.2.1 (sz + 1) = fun _ => 0) (ew3 : G.2.1 (sz + 2) = fun _ => 0) : Met l yX5_init (wsG yX5_init cX5_init 1 none) ({ frames := 1, cells := 3, slots := 30, locals := 12 }) (PcC g Ty G sz h0 (.inr (5, [.null, .null, .null, .int 0, .int 0])) [.ref h0]) (QcC g (tset (tset (tset (tset Ty sz (30, 10)) (sz + 1) (30, 10)) (sz + 2) (30, 10)) h0 (15, 0)) G sz h0 3) 3 30 (AN h0 sz) := by
  refine Met.ofW (cc := cX5_init) (maxL := 1) (ret := none) (by decide) rfl ?_
  intro p e s m args below meth c s₁ B hml hv
  obtain ⟨rfl, hsz, hK, hH, o_0⟩ := hv
  subst hsz
  have hx := B.exec
  have hb := B.bytes
  have hr := B.returns
  have hts := atoms_spec (ws := (wsG yX5_init cX5_init 1 none)) B.pre
  have hG : ∀ w ∈ GW, w.before ([.ref h0] : List Value).toArray s = true := fun w h => hts w (List.mem_cons_of_mem _ h)
  have hown : s.vm.findClass RX5 = some m.cls := findClass_of_methodNamed B.named
  have hlocks := B.notSynchronized
  have hl := lv_entry [.ref h0] (n := 1) (Nat.le_of_ble_eq_true rfl)
  rw [lg_entry_eq]
  generalize (lg_sl [.ref h0] ++ List.replicate (1 - (lg_sl [.ref h0]).length) Slot.unset).toArray = ls at hl ⊢
  have hl : lv_has ls 1 [(0, .ref h0)] := hl
  have hS : va_S (AN h0 s.heap.size) s.heap s.heap [] := va_S.rf
  have hin : meth.name = "<init>" := (name_of_methodNamed B.named B.method).1
  have hlt : h0 < s.heap.size := o_0.lt
  have z_0 : s.heap.size = s.heap.size + 0 := rfl
  refine lv_aload_n hx hb dX5_init_0 rfl (lv_at hl 0 rfl) ?_
  refine W.objInit hx hb hown (hG _ mw_320) (hG _ mw_107) (hG _ mw_108) rfl (by rw [hml]; exact hl.1) rfl dX5_init_1 (Nat.le_of_ble_eq_true rfl) (Nat.le_of_ble_eq_true rfl) ?_
  refine lv_aload_n hx hb dX5_init_4 rfl (lv_at hl 0 rfl) ?_
  refine lv_bipush (v := 10) hx hb dX5_init_5 (by decide) ?_
  refine hg_newi (N := 10) hx hb (hG _ mw_145) hK hS (by decide) (by decide) (by decide) (Nat.le_of_ble_eq_true rfl) (Nat.le_of_ble_eq_true rfl) dX5_init_7 (fun H o_1 z_2 p_3 hS => ?_)
  have o_0 := o_0.kept (p_3 h0 o_0.lt)
  have hH : HT g (tset Ty s.heap.size (30, 10)) G H := hH.grow (Nat.le_of_eq z_0) p_3 o_1 (by show _ = _; rw [ew1])
  have hno_4 : (tset Ty s.heap.size (30, 10)) h0 = none := (ts_ne (Nat.ne_of_lt hlt)).trans hno
  clear p_3
  refine hg_putF (ty := (.array .int)) hx hb hG igX5 tyX5 tyX5_ok nmX5 hown hK hS o_0 (Or.inl rfl) rfl 0 (by decide) (hG _ mw_321) rfl hin rfl (by decide +kernel) rfl rfl (Nat.le_of_ble_eq_true rfl) dX5_init_9 (fun H locs o_0 hz oq hS => ?_)
  have o_0 : va_at g.1 vwCl (h0, .inr (5, [.ref s.heap.size, .null, .null, .int 0, .int 0])) H := o_0
  have hH : HT g (tset Ty s.heap.size (30, 10)) G H := hH.raw hno_4 oq
  have z_5 : H.size = s.heap.size + 1 := hz.trans z_2
  clear hz oq
  refine lv_aload_n hx hb dX5_init_12 rfl (lv_at hl 0 rfl) ?_
  refine lv_bipush (v := 10) hx hb dX5_init_13 (by decide) ?_
  refine hg_newi (N := 10) hx hb (hG _ mw_145) hK hS (by decide) (by decide) (by decide) (Nat.le_of_ble_eq_true rfl) (Nat.le_of_ble_eq_true rfl) dX5_init_15 (fun H o_6 z_7 p_8 hS => ?_)
  rw [z_5] at o_6 z_7
  rw [z_5]
  have o_0 := o_0.kept (p_8 h0 o_0.lt)
  have hH : HT g (tset (tset Ty s.heap.size (30, 10)) (s.heap.size + 1) (30, 10)) G H := hH.grow (Nat.le_of_eq z_5) p_8 o_6 (by show _ = _; rw [ew2])
  have hno_9 : (tset (tset Ty s.heap.size (30, 10)) (s.heap.size + 1) (30, 10)) h0 = none := (ts_ne (ne_lo hlt)).trans hno_4
  clear p_8
  refine hg_putF (ty := (.array .int)) hx hb hG igX5 tyX5 tyX5_ok nmX5 hown hK hS o_0 (Or.inl rfl) rfl 1 (by decide) (hG _ mw_322) rfl hin rfl (by decide +kernel) rfl rfl (Nat.le_of_ble_eq_true rfl) dX5_init_17 (fun H locs o_0 hz oq hS => ?_)
  have o_0 : va_at g.1 vwCl (h0, .inr (5, [.ref s.heap.size, .ref (s.heap.size + 1), .null, .int 0, .int 0])) H := o_0
  have hH : HT g (tset (tset Ty s.heap.size (30, 10)) (s.heap.size + 1) (30, 10)) G H := hH.raw hno_9 oq
  have z_10 : H.size = s.heap.size + 2 := hz.trans z_7
  clear hz oq
  refine lv_aload_n hx hb dX5_init_20 rfl (lv_at hl 0 rfl) ?_
  refine lv_bipush (v := 10) hx hb dX5_init_21 (by decide) ?_
  refine hg_newi (N := 10) hx hb (hG _ mw_145) hK hS (by decide) (by decide) (by decide) (Nat.le_of_ble_eq_true rfl) (Nat.le_of_ble_eq_true rfl) dX5_init_23 (fun H o_11 z_12 p_13 hS => ?_)
  rw [z_10] at o_11 z_12
  rw [z_10]
  have o_0 := o_0.kept (p_13 h0 o_0.lt)
  have hH : HT g (tset (tset (tset Ty s.heap.size (30, 10)) (s.heap.size + 1) (30, 10)) (s.heap.size + 2) (30, 10)) G H := hH.grow (Nat.le_of_eq z_10) p_13 o_11 (by show _ = _; rw [ew3])
  have hno_14 : (tset (tset (tset Ty s.heap.size (30, 10)) (s.heap.size + 1) (30, 10)) (s.heap.size + 2) (30, 10)) h0 = none := (ts_ne (ne_lo hlt)).trans hno_9
  clear p_13
  refine hg_putF (ty := (.array .int)) hx hb hG igX5 tyX5 tyX5_ok nmX5 hown hK hS o_0 (Or.inl rfl) rfl 2 (by decide) (hG _ mw_323) rfl hin rfl (by decide +kernel) rfl rfl (Nat.le_of_ble_eq_true rfl) dX5_init_25 (fun H locs o_0 hz oq hS => ?_)
  have o_0 : va_at g.1 vwCl (h0, .inr (5, [.ref s.heap.size, .ref (s.heap.size + 1), .ref (s.heap.size + 2), .int 0, .int 0])) H := o_0
  have hH : HT g (tset (tset (tset Ty s.heap.size (30, 10)) (s.heap.size + 1) (30, 10)) (s.heap.size + 2) (30, 10)) G H := hH.raw hno_14 oq
  have z_15 : H.size = s.heap.size + 3 := hz.trans z_12
  clear hz oq
  have hH : HT g (tset (tset (tset (tset Ty s.heap.size (30, 10)) (s.heap.size + 1) (30, 10)) (s.heap.size + 2) (30, 10)) h0 (15, 0)) G H := HT.type hH hno_14 o_0 ⟨_, _, _, _, by rw [e2], (ts_up (Ne.symm (Nat.ne_of_lt hlt)) (ts_up (ad_0 (by decide)) (ts_up (ad_0 (by decide)) ts_eq))), (ts_up (Ne.symm (ne_lo hlt)) (ts_up (ad_ne (by decide)) ts_eq)), (ts_up (Ne.symm (ne_lo hlt)) ts_eq), by rw [e2]; exact ⟨by decide, by decide⟩, hg, hs1.symm, hs2.symm, hs3.symm⟩
  exact W.vret hx hb hr (fun t ht hWm => ⟨⟨(), rfl, trivial, by show HT g (tset (tset (tset (tset Ty s.heap.size (30, 10)) (s.heap.size + 1) (30, 10)) (s.heap.size + 2) (30, 10)) h0 (15, 0)) G t.heap ∧ t.heap.size = s.heap.size + 3; rw [ht]; exact ⟨hH, z_15⟩⟩, hS.F ht⟩) hS.2.2 dX5_init_28

set_option maxHeartbeats 4000000 in
set_option maxRecDepth 100000 in
theorem c_X1_init (l : Launch) (g : Gx) (Ty : TyM) (G : Gh) (sz h0 : Nat) (hno : Ty h0 = none) : Met l yX1_init (wsG yX1_init cX1_init 1 none) ({ frames := 1, cells := 1, slots := 17, locals := 12 }) (PcC g Ty G sz h0 (.inr (1, [.null, .long 0, .long 0])) [.ref h0]) (QcC g (tset (tset Ty sz (1, 17)) h0 (11, 0)) G sz h0 1) 1 17 (AN h0 sz) := by
  refine Met.ofW (cc := cX1_init) (maxL := 1) (ret := none) (by decide) rfl ?_
  intro p e s m args below meth c s₁ B hml hv
  obtain ⟨rfl, hsz, hK, hH, o_0⟩ := hv
  subst hsz
  have hx := B.exec
  have hb := B.bytes
  have hr := B.returns
  have hts := atoms_spec (ws := (wsG yX1_init cX1_init 1 none)) B.pre
  have hG : ∀ w ∈ GW, w.before ([.ref h0] : List Value).toArray s = true := fun w h => hts w (List.mem_cons_of_mem _ h)
  have hown : s.vm.findClass RX1 = some m.cls := findClass_of_methodNamed B.named
  have hlocks := B.notSynchronized
  have hl := lv_entry [.ref h0] (n := 1) (Nat.le_of_ble_eq_true rfl)
  rw [lg_entry_eq]
  generalize (lg_sl [.ref h0] ++ List.replicate (1 - (lg_sl [.ref h0]).length) Slot.unset).toArray = ls at hl ⊢
  have hl : lv_has ls 1 [(0, .ref h0)] := hl
  have hS : va_S (AN h0 s.heap.size) s.heap s.heap [] := va_S.rf
  have hin : meth.name = "<init>" := (name_of_methodNamed B.named B.method).1
  have hlt : h0 < s.heap.size := o_0.lt
  have z_0 : s.heap.size = s.heap.size + 0 := rfl
  refine lv_aload_n hx hb dX1_init_0 rfl (lv_at hl 0 rfl) ?_
  refine W.objInit hx hb hown (hG _ mw_344) (hG _ mw_107) (hG _ mw_108) rfl (by rw [hml]; exact hl.1) rfl dX1_init_1 (Nat.le_of_ble_eq_true rfl) (Nat.le_of_ble_eq_true rfl) ?_
  refine lv_aload_n hx hb dX1_init_4 rfl (lv_at hl 0 rfl) ?_
  refine lv_bipush (v := 17) hx hb dX1_init_5 (by decide) ?_
  refine hg_newl (N := 17) hx hb (hG _ mw_195) hK hS (by decide) (by decide) (by decide) (Nat.le_of_ble_eq_true rfl) (Nat.le_of_ble_eq_true rfl) dX1_init_7 (fun H o_1 z_2 p_3 hS => ?_)
  have o_0 := o_0.kept (p_3 h0 o_0.lt)
  have hH : HT g (tset Ty s.heap.size (1, 17)) G H := hH.grow (Nat.le_of_eq z_0) p_3 o_1 ⟨_, rfl⟩
  have hno_4 : (tset Ty s.heap.size (1, 17)) h0 = none := (ts_ne (Nat.ne_of_lt hlt)).trans hno
  clear p_3
  refine hg_putF (ty := (.array .long)) hx hb hG igX1 tyX1 tyX1_ok nmX1 hown hK hS o_0 (Or.inl rfl) rfl 0 (by decide) (hG _ mw_345) rfl hin rfl (by decide +kernel) rfl rfl (Nat.le_of_ble_eq_true rfl) dX1_init_9 (fun H locs o_0 hz oq hS => ?_)
  have o_0 : va_at g.1 vwCl (h0, .inr (1, [.ref s.heap.size, .long 0, .long 0])) H := o_0
  have hH : HT g (tset Ty s.heap.size (1, 17)) G H := hH.raw hno_4 oq
  have z_5 : H.size = s.heap.size + 1 := hz.trans z_2
  clear hz oq
  have hH : HT g (tset (tset Ty s.heap.size (1, 17)) h0 (11, 0)) G H := HT.type hH hno_4 o_0 ⟨_, _, _, rfl, (ts_up (Ne.symm (Nat.ne_of_lt hlt)) ts_eq)⟩
  exact W.vret hx hb hr (fun t ht hWm => ⟨⟨(), rfl, trivial, by show HT g (tset (tset Ty s.heap.size (1, 17)) h0 (11, 0)) G t.heap ∧ t.heap.size = s.heap.size + 1; rw [ht]; exact ⟨hH, z_5⟩⟩, hS.F ht⟩) hS.2.2 dX1_init_12
