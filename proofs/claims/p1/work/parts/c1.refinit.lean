set_option maxHeartbeats 4000000 in
set_option maxRecDepth 100000 in
theorem c_X12_init (l : Launch) (g : Gx) (Ty : TyM) (G : Gh) (sz h0 : Nat) (hno : Ty h0 = none) (hg100 : g.2.2 100 = sz) (hg101 : g.2.2 101 = (sz + 1)) (hg103 : g.2.2 103 = (sz + 2)) (hg115 : g.2.2 115 = (sz + 5)) (hg116 : g.2.2 116 = (sz + 6)) (hg121 : g.2.2 121 = (sz + 7)) (hg123 : g.2.2 123 = (sz + 8)) (hg124 : g.2.2 124 = (sz + 9)) (hg125 : g.2.2 125 = (sz + 10)) (hg126 : g.2.2 126 = (sz + 11)) (hg129 : g.2.2 129 = (sz + 12)) (hg130 : g.2.2 130 = (sz + 13)) (hg131 : g.2.2 131 = (sz + 14)) (hg132 : g.2.2 132 = (sz + 15)) (hg134 : g.2.2 134 = (sz + 16)) (hg135 : g.2.2 135 = (sz + 17)) (hg136 : g.2.2 136 = (sz + 18)) (hg138 : g.2.2 138 = (sz + 19)) (hg140 : g.2.2 140 = (sz + 20)) (hg141 : g.2.2 141 = (sz + 21)) (hg111 : g.2.2 111 = sz + 3) (hg112 : g.2.2 112 = sz + 4) (hg20 : h0 = g.2.2 20) (e102 : G.1 102 = 0) (e104 : G.1 104 = 0) (e105 : G.1 105 = 0) (e107 : G.1 107 = 0) (e108 : G.1 108 = 0) (e109 : G.1 109 = 0) (e110 : G.1 110 = 0) (e113 : G.1 113 = 0) (e114 : G.1 114 = 0) (e117 : G.1 117 = 0) (e118 : G.1 118 = 0) (e119 : G.1 119 = 0) (e120 : G.1 120 = 0) (e122 : G.1 122 = 0) (e127 : G.1 127 = 0) (e128 : G.1 128 = 0) (e133 : G.1 133 = 0) (e137 : G.1 137 = 0) (e139 : G.1 139 = 0) (r106 : G.2.2 106 = none) (r111 : G.2.2 111 = some (sz + 3)) (r112 : G.2.2 112 = some (sz + 4)) (en : G.2.1 sz = nowF) (ew1 : G.2.1 (sz + 1) = fun _ => 0) (ew3 : G.2.1 (sz + 3) = fun _ => 0) (ew4 : G.2.1 (sz + 4) = fun _ => 0) (ew5 : G.2.1 (sz + 5) = fun _ => 0) (ew6 : G.2.1 (sz + 6) = fun _ => 0) (ew7 : G.2.1 (sz + 7) = fun _ => 0) (ew8 : G.2.1 (sz + 8) = fun _ => 0) (ew9 : G.2.1 (sz + 9) = fun _ => 0) (ew10 : G.2.1 (sz + 10) = fun _ => 0) (ew11 : G.2.1 (sz + 11) = fun _ => 0) (ew12 : G.2.1 (sz + 12) = fun _ => 0) (ew13 : G.2.1 (sz + 13) = fun _ => 0) (ew16 : G.2.1 (sz + 16) = fun _ => 0) (ew17 : G.2.1 (sz + 17) = fun _ => 0) (ew18 : G.2.1 (sz + 18) = fun _ => 0) (ew20 : G.2.1 (sz + 20) = fun _ => 0) (ew21 : G.2.1 (sz + 21) = fun _ => 0) : Met l yX12_init (wsG yX12_init cX12_init 2 none) ({ frames := 1, cells := 22, slots := 2996, locals := 12 }) (PcC g Ty G sz h0 (.inr (12, [.null, .null, .int 0, .null, .int 0, .int 0, .null, .int 0, .int 0, .int 0, .int 0, .null, .null, .int 0, .int 0, .null, .null, .int 0, .int 0, .int 0, .int 0, .null, .int 0, .null, .null, .null, .null, .int 0, .int 0, .null, .null, .null, .null, .int 0, .null, .null, .null, .int 0, .null, .int 0, .null, .null])) [.ref h0]) (QcC g (tset (tset (tset (tset (tset (tset (tset (tset (tset (tset (tset (tset (tset (tset (tset (tset (tset (tset (tset (tset (tset (tset (tset Ty (sz + 1) (31, 80)) (sz + 2) (1, 32)) (sz + 3) (31, 40)) (sz + 4) (31, 40)) (sz + 5) (30, 7)) (sz + 6) (31, 160)) (sz + 7) (30, 1464)) (sz + 8) (30, 122)) (sz + 9) (30, 122)) (sz + 10) (30, 24)) (sz + 11) (30, 24)) (sz + 12) (30, 122)) (sz + 13) (30, 320)) (sz + 14) (0, 12)) (sz + 15) (0, 12)) (sz + 16) (30, 10)) (sz + 17) (30, 10)) (sz + 18) (30, 10)) (sz + 19) (1, 17)) (sz + 20) (30, 244)) (sz + 21) (33, 2)) sz (30, 122)) h0 (22, 0)) G sz h0 22) 22 2996 (AN h0 sz) := by
  refine Met.ofW (cc := cX12_init) (maxL := 2) (ret := none) (by decide) rfl ?_
  intro p e s m args below meth c s₁ B hml hv
  obtain ⟨rfl, hsz, hK, hH, o_0⟩ := hv
  have hH0 := hH
  subst hsz
  have hx := B.exec
  have hb := B.bytes
  have hr := B.returns
  have hts := atoms_spec (ws := (wsG yX12_init cX12_init 2 none)) B.pre
  have hG : ∀ w ∈ GW, w.before ([.ref h0] : List Value).toArray s = true := fun w h => hts w (List.mem_cons_of_mem _ h)
  have hown : s.vm.findClass RX12 = some m.cls := findClass_of_methodNamed B.named
  have hlocks := B.notSynchronized
  have hl := lv_entry [.ref h0] (n := 2) (Nat.le_of_ble_eq_true rfl)
  rw [lg_entry_eq]
  generalize (lg_sl [.ref h0] ++ List.replicate (2 - (lg_sl [.ref h0]).length) Slot.unset).toArray = ls at hl ⊢
  have hl : lv_has ls 2 [(0, .ref h0)] := hl
  have hS : va_S (AN h0 s.heap.size) s.heap s.heap [] := va_S.rf
  have hin : meth.name = "<init>" := (name_of_methodNamed B.named B.method).1
  have hlt : h0 < s.heap.size := o_0.lt
  have z_0 : s.heap.size = s.heap.size + 0 := rfl
  refine lv_aload_n hx hb dX12_init_0 rfl (lv_at hl 0 rfl) ?_
  refine W.objInit hx hb hown (hG _ mw_1283) (hG _ mw_107) (hG _ mw_108) rfl (by rw [hml]; exact hl.1) rfl dX12_init_1 (Nat.le_of_ble_eq_true rfl) (Nat.le_of_ble_eq_true rfl) ?_
  refine lv_aload_n hx hb dX12_init_4 rfl (lv_at hl 0 rfl) ?_
  refine lv_bipush (v := 122) hx hb dX12_init_5 (by decide) ?_
  refine hg_newi (N := 122) hx hb (hG _ mw_145) hK hS (by decide) (by decide) (by decide) (Nat.le_of_ble_eq_true rfl) (Nat.le_of_ble_eq_true rfl) dX12_init_7 (fun H o_1 z_2 p_3 hS => ?_)
  have o_0 := o_0.kept (p_3 h0 o_0.lt)
  have hH : HT g Ty G H := hH.more p_3
  clear p_3
  refine hg_putF (ty := (.array .int)) hx hb hG igX12 tyX12 tyX12_ok nmX12 hown hK hS o_0 (Or.inl rfl) rfl 0 (by decide) (hG _ mw_1284) rfl hin rfl (by decide +kernel) rfl rfl (Nat.le_of_ble_eq_true rfl) dX12_init_9 (fun H locs o_0 hz oq hS => ?_)
  have o_0 : va_at g.1 vwCl (h0, .inr (12, [.ref s.heap.size, .null, .int 0, .null, .int 0, .int 0, .null, .int 0, .int 0, .int 0, .int 0, .null, .null, .int 0, .int 0, .null, .null, .int 0, .int 0, .int 0, .int 0, .null, .int 0, .null, .null, .null, .null, .int 0, .int 0, .null, .null, .null, .null, .int 0, .null, .null, .null, .int 0, .null, .int 0, .null, .null])) H := o_0
  have hH : HT g Ty G H := hH.raw hno oq
  have o_1 := o_1.kept (oq _ (Ne.symm (Nat.ne_of_lt hlt)))
  have z_4 : H.size = s.heap.size + 1 := hz.trans z_2
  clear hz oq
  refine lv_aload_n hx hb dX12_init_12 rfl (lv_at hl 0 rfl) ?_
  refine lv_bipush (v := 80) hx hb dX12_init_13 (by decide) ?_
  refine hg_newb (N := 80) hx hb (hG _ mw_564) hK hS (by decide) (by decide) (by decide) (Nat.le_of_ble_eq_true rfl) (Nat.le_of_ble_eq_true rfl) dX12_init_15 (fun H o_5 z_6 p_7 hS => ?_)
  rw [z_4] at o_5 z_6
  rw [z_4]
  have o_0 := o_0.kept (p_7 h0 o_0.lt)
  have o_1 := o_1.kept (p_7 _ o_1.lt)
  have hH : HT g (tset Ty (s.heap.size + 1) (31, 80)) G H := hH.grow (Nat.le_of_eq z_4) p_7 o_5 (by show _ = _; rw [ew1])
  have hno_8 : (tset Ty (s.heap.size + 1) (31, 80)) h0 = none := (ts_ne (ne_lo hlt)).trans hno
  clear p_7
  refine hg_putF (ty := (.array .byte)) hx hb hG igX12 tyX12 tyX12_ok nmX12 hown hK hS o_0 (Or.inl rfl) rfl 1 (by decide) (hG _ mw_1285) rfl hin rfl (by decide +kernel) rfl rfl (Nat.le_of_ble_eq_true rfl) dX12_init_17 (fun H locs o_0 hz oq hS => ?_)
  have o_0 : va_at g.1 vwCl (h0, .inr (12, [.ref s.heap.size, .ref (s.heap.size + 1), .int 0, .null, .int 0, .int 0, .null, .int 0, .int 0, .int 0, .int 0, .null, .null, .int 0, .int 0, .null, .null, .int 0, .int 0, .int 0, .int 0, .null, .int 0, .null, .null, .null, .null, .int 0, .int 0, .null, .null, .null, .null, .int 0, .null, .null, .null, .int 0, .null, .int 0, .null, .null])) H := o_0
  have hH : HT g (tset Ty (s.heap.size + 1) (31, 80)) G H := hH.raw hno_8 oq
  have o_1 := o_1.kept (oq _ (Ne.symm (Nat.ne_of_lt hlt)))
  have z_9 : H.size = s.heap.size + 2 := hz.trans z_6
  clear hz oq
  refine lv_aload_n hx hb dX12_init_20 rfl (lv_at hl 0 rfl) ?_
  refine lv_bipush (v := 32) hx hb dX12_init_21 (by decide) ?_
  refine hg_newl (N := 32) hx hb (hG _ mw_195) hK hS (by decide) (by decide) (by decide) (Nat.le_of_ble_eq_true rfl) (Nat.le_of_ble_eq_true rfl) dX12_init_23 (fun H o_10 z_11 p_12 hS => ?_)
  rw [z_9] at o_10 z_11
  rw [z_9]
  have o_0 := o_0.kept (p_12 h0 o_0.lt)
  have o_1 := o_1.kept (p_12 _ o_1.lt)
  have hH : HT g (tset (tset Ty (s.heap.size + 1) (31, 80)) (s.heap.size + 2) (1, 32)) G H := hH.grow (Nat.le_of_eq z_9) p_12 o_10 ⟨_, rfl⟩
  have hno_13 : (tset (tset Ty (s.heap.size + 1) (31, 80)) (s.heap.size + 2) (1, 32)) h0 = none := (ts_ne (ne_lo hlt)).trans hno_8
  clear p_12
  refine hg_putF (ty := (.array .long)) hx hb hG igX12 tyX12 tyX12_ok nmX12 hown hK hS o_0 (Or.inl rfl) rfl 3 (by decide) (hG _ mw_1287) rfl hin rfl (by decide +kernel) rfl rfl (Nat.le_of_ble_eq_true rfl) dX12_init_25 (fun H locs o_0 hz oq hS => ?_)
  have o_0 : va_at g.1 vwCl (h0, .inr (12, [.ref s.heap.size, .ref (s.heap.size + 1), .int 0, .ref (s.heap.size + 2), .int 0, .int 0, .null, .int 0, .int 0, .int 0, .int 0, .null, .null, .int 0, .int 0, .null, .null, .int 0, .int 0, .int 0, .int 0, .null, .int 0, .null, .null, .null, .null, .int 0, .int 0, .null, .null, .null, .null, .int 0, .null, .null, .null, .int 0, .null, .int 0, .null, .null])) H := o_0
  have hH : HT g (tset (tset Ty (s.heap.size + 1) (31, 80)) (s.heap.size + 2) (1, 32)) G H := hH.raw hno_13 oq
  have o_1 := o_1.kept (oq _ (Ne.symm (Nat.ne_of_lt hlt)))
  have z_14 : H.size = s.heap.size + 3 := hz.trans z_11
  clear hz oq
  refine lv_aload_n hx hb dX12_init_28 rfl (lv_at hl 0 rfl) ?_
  refine lv_bipush (v := 40) hx hb dX12_init_29 (by decide) ?_
  refine hg_newb (N := 40) hx hb (hG _ mw_564) hK hS (by decide) (by decide) (by decide) (Nat.le_of_ble_eq_true rfl) (Nat.le_of_ble_eq_true rfl) dX12_init_31 (fun H o_15 z_16 p_17 hS => ?_)
  rw [z_14] at o_15 z_16
  rw [z_14]
  have o_0 := o_0.kept (p_17 h0 o_0.lt)
  have o_1 := o_1.kept (p_17 _ o_1.lt)
  have hH : HT g (tset (tset (tset Ty (s.heap.size + 1) (31, 80)) (s.heap.size + 2) (1, 32)) (s.heap.size + 3) (31, 40)) G H := hH.grow (Nat.le_of_eq z_14) p_17 o_15 (by show _ = _; rw [ew3])
  have hno_18 : (tset (tset (tset Ty (s.heap.size + 1) (31, 80)) (s.heap.size + 2) (1, 32)) (s.heap.size + 3) (31, 40)) h0 = none := (ts_ne (ne_lo hlt)).trans hno_13
  clear p_17
  refine hg_put (ty := (.array .byte)) hx hb hG igX12 tyX12 tyX12_ok nmX12 hown hK hS o_0 (Or.inl rfl) rfl 11 (by decide) (hG _ mw_1295) rfl (by decide +kernel) rfl rfl (Nat.le_of_ble_eq_true rfl) dX12_init_33 (fun H locs o_0 hz oq hS => ?_)
  have o_0 : va_at g.1 vwCl (h0, .inr (12, [.ref s.heap.size, .ref (s.heap.size + 1), .int 0, .ref (s.heap.size + 2), .int 0, .int 0, .null, .int 0, .int 0, .int 0, .int 0, .ref (s.heap.size + 3), .null, .int 0, .int 0, .null, .null, .int 0, .int 0, .int 0, .int 0, .null, .int 0, .null, .null, .null, .null, .int 0, .int 0, .null, .null, .null, .null, .int 0, .null, .null, .null, .int 0, .null, .int 0, .null, .null])) H := o_0
  have hH : HT g (tset (tset (tset Ty (s.heap.size + 1) (31, 80)) (s.heap.size + 2) (1, 32)) (s.heap.size + 3) (31, 40)) G H := hH.raw hno_18 oq
  have o_1 := o_1.kept (oq _ (Ne.symm (Nat.ne_of_lt hlt)))
  have z_19 : H.size = s.heap.size + 4 := hz.trans z_16
  clear hz oq
  refine lv_aload_n hx hb dX12_init_36 rfl (lv_at hl 0 rfl) ?_
  refine lv_bipush (v := 40) hx hb dX12_init_37 (by decide) ?_
  refine hg_newb (N := 40) hx hb (hG _ mw_564) hK hS (by decide) (by decide) (by decide) (Nat.le_of_ble_eq_true rfl) (Nat.le_of_ble_eq_true rfl) dX12_init_39 (fun H o_20 z_21 p_22 hS => ?_)
  rw [z_19] at o_20 z_21
  rw [z_19]
  have o_0 := o_0.kept (p_22 h0 o_0.lt)
  have o_1 := o_1.kept (p_22 _ o_1.lt)
  have hH : HT g (tset (tset (tset (tset Ty (s.heap.size + 1) (31, 80)) (s.heap.size + 2) (1, 32)) (s.heap.size + 3) (31, 40)) (s.heap.size + 4) (31, 40)) G H := hH.grow (Nat.le_of_eq z_19) p_22 o_20 (by show _ = _; rw [ew4])
  have hno_23 : (tset (tset (tset (tset Ty (s.heap.size + 1) (31, 80)) (s.heap.size + 2) (1, 32)) (s.heap.size + 3) (31, 40)) (s.heap.size + 4) (31, 40)) h0 = none := (ts_ne (ne_lo hlt)).trans hno_18
  clear p_22
  refine hg_put (ty := (.array .byte)) hx hb hG igX12 tyX12 tyX12_ok nmX12 hown hK hS o_0 (Or.inl rfl) rfl 12 (by decide) (hG _ mw_1296) rfl (by decide +kernel) rfl rfl (Nat.le_of_ble_eq_true rfl) dX12_init_41 (fun H locs o_0 hz oq hS => ?_)
  have o_0 : va_at g.1 vwCl (h0, .inr (12, [.ref s.heap.size, .ref (s.heap.size + 1), .int 0, .ref (s.heap.size + 2), .int 0, .int 0, .null, .int 0, .int 0, .int 0, .int 0, .ref (s.heap.size + 3), .ref (s.heap.size + 4), .int 0, .int 0, .null, .null, .int 0, .int 0, .int 0, .int 0, .null, .int 0, .null, .null, .null, .null, .int 0, .int 0, .null, .null, .null, .null, .int 0, .null, .null, .null, .int 0, .null, .int 0, .null, .null])) H := o_0
  have hH : HT g (tset (tset (tset (tset Ty (s.heap.size + 1) (31, 80)) (s.heap.size + 2) (1, 32)) (s.heap.size + 3) (31, 40)) (s.heap.size + 4) (31, 40)) G H := hH.raw hno_23 oq
  have o_1 := o_1.kept (oq _ (Ne.symm (Nat.ne_of_lt hlt)))
  have z_24 : H.size = s.heap.size + 5 := hz.trans z_21
  clear hz oq
  refine lv_aload_n hx hb dX12_init_44 rfl (lv_at hl 0 rfl) ?_
  refine lv_bipush (v := 7) hx hb dX12_init_45 (by decide) ?_
  refine hg_newi (N := 7) hx hb (hG _ mw_145) hK hS (by decide) (by decide) (by decide) (Nat.le_of_ble_eq_true rfl) (Nat.le_of_ble_eq_true rfl) dX12_init_47 (fun H o_25 z_26 p_27 hS => ?_)
  rw [z_24] at o_25 z_26
  rw [z_24]
  have o_0 := o_0.kept (p_27 h0 o_0.lt)
  have o_1 := o_1.kept (p_27 _ o_1.lt)
  have hH : HT g (tset (tset (tset (tset (tset Ty (s.heap.size + 1) (31, 80)) (s.heap.size + 2) (1, 32)) (s.heap.size + 3) (31, 40)) (s.heap.size + 4) (31, 40)) (s.heap.size + 5) (30, 7)) G H := hH.grow (Nat.le_of_eq z_24) p_27 o_25 (by show _ = _; rw [ew5])
  have hno_28 : (tset (tset (tset (tset (tset Ty (s.heap.size + 1) (31, 80)) (s.heap.size + 2) (1, 32)) (s.heap.size + 3) (31, 40)) (s.heap.size + 4) (31, 40)) (s.heap.size + 5) (30, 7)) h0 = none := (ts_ne (ne_lo hlt)).trans hno_23
  clear p_27
  refine hg_putF (ty := (.array .int)) hx hb hG igX12 tyX12 tyX12_ok nmX12 hown hK hS o_0 (Or.inl rfl) rfl 15 (by decide) (hG _ mw_1299) rfl hin rfl (by decide +kernel) rfl rfl (Nat.le_of_ble_eq_true rfl) dX12_init_49 (fun H locs o_0 hz oq hS => ?_)
  have o_0 : va_at g.1 vwCl (h0, .inr (12, [.ref s.heap.size, .ref (s.heap.size + 1), .int 0, .ref (s.heap.size + 2), .int 0, .int 0, .null, .int 0, .int 0, .int 0, .int 0, .ref (s.heap.size + 3), .ref (s.heap.size + 4), .int 0, .int 0, .ref (s.heap.size + 5), .null, .int 0, .int 0, .int 0, .int 0, .null, .int 0, .null, .null, .null, .null, .int 0, .int 0, .null, .null, .null, .null, .int 0, .null, .null, .null, .int 0, .null, .int 0, .null, .null])) H := o_0
  have hH : HT g (tset (tset (tset (tset (tset Ty (s.heap.size + 1) (31, 80)) (s.heap.size + 2) (1, 32)) (s.heap.size + 3) (31, 40)) (s.heap.size + 4) (31, 40)) (s.heap.size + 5) (30, 7)) G H := hH.raw hno_28 oq
  have o_1 := o_1.kept (oq _ (Ne.symm (Nat.ne_of_lt hlt)))
  have z_29 : H.size = s.heap.size + 6 := hz.trans z_26
  clear hz oq
  refine lv_aload_n hx hb dX12_init_52 rfl (lv_at hl 0 rfl) ?_
  refine lv_sipush (v := 160) hx hb dX12_init_53 (by decide) ?_
  refine hg_newb (N := 160) hx hb (hG _ mw_564) hK hS (by decide) (by decide) (by decide) (Nat.le_of_ble_eq_true rfl) (Nat.le_of_ble_eq_true rfl) dX12_init_56 (fun H o_30 z_31 p_32 hS => ?_)
  rw [z_29] at o_30 z_31
  rw [z_29]
  have o_0 := o_0.kept (p_32 h0 o_0.lt)
  have o_1 := o_1.kept (p_32 _ o_1.lt)
  have hH : HT g (tset (tset (tset (tset (tset (tset Ty (s.heap.size + 1) (31, 80)) (s.heap.size + 2) (1, 32)) (s.heap.size + 3) (31, 40)) (s.heap.size + 4) (31, 40)) (s.heap.size + 5) (30, 7)) (s.heap.size + 6) (31, 160)) G H := hH.grow (Nat.le_of_eq z_29) p_32 o_30 (by show _ = _; rw [ew6])
  have hno_33 : (tset (tset (tset (tset (tset (tset Ty (s.heap.size + 1) (31, 80)) (s.heap.size + 2) (1, 32)) (s.heap.size + 3) (31, 40)) (s.heap.size + 4) (31, 40)) (s.heap.size + 5) (30, 7)) (s.heap.size + 6) (31, 160)) h0 = none := (ts_ne (ne_lo hlt)).trans hno_28
  clear p_32
  refine hg_putF (ty := (.array .byte)) hx hb hG igX12 tyX12 tyX12_ok nmX12 hown hK hS o_0 (Or.inl rfl) rfl 16 (by decide) (hG _ mw_1300) rfl hin rfl (by decide +kernel) rfl rfl (Nat.le_of_ble_eq_true rfl) dX12_init_58 (fun H locs o_0 hz oq hS => ?_)
  have o_0 : va_at g.1 vwCl (h0, .inr (12, [.ref s.heap.size, .ref (s.heap.size + 1), .int 0, .ref (s.heap.size + 2), .int 0, .int 0, .null, .int 0, .int 0, .int 0, .int 0, .ref (s.heap.size + 3), .ref (s.heap.size + 4), .int 0, .int 0, .ref (s.heap.size + 5), .ref (s.heap.size + 6), .int 0, .int 0, .int 0, .int 0, .null, .int 0, .null, .null, .null, .null, .int 0, .int 0, .null, .null, .null, .null, .int 0, .null, .null, .null, .int 0, .null, .int 0, .null, .null])) H := o_0
  have hH : HT g (tset (tset (tset (tset (tset (tset Ty (s.heap.size + 1) (31, 80)) (s.heap.size + 2) (1, 32)) (s.heap.size + 3) (31, 40)) (s.heap.size + 4) (31, 40)) (s.heap.size + 5) (30, 7)) (s.heap.size + 6) (31, 160)) G H := hH.raw hno_33 oq
  have o_1 := o_1.kept (oq _ (Ne.symm (Nat.ne_of_lt hlt)))
  have z_34 : H.size = s.heap.size + 7 := hz.trans z_31
  clear hz oq
  refine lv_aload_n hx hb dX12_init_61 rfl (lv_at hl 0 rfl) ?_
  refine lv_sipush (v := 1464) hx hb dX12_init_62 (by decide) ?_
  refine hg_newi (N := 1464) hx hb (hG _ mw_145) hK hS (by decide) (by decide) (by decide) (Nat.le_of_ble_eq_true rfl) (Nat.le_of_ble_eq_true rfl) dX12_init_65 (fun H o_35 z_36 p_37 hS => ?_)
  rw [z_34] at o_35 z_36
  rw [z_34]
  have o_0 := o_0.kept (p_37 h0 o_0.lt)
  have o_1 := o_1.kept (p_37 _ o_1.lt)
  have hH : HT g (tset (tset (tset (tset (tset (tset (tset Ty (s.heap.size + 1) (31, 80)) (s.heap.size + 2) (1, 32)) (s.heap.size + 3) (31, 40)) (s.heap.size + 4) (31, 40)) (s.heap.size + 5) (30, 7)) (s.heap.size + 6) (31, 160)) (s.heap.size + 7) (30, 1464)) G H := hH.grow (Nat.le_of_eq z_34) p_37 o_35 (by show _ = _; rw [ew7])
  have hno_38 : (tset (tset (tset (tset (tset (tset (tset Ty (s.heap.size + 1) (31, 80)) (s.heap.size + 2) (1, 32)) (s.heap.size + 3) (31, 40)) (s.heap.size + 4) (31, 40)) (s.heap.size + 5) (30, 7)) (s.heap.size + 6) (31, 160)) (s.heap.size + 7) (30, 1464)) h0 = none := (ts_ne (ne_lo hlt)).trans hno_33
  clear p_37
  refine hg_putF (ty := (.array .int)) hx hb hG igX12 tyX12 tyX12_ok nmX12 hown hK hS o_0 (Or.inl rfl) rfl 21 (by decide) (hG _ mw_1305) rfl hin rfl (by decide +kernel) rfl rfl (Nat.le_of_ble_eq_true rfl) dX12_init_67 (fun H locs o_0 hz oq hS => ?_)
  have o_0 : va_at g.1 vwCl (h0, .inr (12, [.ref s.heap.size, .ref (s.heap.size + 1), .int 0, .ref (s.heap.size + 2), .int 0, .int 0, .null, .int 0, .int 0, .int 0, .int 0, .ref (s.heap.size + 3), .ref (s.heap.size + 4), .int 0, .int 0, .ref (s.heap.size + 5), .ref (s.heap.size + 6), .int 0, .int 0, .int 0, .int 0, .ref (s.heap.size + 7), .int 0, .null, .null, .null, .null, .int 0, .int 0, .null, .null, .null, .null, .int 0, .null, .null, .null, .int 0, .null, .int 0, .null, .null])) H := o_0
  have hH : HT g (tset (tset (tset (tset (tset (tset (tset Ty (s.heap.size + 1) (31, 80)) (s.heap.size + 2) (1, 32)) (s.heap.size + 3) (31, 40)) (s.heap.size + 4) (31, 40)) (s.heap.size + 5) (30, 7)) (s.heap.size + 6) (31, 160)) (s.heap.size + 7) (30, 1464)) G H := hH.raw hno_38 oq
  have o_1 := o_1.kept (oq _ (Ne.symm (Nat.ne_of_lt hlt)))
  have z_39 : H.size = s.heap.size + 8 := hz.trans z_36
  clear hz oq
  refine lv_aload_n hx hb dX12_init_70 rfl (lv_at hl 0 rfl) ?_
  refine lv_bipush (v := 122) hx hb dX12_init_71 (by decide) ?_
  refine hg_newi (N := 122) hx hb (hG _ mw_145) hK hS (by decide) (by decide) (by decide) (Nat.le_of_ble_eq_true rfl) (Nat.le_of_ble_eq_true rfl) dX12_init_73 (fun H o_40 z_41 p_42 hS => ?_)
  rw [z_39] at o_40 z_41
  rw [z_39]
  have o_0 := o_0.kept (p_42 h0 o_0.lt)
  have o_1 := o_1.kept (p_42 _ o_1.lt)
  have hH : HT g (tset (tset (tset (tset (tset (tset (tset (tset Ty (s.heap.size + 1) (31, 80)) (s.heap.size + 2) (1, 32)) (s.heap.size + 3) (31, 40)) (s.heap.size + 4) (31, 40)) (s.heap.size + 5) (30, 7)) (s.heap.size + 6) (31, 160)) (s.heap.size + 7) (30, 1464)) (s.heap.size + 8) (30, 122)) G H := hH.grow (Nat.le_of_eq z_39) p_42 o_40 (by show _ = _; rw [ew8])
  have hno_43 : (tset (tset (tset (tset (tset (tset (tset (tset Ty (s.heap.size + 1) (31, 80)) (s.heap.size + 2) (1, 32)) (s.heap.size + 3) (31, 40)) (s.heap.size + 4) (31, 40)) (s.heap.size + 5) (30, 7)) (s.heap.size + 6) (31, 160)) (s.heap.size + 7) (30, 1464)) (s.heap.size + 8) (30, 122)) h0 = none := (ts_ne (ne_lo hlt)).trans hno_38
  clear p_42
  refine hg_putF (ty := (.array .int)) hx hb hG igX12 tyX12 tyX12_ok nmX12 hown hK hS o_0 (Or.inl rfl) rfl 23 (by decide) (hG _ mw_1307) rfl hin rfl (by decide +kernel) rfl rfl (Nat.le_of_ble_eq_true rfl) dX12_init_75 (fun H locs o_0 hz oq hS => ?_)
  have o_0 : va_at g.1 vwCl (h0, .inr (12, [.ref s.heap.size, .ref (s.heap.size + 1), .int 0, .ref (s.heap.size + 2), .int 0, .int 0, .null, .int 0, .int 0, .int 0, .int 0, .ref (s.heap.size + 3), .ref (s.heap.size + 4), .int 0, .int 0, .ref (s.heap.size + 5), .ref (s.heap.size + 6), .int 0, .int 0, .int 0, .int 0, .ref (s.heap.size + 7), .int 0, .ref (s.heap.size + 8), .null, .null, .null, .int 0, .int 0, .null, .null, .null, .null, .int 0, .null, .null, .null, .int 0, .null, .int 0, .null, .null])) H := o_0
  have hH : HT g (tset (tset (tset (tset (tset (tset (tset (tset Ty (s.heap.size + 1) (31, 80)) (s.heap.size + 2) (1, 32)) (s.heap.size + 3) (31, 40)) (s.heap.size + 4) (31, 40)) (s.heap.size + 5) (30, 7)) (s.heap.size + 6) (31, 160)) (s.heap.size + 7) (30, 1464)) (s.heap.size + 8) (30, 122)) G H := hH.raw hno_43 oq
  have o_1 := o_1.kept (oq _ (Ne.symm (Nat.ne_of_lt hlt)))
  have z_44 : H.size = s.heap.size + 9 := hz.trans z_41
  clear hz oq
  refine lv_aload_n hx hb dX12_init_78 rfl (lv_at hl 0 rfl) ?_
  refine lv_bipush (v := 122) hx hb dX12_init_79 (by decide) ?_
  refine hg_newi (N := 122) hx hb (hG _ mw_145) hK hS (by decide) (by decide) (by decide) (Nat.le_of_ble_eq_true rfl) (Nat.le_of_ble_eq_true rfl) dX12_init_81 (fun H o_45 z_46 p_47 hS => ?_)
  rw [z_44] at o_45 z_46
  rw [z_44]
  have o_0 := o_0.kept (p_47 h0 o_0.lt)
  have o_1 := o_1.kept (p_47 _ o_1.lt)
  have hH : HT g (tset (tset (tset (tset (tset (tset (tset (tset (tset Ty (s.heap.size + 1) (31, 80)) (s.heap.size + 2) (1, 32)) (s.heap.size + 3) (31, 40)) (s.heap.size + 4) (31, 40)) (s.heap.size + 5) (30, 7)) (s.heap.size + 6) (31, 160)) (s.heap.size + 7) (30, 1464)) (s.heap.size + 8) (30, 122)) (s.heap.size + 9) (30, 122)) G H := hH.grow (Nat.le_of_eq z_44) p_47 o_45 (by show _ = _; rw [ew9])
  have hno_48 : (tset (tset (tset (tset (tset (tset (tset (tset (tset Ty (s.heap.size + 1) (31, 80)) (s.heap.size + 2) (1, 32)) (s.heap.size + 3) (31, 40)) (s.heap.size + 4) (31, 40)) (s.heap.size + 5) (30, 7)) (s.heap.size + 6) (31, 160)) (s.heap.size + 7) (30, 1464)) (s.heap.size + 8) (30, 122)) (s.heap.size + 9) (30, 122)) h0 = none := (ts_ne (ne_lo hlt)).trans hno_43
  clear p_47
  refine hg_putF (ty := (.array .int)) hx hb hG igX12 tyX12 tyX12_ok nmX12 hown hK hS o_0 (Or.inl rfl) rfl 24 (by decide) (hG _ mw_1308) rfl hin rfl (by decide +kernel) rfl rfl (Nat.le_of_ble_eq_true rfl) dX12_init_83 (fun H locs o_0 hz oq hS => ?_)
  have o_0 : va_at g.1 vwCl (h0, .inr (12, [.ref s.heap.size, .ref (s.heap.size + 1), .int 0, .ref (s.heap.size + 2), .int 0, .int 0, .null, .int 0, .int 0, .int 0, .int 0, .ref (s.heap.size + 3), .ref (s.heap.size + 4), .int 0, .int 0, .ref (s.heap.size + 5), .ref (s.heap.size + 6), .int 0, .int 0, .int 0, .int 0, .ref (s.heap.size + 7), .int 0, .ref (s.heap.size + 8), .ref (s.heap.size + 9), .null, .null, .int 0, .int 0, .null, .null, .null, .null, .int 0, .null, .null, .null, .int 0, .null, .int 0, .null, .null])) H := o_0
  have hH : HT g (tset (tset (tset (tset (tset (tset (tset (tset (tset Ty (s.heap.size + 1) (31, 80)) (s.heap.size + 2) (1, 32)) (s.heap.size + 3) (31, 40)) (s.heap.size + 4) (31, 40)) (s.heap.size + 5) (30, 7)) (s.heap.size + 6) (31, 160)) (s.heap.size + 7) (30, 1464)) (s.heap.size + 8) (30, 122)) (s.heap.size + 9) (30, 122)) G H := hH.raw hno_48 oq
  have o_1 := o_1.kept (oq _ (Ne.symm (Nat.ne_of_lt hlt)))
  have z_49 : H.size = s.heap.size + 10 := hz.trans z_46
  clear hz oq
  refine lv_aload_n hx hb dX12_init_86 rfl (lv_at hl 0 rfl) ?_
  refine lv_bipush (v := 24) hx hb dX12_init_87 (by decide) ?_
  refine hg_newi (N := 24) hx hb (hG _ mw_145) hK hS (by decide) (by decide) (by decide) (Nat.le_of_ble_eq_true rfl) (Nat.le_of_ble_eq_true rfl) dX12_init_89 (fun H o_50 z_51 p_52 hS => ?_)
  rw [z_49] at o_50 z_51
  rw [z_49]
  have o_0 := o_0.kept (p_52 h0 o_0.lt)
  have o_1 := o_1.kept (p_52 _ o_1.lt)
  have hH : HT g (tset (tset (tset (tset (tset (tset (tset (tset (tset (tset Ty (s.heap.size + 1) (31, 80)) (s.heap.size + 2) (1, 32)) (s.heap.size + 3) (31, 40)) (s.heap.size + 4) (31, 40)) (s.heap.size + 5) (30, 7)) (s.heap.size + 6) (31, 160)) (s.heap.size + 7) (30, 1464)) (s.heap.size + 8) (30, 122)) (s.heap.size + 9) (30, 122)) (s.heap.size + 10) (30, 24)) G H := hH.grow (Nat.le_of_eq z_49) p_52 o_50 (by show _ = _; rw [ew10])
  have hno_53 : (tset (tset (tset (tset (tset (tset (tset (tset (tset (tset Ty (s.heap.size + 1) (31, 80)) (s.heap.size + 2) (1, 32)) (s.heap.size + 3) (31, 40)) (s.heap.size + 4) (31, 40)) (s.heap.size + 5) (30, 7)) (s.heap.size + 6) (31, 160)) (s.heap.size + 7) (30, 1464)) (s.heap.size + 8) (30, 122)) (s.heap.size + 9) (30, 122)) (s.heap.size + 10) (30, 24)) h0 = none := (ts_ne (ne_lo hlt)).trans hno_48
  clear p_52
  refine hg_putF (ty := (.array .int)) hx hb hG igX12 tyX12 tyX12_ok nmX12 hown hK hS o_0 (Or.inl rfl) rfl 25 (by decide) (hG _ mw_1309) rfl hin rfl (by decide +kernel) rfl rfl (Nat.le_of_ble_eq_true rfl) dX12_init_91 (fun H locs o_0 hz oq hS => ?_)
  have o_0 : va_at g.1 vwCl (h0, .inr (12, [.ref s.heap.size, .ref (s.heap.size + 1), .int 0, .ref (s.heap.size + 2), .int 0, .int 0, .null, .int 0, .int 0, .int 0, .int 0, .ref (s.heap.size + 3), .ref (s.heap.size + 4), .int 0, .int 0, .ref (s.heap.size + 5), .ref (s.heap.size + 6), .int 0, .int 0, .int 0, .int 0, .ref (s.heap.size + 7), .int 0, .ref (s.heap.size + 8), .ref (s.heap.size + 9), .ref (s.heap.size + 10), .null, .int 0, .int 0, .null, .null, .null, .null, .int 0, .null, .null, .null, .int 0, .null, .int 0, .null, .null])) H := o_0
  have hH : HT g (tset (tset (tset (tset (tset (tset (tset (tset (tset (tset Ty (s.heap.size + 1) (31, 80)) (s.heap.size + 2) (1, 32)) (s.heap.size + 3) (31, 40)) (s.heap.size + 4) (31, 40)) (s.heap.size + 5) (30, 7)) (s.heap.size + 6) (31, 160)) (s.heap.size + 7) (30, 1464)) (s.heap.size + 8) (30, 122)) (s.heap.size + 9) (30, 122)) (s.heap.size + 10) (30, 24)) G H := hH.raw hno_53 oq
  have o_1 := o_1.kept (oq _ (Ne.symm (Nat.ne_of_lt hlt)))
  have z_54 : H.size = s.heap.size + 11 := hz.trans z_51
  clear hz oq
  refine lv_aload_n hx hb dX12_init_94 rfl (lv_at hl 0 rfl) ?_
  refine lv_bipush (v := 24) hx hb dX12_init_95 (by decide) ?_
  refine hg_newi (N := 24) hx hb (hG _ mw_145) hK hS (by decide) (by decide) (by decide) (Nat.le_of_ble_eq_true rfl) (Nat.le_of_ble_eq_true rfl) dX12_init_97 (fun H o_55 z_56 p_57 hS => ?_)
  rw [z_54] at o_55 z_56
  rw [z_54]
  have o_0 := o_0.kept (p_57 h0 o_0.lt)
  have o_1 := o_1.kept (p_57 _ o_1.lt)
  have hH : HT g (tset (tset (tset (tset (tset (tset (tset (tset (tset (tset (tset Ty (s.heap.size + 1) (31, 80)) (s.heap.size + 2) (1, 32)) (s.heap.size + 3) (31, 40)) (s.heap.size + 4) (31, 40)) (s.heap.size + 5) (30, 7)) (s.heap.size + 6) (31, 160)) (s.heap.size + 7) (30, 1464)) (s.heap.size + 8) (30, 122)) (s.heap.size + 9) (30, 122)) (s.heap.size + 10) (30, 24)) (s.heap.size + 11) (30, 24)) G H := hH.grow (Nat.le_of_eq z_54) p_57 o_55 (by show _ = _; rw [ew11])
  have hno_58 : (tset (tset (tset (tset (tset (tset (tset (tset (tset (tset (tset Ty (s.heap.size + 1) (31, 80)) (s.heap.size + 2) (1, 32)) (s.heap.size + 3) (31, 40)) (s.heap.size + 4) (31, 40)) (s.heap.size + 5) (30, 7)) (s.heap.size + 6) (31, 160)) (s.heap.size + 7) (30, 1464)) (s.heap.size + 8) (30, 122)) (s.heap.size + 9) (30, 122)) (s.heap.size + 10) (30, 24)) (s.heap.size + 11) (30, 24)) h0 = none := (ts_ne (ne_lo hlt)).trans hno_53
  clear p_57
  refine hg_putF (ty := (.array .int)) hx hb hG igX12 tyX12 tyX12_ok nmX12 hown hK hS o_0 (Or.inl rfl) rfl 26 (by decide) (hG _ mw_1310) rfl hin rfl (by decide +kernel) rfl rfl (Nat.le_of_ble_eq_true rfl) dX12_init_99 (fun H locs o_0 hz oq hS => ?_)
  have o_0 : va_at g.1 vwCl (h0, .inr (12, [.ref s.heap.size, .ref (s.heap.size + 1), .int 0, .ref (s.heap.size + 2), .int 0, .int 0, .null, .int 0, .int 0, .int 0, .int 0, .ref (s.heap.size + 3), .ref (s.heap.size + 4), .int 0, .int 0, .ref (s.heap.size + 5), .ref (s.heap.size + 6), .int 0, .int 0, .int 0, .int 0, .ref (s.heap.size + 7), .int 0, .ref (s.heap.size + 8), .ref (s.heap.size + 9), .ref (s.heap.size + 10), .ref (s.heap.size + 11), .int 0, .int 0, .null, .null, .null, .null, .int 0, .null, .null, .null, .int 0, .null, .int 0, .null, .null])) H := o_0
  have hH : HT g (tset (tset (tset (tset (tset (tset (tset (tset (tset (tset (tset Ty (s.heap.size + 1) (31, 80)) (s.heap.size + 2) (1, 32)) (s.heap.size + 3) (31, 40)) (s.heap.size + 4) (31, 40)) (s.heap.size + 5) (30, 7)) (s.heap.size + 6) (31, 160)) (s.heap.size + 7) (30, 1464)) (s.heap.size + 8) (30, 122)) (s.heap.size + 9) (30, 122)) (s.heap.size + 10) (30, 24)) (s.heap.size + 11) (30, 24)) G H := hH.raw hno_58 oq
  have o_1 := o_1.kept (oq _ (Ne.symm (Nat.ne_of_lt hlt)))
  have z_59 : H.size = s.heap.size + 12 := hz.trans z_56
  clear hz oq
  refine lv_aload_n hx hb dX12_init_102 rfl (lv_at hl 0 rfl) ?_
  refine lv_bipush (v := 122) hx hb dX12_init_103 (by decide) ?_
  refine hg_newi (N := 122) hx hb (hG _ mw_145) hK hS (by decide) (by decide) (by decide) (Nat.le_of_ble_eq_true rfl) (Nat.le_of_ble_eq_true rfl) dX12_init_105 (fun H o_60 z_61 p_62 hS => ?_)
  rw [z_59] at o_60 z_61
  rw [z_59]
  have o_0 := o_0.kept (p_62 h0 o_0.lt)
  have o_1 := o_1.kept (p_62 _ o_1.lt)
  have hH : HT g (tset (tset (tset (tset (tset (tset (tset (tset (tset (tset (tset (tset Ty (s.heap.size + 1) (31, 80)) (s.heap.size + 2) (1, 32)) (s.heap.size + 3) (31, 40)) (s.heap.size + 4) (31, 40)) (s.heap.size + 5) (30, 7)) (s.heap.size + 6) (31, 160)) (s.heap.size + 7) (30, 1464)) (s.heap.size + 8) (30, 122)) (s.heap.size + 9) (30, 122)) (s.heap.size + 10) (30, 24)) (s.heap.size + 11) (30, 24)) (s.heap.size + 12) (30, 122)) G H := hH.grow (Nat.le_of_eq z_59) p_62 o_60 (by show _ = _; rw [ew12])
  have hno_63 : (tset (tset (tset (tset (tset (tset (tset (tset (tset (tset (tset (tset Ty (s.heap.size + 1) (31, 80)) (s.heap.size + 2) (1, 32)) (s.heap.size + 3) (31, 40)) (s.heap.size + 4) (31, 40)) (s.heap.size + 5) (30, 7)) (s.heap.size + 6) (31, 160)) (s.heap.size + 7) (30, 1464)) (s.heap.size + 8) (30, 122)) (s.heap.size + 9) (30, 122)) (s.heap.size + 10) (30, 24)) (s.heap.size + 11) (30, 24)) (s.heap.size + 12) (30, 122)) h0 = none := (ts_ne (ne_lo hlt)).trans hno_58
  clear p_62
  refine hg_putF (ty := (.array .int)) hx hb hG igX12 tyX12 tyX12_ok nmX12 hown hK hS o_0 (Or.inl rfl) rfl 29 (by decide) (hG _ mw_1313) rfl hin rfl (by decide +kernel) rfl rfl (Nat.le_of_ble_eq_true rfl) dX12_init_107 (fun H locs o_0 hz oq hS => ?_)
  have o_0 : va_at g.1 vwCl (h0, .inr (12, [.ref s.heap.size, .ref (s.heap.size + 1), .int 0, .ref (s.heap.size + 2), .int 0, .int 0, .null, .int 0, .int 0, .int 0, .int 0, .ref (s.heap.size + 3), .ref (s.heap.size + 4), .int 0, .int 0, .ref (s.heap.size + 5), .ref (s.heap.size + 6), .int 0, .int 0, .int 0, .int 0, .ref (s.heap.size + 7), .int 0, .ref (s.heap.size + 8), .ref (s.heap.size + 9), .ref (s.heap.size + 10), .ref (s.heap.size + 11), .int 0, .int 0, .ref (s.heap.size + 12), .null, .null, .null, .int 0, .null, .null, .null, .int 0, .null, .int 0, .null, .null])) H := o_0
  have hH : HT g (tset (tset (tset (tset (tset (tset (tset (tset (tset (tset (tset (tset Ty (s.heap.size + 1) (31, 80)) (s.heap.size + 2) (1, 32)) (s.heap.size + 3) (31, 40)) (s.heap.size + 4) (31, 40)) (s.heap.size + 5) (30, 7)) (s.heap.size + 6) (31, 160)) (s.heap.size + 7) (30, 1464)) (s.heap.size + 8) (30, 122)) (s.heap.size + 9) (30, 122)) (s.heap.size + 10) (30, 24)) (s.heap.size + 11) (30, 24)) (s.heap.size + 12) (30, 122)) G H := hH.raw hno_63 oq
  have o_1 := o_1.kept (oq _ (Ne.symm (Nat.ne_of_lt hlt)))
  have z_64 : H.size = s.heap.size + 13 := hz.trans z_61
  clear hz oq
  refine lv_aload_n hx hb dX12_init_110 rfl (lv_at hl 0 rfl) ?_
  refine lv_sipush (v := 320) hx hb dX12_init_111 (by decide) ?_
  refine hg_newi (N := 320) hx hb (hG _ mw_145) hK hS (by decide) (by decide) (by decide) (Nat.le_of_ble_eq_true rfl) (Nat.le_of_ble_eq_true rfl) dX12_init_114 (fun H o_65 z_66 p_67 hS => ?_)
  rw [z_64] at o_65 z_66
  rw [z_64]
  have o_0 := o_0.kept (p_67 h0 o_0.lt)
  have o_1 := o_1.kept (p_67 _ o_1.lt)
  have hH : HT g (tset (tset (tset (tset (tset (tset (tset (tset (tset (tset (tset (tset (tset Ty (s.heap.size + 1) (31, 80)) (s.heap.size + 2) (1, 32)) (s.heap.size + 3) (31, 40)) (s.heap.size + 4) (31, 40)) (s.heap.size + 5) (30, 7)) (s.heap.size + 6) (31, 160)) (s.heap.size + 7) (30, 1464)) (s.heap.size + 8) (30, 122)) (s.heap.size + 9) (30, 122)) (s.heap.size + 10) (30, 24)) (s.heap.size + 11) (30, 24)) (s.heap.size + 12) (30, 122)) (s.heap.size + 13) (30, 320)) G H := hH.grow (Nat.le_of_eq z_64) p_67 o_65 (by show _ = _; rw [ew13])
  have hno_68 : (tset (tset (tset (tset (tset (tset (tset (tset (tset (tset (tset (tset (tset Ty (s.heap.size + 1) (31, 80)) (s.heap.size + 2) (1, 32)) (s.heap.size + 3) (31, 40)) (s.heap.size + 4) (31, 40)) (s.heap.size + 5) (30, 7)) (s.heap.size + 6) (31, 160)) (s.heap.size + 7) (30, 1464)) (s.heap.size + 8) (30, 122)) (s.heap.size + 9) (30, 122)) (s.heap.size + 10) (30, 24)) (s.heap.size + 11) (30, 24)) (s.heap.size + 12) (30, 122)) (s.heap.size + 13) (30, 320)) h0 = none := (ts_ne (ne_lo hlt)).trans hno_63
  clear p_67
  refine hg_putF (ty := (.array .int)) hx hb hG igX12 tyX12 tyX12_ok nmX12 hown hK hS o_0 (Or.inl rfl) rfl 30 (by decide) (hG _ mw_1314) rfl hin rfl (by decide +kernel) rfl rfl (Nat.le_of_ble_eq_true rfl) dX12_init_116 (fun H locs o_0 hz oq hS => ?_)
  have o_0 : va_at g.1 vwCl (h0, .inr (12, [.ref s.heap.size, .ref (s.heap.size + 1), .int 0, .ref (s.heap.size + 2), .int 0, .int 0, .null, .int 0, .int 0, .int 0, .int 0, .ref (s.heap.size + 3), .ref (s.heap.size + 4), .int 0, .int 0, .ref (s.heap.size + 5), .ref (s.heap.size + 6), .int 0, .int 0, .int 0, .int 0, .ref (s.heap.size + 7), .int 0, .ref (s.heap.size + 8), .ref (s.heap.size + 9), .ref (s.heap.size + 10), .ref (s.heap.size + 11), .int 0, .int 0, .ref (s.heap.size + 12), .ref (s.heap.size + 13), .null, .null, .int 0, .null, .null, .null, .int 0, .null, .int 0, .null, .null])) H := o_0
  have hH : HT g (tset (tset (tset (tset (tset (tset (tset (tset (tset (tset (tset (tset (tset Ty (s.heap.size + 1) (31, 80)) (s.heap.size + 2) (1, 32)) (s.heap.size + 3) (31, 40)) (s.heap.size + 4) (31, 40)) (s.heap.size + 5) (30, 7)) (s.heap.size + 6) (31, 160)) (s.heap.size + 7) (30, 1464)) (s.heap.size + 8) (30, 122)) (s.heap.size + 9) (30, 122)) (s.heap.size + 10) (30, 24)) (s.heap.size + 11) (30, 24)) (s.heap.size + 12) (30, 122)) (s.heap.size + 13) (30, 320)) G H := hH.raw hno_68 oq
  have o_1 := o_1.kept (oq _ (Ne.symm (Nat.ne_of_lt hlt)))
  have z_69 : H.size = s.heap.size + 14 := hz.trans z_66
  clear hz oq
  refine lv_aload_n hx hb dX12_init_119 rfl (lv_at hl 0 rfl) ?_
  refine lv_bipush (v := 12) hx hb dX12_init_120 (by decide) ?_
  refine hg_newi (N := 12) hx hb (hG _ mw_145) hK hS (by decide) (by decide) (by decide) (Nat.le_of_ble_eq_true rfl) (Nat.le_of_ble_eq_true rfl) dX12_init_122 (fun H o_70 z_71 p_72 hS => ?_)
  rw [z_69] at o_70 z_71
  rw [z_69]
  have o_0 := o_0.kept (p_72 h0 o_0.lt)
  have o_1 := o_1.kept (p_72 _ o_1.lt)
  have hH : HT g (tset (tset (tset (tset (tset (tset (tset (tset (tset (tset (tset (tset (tset (tset Ty (s.heap.size + 1) (31, 80)) (s.heap.size + 2) (1, 32)) (s.heap.size + 3) (31, 40)) (s.heap.size + 4) (31, 40)) (s.heap.size + 5) (30, 7)) (s.heap.size + 6) (31, 160)) (s.heap.size + 7) (30, 1464)) (s.heap.size + 8) (30, 122)) (s.heap.size + 9) (30, 122)) (s.heap.size + 10) (30, 24)) (s.heap.size + 11) (30, 24)) (s.heap.size + 12) (30, 122)) (s.heap.size + 13) (30, 320)) (s.heap.size + 14) (0, 12)) G H := hH.grow (Nat.le_of_eq z_69) p_72 o_70 ⟨_, rfl⟩
  have hno_73 : (tset (tset (tset (tset (tset (tset (tset (tset (tset (tset (tset (tset (tset (tset Ty (s.heap.size + 1) (31, 80)) (s.heap.size + 2) (1, 32)) (s.heap.size + 3) (31, 40)) (s.heap.size + 4) (31, 40)) (s.heap.size + 5) (30, 7)) (s.heap.size + 6) (31, 160)) (s.heap.size + 7) (30, 1464)) (s.heap.size + 8) (30, 122)) (s.heap.size + 9) (30, 122)) (s.heap.size + 10) (30, 24)) (s.heap.size + 11) (30, 24)) (s.heap.size + 12) (30, 122)) (s.heap.size + 13) (30, 320)) (s.heap.size + 14) (0, 12)) h0 = none := (ts_ne (ne_lo hlt)).trans hno_68
  clear p_72
  refine hg_putF (ty := (.array .int)) hx hb hG igX12 tyX12 tyX12_ok nmX12 hown hK hS o_0 (Or.inl rfl) rfl 31 (by decide) (hG _ mw_1315) rfl hin rfl (by decide +kernel) rfl rfl (Nat.le_of_ble_eq_true rfl) dX12_init_124 (fun H locs o_0 hz oq hS => ?_)
  have o_0 : va_at g.1 vwCl (h0, .inr (12, [.ref s.heap.size, .ref (s.heap.size + 1), .int 0, .ref (s.heap.size + 2), .int 0, .int 0, .null, .int 0, .int 0, .int 0, .int 0, .ref (s.heap.size + 3), .ref (s.heap.size + 4), .int 0, .int 0, .ref (s.heap.size + 5), .ref (s.heap.size + 6), .int 0, .int 0, .int 0, .int 0, .ref (s.heap.size + 7), .int 0, .ref (s.heap.size + 8), .ref (s.heap.size + 9), .ref (s.heap.size + 10), .ref (s.heap.size + 11), .int 0, .int 0, .ref (s.heap.size + 12), .ref (s.heap.size + 13), .ref (s.heap.size + 14), .null, .int 0, .null, .null, .null, .int 0, .null, .int 0, .null, .null])) H := o_0
  have hH : HT g (tset (tset (tset (tset (tset (tset (tset (tset (tset (tset (tset (tset (tset (tset Ty (s.heap.size + 1) (31, 80)) (s.heap.size + 2) (1, 32)) (s.heap.size + 3) (31, 40)) (s.heap.size + 4) (31, 40)) (s.heap.size + 5) (30, 7)) (s.heap.size + 6) (31, 160)) (s.heap.size + 7) (30, 1464)) (s.heap.size + 8) (30, 122)) (s.heap.size + 9) (30, 122)) (s.heap.size + 10) (30, 24)) (s.heap.size + 11) (30, 24)) (s.heap.size + 12) (30, 122)) (s.heap.size + 13) (30, 320)) (s.heap.size + 14) (0, 12)) G H := hH.raw hno_73 oq
  have o_1 := o_1.kept (oq _ (Ne.symm (Nat.ne_of_lt hlt)))
  have z_74 : H.size = s.heap.size + 15 := hz.trans z_71
  clear hz oq
  refine lv_aload_n hx hb dX12_init_127 rfl (lv_at hl 0 rfl) ?_
  refine lv_bipush (v := 12) hx hb dX12_init_128 (by decide) ?_
  refine hg_newi (N := 12) hx hb (hG _ mw_145) hK hS (by decide) (by decide) (by decide) (Nat.le_of_ble_eq_true rfl) (Nat.le_of_ble_eq_true rfl) dX12_init_130 (fun H o_75 z_76 p_77 hS => ?_)
  rw [z_74] at o_75 z_76
  rw [z_74]
  have o_0 := o_0.kept (p_77 h0 o_0.lt)
  have o_1 := o_1.kept (p_77 _ o_1.lt)
  have hH : HT g (tset (tset (tset (tset (tset (tset (tset (tset (tset (tset (tset (tset (tset (tset (tset Ty (s.heap.size + 1) (31, 80)) (s.heap.size + 2) (1, 32)) (s.heap.size + 3) (31, 40)) (s.heap.size + 4) (31, 40)) (s.heap.size + 5) (30, 7)) (s.heap.size + 6) (31, 160)) (s.heap.size + 7) (30, 1464)) (s.heap.size + 8) (30, 122)) (s.heap.size + 9) (30, 122)) (s.heap.size + 10) (30, 24)) (s.heap.size + 11) (30, 24)) (s.heap.size + 12) (30, 122)) (s.heap.size + 13) (30, 320)) (s.heap.size + 14) (0, 12)) (s.heap.size + 15) (0, 12)) G H := hH.grow (Nat.le_of_eq z_74) p_77 o_75 ⟨_, rfl⟩
  have hno_78 : (tset (tset (tset (tset (tset (tset (tset (tset (tset (tset (tset (tset (tset (tset (tset Ty (s.heap.size + 1) (31, 80)) (s.heap.size + 2) (1, 32)) (s.heap.size + 3) (31, 40)) (s.heap.size + 4) (31, 40)) (s.heap.size + 5) (30, 7)) (s.heap.size + 6) (31, 160)) (s.heap.size + 7) (30, 1464)) (s.heap.size + 8) (30, 122)) (s.heap.size + 9) (30, 122)) (s.heap.size + 10) (30, 24)) (s.heap.size + 11) (30, 24)) (s.heap.size + 12) (30, 122)) (s.heap.size + 13) (30, 320)) (s.heap.size + 14) (0, 12)) (s.heap.size + 15) (0, 12)) h0 = none := (ts_ne (ne_lo hlt)).trans hno_73
  clear p_77
  refine hg_putF (ty := (.array .int)) hx hb hG igX12 tyX12 tyX12_ok nmX12 hown hK hS o_0 (Or.inl rfl) rfl 32 (by decide) (hG _ mw_1316) rfl hin rfl (by decide +kernel) rfl rfl (Nat.le_of_ble_eq_true rfl) dX12_init_132 (fun H locs o_0 hz oq hS => ?_)
  have o_0 : va_at g.1 vwCl (h0, .inr (12, [.ref s.heap.size, .ref (s.heap.size + 1), .int 0, .ref (s.heap.size + 2), .int 0, .int 0, .null, .int 0, .int 0, .int 0, .int 0, .ref (s.heap.size + 3), .ref (s.heap.size + 4), .int 0, .int 0, .ref (s.heap.size + 5), .ref (s.heap.size + 6), .int 0, .int 0, .int 0, .int 0, .ref (s.heap.size + 7), .int 0, .ref (s.heap.size + 8), .ref (s.heap.size + 9), .ref (s.heap.size + 10), .ref (s.heap.size + 11), .int 0, .int 0, .ref (s.heap.size + 12), .ref (s.heap.size + 13), .ref (s.heap.size + 14), .ref (s.heap.size + 15), .int 0, .null, .null, .null, .int 0, .null, .int 0, .null, .null])) H := o_0
  have hH : HT g (tset (tset (tset (tset (tset (tset (tset (tset (tset (tset (tset (tset (tset (tset (tset Ty (s.heap.size + 1) (31, 80)) (s.heap.size + 2) (1, 32)) (s.heap.size + 3) (31, 40)) (s.heap.size + 4) (31, 40)) (s.heap.size + 5) (30, 7)) (s.heap.size + 6) (31, 160)) (s.heap.size + 7) (30, 1464)) (s.heap.size + 8) (30, 122)) (s.heap.size + 9) (30, 122)) (s.heap.size + 10) (30, 24)) (s.heap.size + 11) (30, 24)) (s.heap.size + 12) (30, 122)) (s.heap.size + 13) (30, 320)) (s.heap.size + 14) (0, 12)) (s.heap.size + 15) (0, 12)) G H := hH.raw hno_78 oq
  have o_1 := o_1.kept (oq _ (Ne.symm (Nat.ne_of_lt hlt)))
  have z_79 : H.size = s.heap.size + 16 := hz.trans z_76
  clear hz oq
  refine lv_aload_n hx hb dX12_init_135 rfl (lv_at hl 0 rfl) ?_
  refine lv_bipush (v := 10) hx hb dX12_init_136 (by decide) ?_
  refine hg_newi (N := 10) hx hb (hG _ mw_145) hK hS (by decide) (by decide) (by decide) (Nat.le_of_ble_eq_true rfl) (Nat.le_of_ble_eq_true rfl) dX12_init_138 (fun H o_80 z_81 p_82 hS => ?_)
  rw [z_79] at o_80 z_81
  rw [z_79]
  have o_0 := o_0.kept (p_82 h0 o_0.lt)
  have o_1 := o_1.kept (p_82 _ o_1.lt)
  have hH : HT g (tset (tset (tset (tset (tset (tset (tset (tset (tset (tset (tset (tset (tset (tset (tset (tset Ty (s.heap.size + 1) (31, 80)) (s.heap.size + 2) (1, 32)) (s.heap.size + 3) (31, 40)) (s.heap.size + 4) (31, 40)) (s.heap.size + 5) (30, 7)) (s.heap.size + 6) (31, 160)) (s.heap.size + 7) (30, 1464)) (s.heap.size + 8) (30, 122)) (s.heap.size + 9) (30, 122)) (s.heap.size + 10) (30, 24)) (s.heap.size + 11) (30, 24)) (s.heap.size + 12) (30, 122)) (s.heap.size + 13) (30, 320)) (s.heap.size + 14) (0, 12)) (s.heap.size + 15) (0, 12)) (s.heap.size + 16) (30, 10)) G H := hH.grow (Nat.le_of_eq z_79) p_82 o_80 (by show _ = _; rw [ew16])
  have hno_83 : (tset (tset (tset (tset (tset (tset (tset (tset (tset (tset (tset (tset (tset (tset (tset (tset Ty (s.heap.size + 1) (31, 80)) (s.heap.size + 2) (1, 32)) (s.heap.size + 3) (31, 40)) (s.heap.size + 4) (31, 40)) (s.heap.size + 5) (30, 7)) (s.heap.size + 6) (31, 160)) (s.heap.size + 7) (30, 1464)) (s.heap.size + 8) (30, 122)) (s.heap.size + 9) (30, 122)) (s.heap.size + 10) (30, 24)) (s.heap.size + 11) (30, 24)) (s.heap.size + 12) (30, 122)) (s.heap.size + 13) (30, 320)) (s.heap.size + 14) (0, 12)) (s.heap.size + 15) (0, 12)) (s.heap.size + 16) (30, 10)) h0 = none := (ts_ne (ne_lo hlt)).trans hno_78
  clear p_82
  refine hg_putF (ty := (.array .int)) hx hb hG igX12 tyX12 tyX12_ok nmX12 hown hK hS o_0 (Or.inl rfl) rfl 34 (by decide) (hG _ mw_1318) rfl hin rfl (by decide +kernel) rfl rfl (Nat.le_of_ble_eq_true rfl) dX12_init_140 (fun H locs o_0 hz oq hS => ?_)
  have o_0 : va_at g.1 vwCl (h0, .inr (12, [.ref s.heap.size, .ref (s.heap.size + 1), .int 0, .ref (s.heap.size + 2), .int 0, .int 0, .null, .int 0, .int 0, .int 0, .int 0, .ref (s.heap.size + 3), .ref (s.heap.size + 4), .int 0, .int 0, .ref (s.heap.size + 5), .ref (s.heap.size + 6), .int 0, .int 0, .int 0, .int 0, .ref (s.heap.size + 7), .int 0, .ref (s.heap.size + 8), .ref (s.heap.size + 9), .ref (s.heap.size + 10), .ref (s.heap.size + 11), .int 0, .int 0, .ref (s.heap.size + 12), .ref (s.heap.size + 13), .ref (s.heap.size + 14), .ref (s.heap.size + 15), .int 0, .ref (s.heap.size + 16), .null, .null, .int 0, .null, .int 0, .null, .null])) H := o_0
  have hH : HT g (tset (tset (tset (tset (tset (tset (tset (tset (tset (tset (tset (tset (tset (tset (tset (tset Ty (s.heap.size + 1) (31, 80)) (s.heap.size + 2) (1, 32)) (s.heap.size + 3) (31, 40)) (s.heap.size + 4) (31, 40)) (s.heap.size + 5) (30, 7)) (s.heap.size + 6) (31, 160)) (s.heap.size + 7) (30, 1464)) (s.heap.size + 8) (30, 122)) (s.heap.size + 9) (30, 122)) (s.heap.size + 10) (30, 24)) (s.heap.size + 11) (30, 24)) (s.heap.size + 12) (30, 122)) (s.heap.size + 13) (30, 320)) (s.heap.size + 14) (0, 12)) (s.heap.size + 15) (0, 12)) (s.heap.size + 16) (30, 10)) G H := hH.raw hno_83 oq
  have o_1 := o_1.kept (oq _ (Ne.symm (Nat.ne_of_lt hlt)))
  have z_84 : H.size = s.heap.size + 17 := hz.trans z_81
  clear hz oq
  refine lv_aload_n hx hb dX12_init_143 rfl (lv_at hl 0 rfl) ?_
  refine lv_bipush (v := 10) hx hb dX12_init_144 (by decide) ?_
  refine hg_newi (N := 10) hx hb (hG _ mw_145) hK hS (by decide) (by decide) (by decide) (Nat.le_of_ble_eq_true rfl) (Nat.le_of_ble_eq_true rfl) dX12_init_146 (fun H o_85 z_86 p_87 hS => ?_)
  rw [z_84] at o_85 z_86
  rw [z_84]
  have o_0 := o_0.kept (p_87 h0 o_0.lt)
  have o_1 := o_1.kept (p_87 _ o_1.lt)
  have hH : HT g (tset (tset (tset (tset (tset (tset (tset (tset (tset (tset (tset (tset (tset (tset (tset (tset (tset Ty (s.heap.size + 1) (31, 80)) (s.heap.size + 2) (1, 32)) (s.heap.size + 3) (31, 40)) (s.heap.size + 4) (31, 40)) (s.heap.size + 5) (30, 7)) (s.heap.size + 6) (31, 160)) (s.heap.size + 7) (30, 1464)) (s.heap.size + 8) (30, 122)) (s.heap.size + 9) (30, 122)) (s.heap.size + 10) (30, 24)) (s.heap.size + 11) (30, 24)) (s.heap.size + 12) (30, 122)) (s.heap.size + 13) (30, 320)) (s.heap.size + 14) (0, 12)) (s.heap.size + 15) (0, 12)) (s.heap.size + 16) (30, 10)) (s.heap.size + 17) (30, 10)) G H := hH.grow (Nat.le_of_eq z_84) p_87 o_85 (by show _ = _; rw [ew17])
  have hno_88 : (tset (tset (tset (tset (tset (tset (tset (tset (tset (tset (tset (tset (tset (tset (tset (tset (tset Ty (s.heap.size + 1) (31, 80)) (s.heap.size + 2) (1, 32)) (s.heap.size + 3) (31, 40)) (s.heap.size + 4) (31, 40)) (s.heap.size + 5) (30, 7)) (s.heap.size + 6) (31, 160)) (s.heap.size + 7) (30, 1464)) (s.heap.size + 8) (30, 122)) (s.heap.size + 9) (30, 122)) (s.heap.size + 10) (30, 24)) (s.heap.size + 11) (30, 24)) (s.heap.size + 12) (30, 122)) (s.heap.size + 13) (30, 320)) (s.heap.size + 14) (0, 12)) (s.heap.size + 15) (0, 12)) (s.heap.size + 16) (30, 10)) (s.heap.size + 17) (30, 10)) h0 = none := (ts_ne (ne_lo hlt)).trans hno_83
  clear p_87
  refine hg_putF (ty := (.array .int)) hx hb hG igX12 tyX12 tyX12_ok nmX12 hown hK hS o_0 (Or.inl rfl) rfl 35 (by decide) (hG _ mw_1319) rfl hin rfl (by decide +kernel) rfl rfl (Nat.le_of_ble_eq_true rfl) dX12_init_148 (fun H locs o_0 hz oq hS => ?_)
  have o_0 : va_at g.1 vwCl (h0, .inr (12, [.ref s.heap.size, .ref (s.heap.size + 1), .int 0, .ref (s.heap.size + 2), .int 0, .int 0, .null, .int 0, .int 0, .int 0, .int 0, .ref (s.heap.size + 3), .ref (s.heap.size + 4), .int 0, .int 0, .ref (s.heap.size + 5), .ref (s.heap.size + 6), .int 0, .int 0, .int 0, .int 0, .ref (s.heap.size + 7), .int 0, .ref (s.heap.size + 8), .ref (s.heap.size + 9), .ref (s.heap.size + 10), .ref (s.heap.size + 11), .int 0, .int 0, .ref (s.heap.size + 12), .ref (s.heap.size + 13), .ref (s.heap.size + 14), .ref (s.heap.size + 15), .int 0, .ref (s.heap.size + 16), .ref (s.heap.size + 17), .null, .int 0, .null, .int 0, .null, .null])) H := o_0
  have hH : HT g (tset (tset (tset (tset (tset (tset (tset (tset (tset (tset (tset (tset (tset (tset (tset (tset (tset Ty (s.heap.size + 1) (31, 80)) (s.heap.size + 2) (1, 32)) (s.heap.size + 3) (31, 40)) (s.heap.size + 4) (31, 40)) (s.heap.size + 5) (30, 7)) (s.heap.size + 6) (31, 160)) (s.heap.size + 7) (30, 1464)) (s.heap.size + 8) (30, 122)) (s.heap.size + 9) (30, 122)) (s.heap.size + 10) (30, 24)) (s.heap.size + 11) (30, 24)) (s.heap.size + 12) (30, 122)) (s.heap.size + 13) (30, 320)) (s.heap.size + 14) (0, 12)) (s.heap.size + 15) (0, 12)) (s.heap.size + 16) (30, 10)) (s.heap.size + 17) (30, 10)) G H := hH.raw hno_88 oq
  have o_1 := o_1.kept (oq _ (Ne.symm (Nat.ne_of_lt hlt)))
  have z_89 : H.size = s.heap.size + 18 := hz.trans z_86
  clear hz oq
  refine lv_aload_n hx hb dX12_init_151 rfl (lv_at hl 0 rfl) ?_
  refine lv_bipush (v := 10) hx hb dX12_init_152 (by decide) ?_
  refine hg_newi (N := 10) hx hb (hG _ mw_145) hK hS (by decide) (by decide) (by decide) (Nat.le_of_ble_eq_true rfl) (Nat.le_of_ble_eq_true rfl) dX12_init_154 (fun H o_90 z_91 p_92 hS => ?_)
  rw [z_89] at o_90 z_91
  rw [z_89]
  have o_0 := o_0.kept (p_92 h0 o_0.lt)
  have o_1 := o_1.kept (p_92 _ o_1.lt)
  have hH : HT g (tset (tset (tset (tset (tset (tset (tset (tset (tset (tset (tset (tset (tset (tset (tset (tset (tset (tset Ty (s.heap.size + 1) (31, 80)) (s.heap.size + 2) (1, 32)) (s.heap.size + 3) (31, 40)) (s.heap.size + 4) (31, 40)) (s.heap.size + 5) (30, 7)) (s.heap.size + 6) (31, 160)) (s.heap.size + 7) (30, 1464)) (s.heap.size + 8) (30, 122)) (s.heap.size + 9) (30, 122)) (s.heap.size + 10) (30, 24)) (s.heap.size + 11) (30, 24)) (s.heap.size + 12) (30, 122)) (s.heap.size + 13) (30, 320)) (s.heap.size + 14) (0, 12)) (s.heap.size + 15) (0, 12)) (s.heap.size + 16) (30, 10)) (s.heap.size + 17) (30, 10)) (s.heap.size + 18) (30, 10)) G H := hH.grow (Nat.le_of_eq z_89) p_92 o_90 (by show _ = _; rw [ew18])
  have hno_93 : (tset (tset (tset (tset (tset (tset (tset (tset (tset (tset (tset (tset (tset (tset (tset (tset (tset (tset Ty (s.heap.size + 1) (31, 80)) (s.heap.size + 2) (1, 32)) (s.heap.size + 3) (31, 40)) (s.heap.size + 4) (31, 40)) (s.heap.size + 5) (30, 7)) (s.heap.size + 6) (31, 160)) (s.heap.size + 7) (30, 1464)) (s.heap.size + 8) (30, 122)) (s.heap.size + 9) (30, 122)) (s.heap.size + 10) (30, 24)) (s.heap.size + 11) (30, 24)) (s.heap.size + 12) (30, 122)) (s.heap.size + 13) (30, 320)) (s.heap.size + 14) (0, 12)) (s.heap.size + 15) (0, 12)) (s.heap.size + 16) (30, 10)) (s.heap.size + 17) (30, 10)) (s.heap.size + 18) (30, 10)) h0 = none := (ts_ne (ne_lo hlt)).trans hno_88
  clear p_92
  refine hg_putF (ty := (.array .int)) hx hb hG igX12 tyX12 tyX12_ok nmX12 hown hK hS o_0 (Or.inl rfl) rfl 36 (by decide) (hG _ mw_1320) rfl hin rfl (by decide +kernel) rfl rfl (Nat.le_of_ble_eq_true rfl) dX12_init_156 (fun H locs o_0 hz oq hS => ?_)
  have o_0 : va_at g.1 vwCl (h0, .inr (12, [.ref s.heap.size, .ref (s.heap.size + 1), .int 0, .ref (s.heap.size + 2), .int 0, .int 0, .null, .int 0, .int 0, .int 0, .int 0, .ref (s.heap.size + 3), .ref (s.heap.size + 4), .int 0, .int 0, .ref (s.heap.size + 5), .ref (s.heap.size + 6), .int 0, .int 0, .int 0, .int 0, .ref (s.heap.size + 7), .int 0, .ref (s.heap.size + 8), .ref (s.heap.size + 9), .ref (s.heap.size + 10), .ref (s.heap.size + 11), .int 0, .int 0, .ref (s.heap.size + 12), .ref (s.heap.size + 13), .ref (s.heap.size + 14), .ref (s.heap.size + 15), .int 0, .ref (s.heap.size + 16), .ref (s.heap.size + 17), .ref (s.heap.size + 18), .int 0, .null, .int 0, .null, .null])) H := o_0
  have hH : HT g (tset (tset (tset (tset (tset (tset (tset (tset (tset (tset (tset (tset (tset (tset (tset (tset (tset (tset Ty (s.heap.size + 1) (31, 80)) (s.heap.size + 2) (1, 32)) (s.heap.size + 3) (31, 40)) (s.heap.size + 4) (31, 40)) (s.heap.size + 5) (30, 7)) (s.heap.size + 6) (31, 160)) (s.heap.size + 7) (30, 1464)) (s.heap.size + 8) (30, 122)) (s.heap.size + 9) (30, 122)) (s.heap.size + 10) (30, 24)) (s.heap.size + 11) (30, 24)) (s.heap.size + 12) (30, 122)) (s.heap.size + 13) (30, 320)) (s.heap.size + 14) (0, 12)) (s.heap.size + 15) (0, 12)) (s.heap.size + 16) (30, 10)) (s.heap.size + 17) (30, 10)) (s.heap.size + 18) (30, 10)) G H := hH.raw hno_93 oq
  have o_1 := o_1.kept (oq _ (Ne.symm (Nat.ne_of_lt hlt)))
  have z_94 : H.size = s.heap.size + 19 := hz.trans z_91
  clear hz oq
  refine lv_aload_n hx hb dX12_init_159 rfl (lv_at hl 0 rfl) ?_
  refine lv_bipush (v := 17) hx hb dX12_init_160 (by decide) ?_
  refine hg_newl (N := 17) hx hb (hG _ mw_195) hK hS (by decide) (by decide) (by decide) (Nat.le_of_ble_eq_true rfl) (Nat.le_of_ble_eq_true rfl) dX12_init_162 (fun H o_95 z_96 p_97 hS => ?_)
  rw [z_94] at o_95 z_96
  rw [z_94]
  have o_0 := o_0.kept (p_97 h0 o_0.lt)
  have o_1 := o_1.kept (p_97 _ o_1.lt)
  have hH : HT g (tset (tset (tset (tset (tset (tset (tset (tset (tset (tset (tset (tset (tset (tset (tset (tset (tset (tset (tset Ty (s.heap.size + 1) (31, 80)) (s.heap.size + 2) (1, 32)) (s.heap.size + 3) (31, 40)) (s.heap.size + 4) (31, 40)) (s.heap.size + 5) (30, 7)) (s.heap.size + 6) (31, 160)) (s.heap.size + 7) (30, 1464)) (s.heap.size + 8) (30, 122)) (s.heap.size + 9) (30, 122)) (s.heap.size + 10) (30, 24)) (s.heap.size + 11) (30, 24)) (s.heap.size + 12) (30, 122)) (s.heap.size + 13) (30, 320)) (s.heap.size + 14) (0, 12)) (s.heap.size + 15) (0, 12)) (s.heap.size + 16) (30, 10)) (s.heap.size + 17) (30, 10)) (s.heap.size + 18) (30, 10)) (s.heap.size + 19) (1, 17)) G H := hH.grow (Nat.le_of_eq z_94) p_97 o_95 ⟨_, rfl⟩
  have hno_98 : (tset (tset (tset (tset (tset (tset (tset (tset (tset (tset (tset (tset (tset (tset (tset (tset (tset (tset (tset Ty (s.heap.size + 1) (31, 80)) (s.heap.size + 2) (1, 32)) (s.heap.size + 3) (31, 40)) (s.heap.size + 4) (31, 40)) (s.heap.size + 5) (30, 7)) (s.heap.size + 6) (31, 160)) (s.heap.size + 7) (30, 1464)) (s.heap.size + 8) (30, 122)) (s.heap.size + 9) (30, 122)) (s.heap.size + 10) (30, 24)) (s.heap.size + 11) (30, 24)) (s.heap.size + 12) (30, 122)) (s.heap.size + 13) (30, 320)) (s.heap.size + 14) (0, 12)) (s.heap.size + 15) (0, 12)) (s.heap.size + 16) (30, 10)) (s.heap.size + 17) (30, 10)) (s.heap.size + 18) (30, 10)) (s.heap.size + 19) (1, 17)) h0 = none := (ts_ne (ne_lo hlt)).trans hno_93
  clear p_97
  refine hg_putF (ty := (.array .long)) hx hb hG igX12 tyX12 tyX12_ok nmX12 hown hK hS o_0 (Or.inl rfl) rfl 38 (by decide) (hG _ mw_1322) rfl hin rfl (by decide +kernel) rfl rfl (Nat.le_of_ble_eq_true rfl) dX12_init_164 (fun H locs o_0 hz oq hS => ?_)
  have o_0 : va_at g.1 vwCl (h0, .inr (12, [.ref s.heap.size, .ref (s.heap.size + 1), .int 0, .ref (s.heap.size + 2), .int 0, .int 0, .null, .int 0, .int 0, .int 0, .int 0, .ref (s.heap.size + 3), .ref (s.heap.size + 4), .int 0, .int 0, .ref (s.heap.size + 5), .ref (s.heap.size + 6), .int 0, .int 0, .int 0, .int 0, .ref (s.heap.size + 7), .int 0, .ref (s.heap.size + 8), .ref (s.heap.size + 9), .ref (s.heap.size + 10), .ref (s.heap.size + 11), .int 0, .int 0, .ref (s.heap.size + 12), .ref (s.heap.size + 13), .ref (s.heap.size + 14), .ref (s.heap.size + 15), .int 0, .ref (s.heap.size + 16), .ref (s.heap.size + 17), .ref (s.heap.size + 18), .int 0, .ref (s.heap.size + 19), .int 0, .null, .null])) H := o_0
  have hH : HT g (tset (tset (tset (tset (tset (tset (tset (tset (tset (tset (tset (tset (tset (tset (tset (tset (tset (tset (tset Ty (s.heap.size + 1) (31, 80)) (s.heap.size + 2) (1, 32)) (s.heap.size + 3) (31, 40)) (s.heap.size + 4) (31, 40)) (s.heap.size + 5) (30, 7)) (s.heap.size + 6) (31, 160)) (s.heap.size + 7) (30, 1464)) (s.heap.size + 8) (30, 122)) (s.heap.size + 9) (30, 122)) (s.heap.size + 10) (30, 24)) (s.heap.size + 11) (30, 24)) (s.heap.size + 12) (30, 122)) (s.heap.size + 13) (30, 320)) (s.heap.size + 14) (0, 12)) (s.heap.size + 15) (0, 12)) (s.heap.size + 16) (30, 10)) (s.heap.size + 17) (30, 10)) (s.heap.size + 18) (30, 10)) (s.heap.size + 19) (1, 17)) G H := hH.raw hno_98 oq
  have o_1 := o_1.kept (oq _ (Ne.symm (Nat.ne_of_lt hlt)))
  have z_99 : H.size = s.heap.size + 20 := hz.trans z_96
  clear hz oq
  refine lv_aload_n hx hb dX12_init_167 rfl (lv_at hl 0 rfl) ?_
  refine lv_sipush (v := 244) hx hb dX12_init_168 (by decide) ?_
  refine hg_newi (N := 244) hx hb (hG _ mw_145) hK hS (by decide) (by decide) (by decide) (Nat.le_of_ble_eq_true rfl) (Nat.le_of_ble_eq_true rfl) dX12_init_171 (fun H o_100 z_101 p_102 hS => ?_)
  rw [z_99] at o_100 z_101
  rw [z_99]
  have o_0 := o_0.kept (p_102 h0 o_0.lt)
  have o_1 := o_1.kept (p_102 _ o_1.lt)
  have hH : HT g (tset (tset (tset (tset (tset (tset (tset (tset (tset (tset (tset (tset (tset (tset (tset (tset (tset (tset (tset (tset Ty (s.heap.size + 1) (31, 80)) (s.heap.size + 2) (1, 32)) (s.heap.size + 3) (31, 40)) (s.heap.size + 4) (31, 40)) (s.heap.size + 5) (30, 7)) (s.heap.size + 6) (31, 160)) (s.heap.size + 7) (30, 1464)) (s.heap.size + 8) (30, 122)) (s.heap.size + 9) (30, 122)) (s.heap.size + 10) (30, 24)) (s.heap.size + 11) (30, 24)) (s.heap.size + 12) (30, 122)) (s.heap.size + 13) (30, 320)) (s.heap.size + 14) (0, 12)) (s.heap.size + 15) (0, 12)) (s.heap.size + 16) (30, 10)) (s.heap.size + 17) (30, 10)) (s.heap.size + 18) (30, 10)) (s.heap.size + 19) (1, 17)) (s.heap.size + 20) (30, 244)) G H := hH.grow (Nat.le_of_eq z_99) p_102 o_100 (by show _ = _; rw [ew20])
  have hno_103 : (tset (tset (tset (tset (tset (tset (tset (tset (tset (tset (tset (tset (tset (tset (tset (tset (tset (tset (tset (tset Ty (s.heap.size + 1) (31, 80)) (s.heap.size + 2) (1, 32)) (s.heap.size + 3) (31, 40)) (s.heap.size + 4) (31, 40)) (s.heap.size + 5) (30, 7)) (s.heap.size + 6) (31, 160)) (s.heap.size + 7) (30, 1464)) (s.heap.size + 8) (30, 122)) (s.heap.size + 9) (30, 122)) (s.heap.size + 10) (30, 24)) (s.heap.size + 11) (30, 24)) (s.heap.size + 12) (30, 122)) (s.heap.size + 13) (30, 320)) (s.heap.size + 14) (0, 12)) (s.heap.size + 15) (0, 12)) (s.heap.size + 16) (30, 10)) (s.heap.size + 17) (30, 10)) (s.heap.size + 18) (30, 10)) (s.heap.size + 19) (1, 17)) (s.heap.size + 20) (30, 244)) h0 = none := (ts_ne (ne_lo hlt)).trans hno_98
  clear p_102
  refine hg_putF (ty := (.array .int)) hx hb hG igX12 tyX12 tyX12_ok nmX12 hown hK hS o_0 (Or.inl rfl) rfl 40 (by decide) (hG _ mw_1324) rfl hin rfl (by decide +kernel) rfl rfl (Nat.le_of_ble_eq_true rfl) dX12_init_173 (fun H locs o_0 hz oq hS => ?_)
  have o_0 : va_at g.1 vwCl (h0, .inr (12, [.ref s.heap.size, .ref (s.heap.size + 1), .int 0, .ref (s.heap.size + 2), .int 0, .int 0, .null, .int 0, .int 0, .int 0, .int 0, .ref (s.heap.size + 3), .ref (s.heap.size + 4), .int 0, .int 0, .ref (s.heap.size + 5), .ref (s.heap.size + 6), .int 0, .int 0, .int 0, .int 0, .ref (s.heap.size + 7), .int 0, .ref (s.heap.size + 8), .ref (s.heap.size + 9), .ref (s.heap.size + 10), .ref (s.heap.size + 11), .int 0, .int 0, .ref (s.heap.size + 12), .ref (s.heap.size + 13), .ref (s.heap.size + 14), .ref (s.heap.size + 15), .int 0, .ref (s.heap.size + 16), .ref (s.heap.size + 17), .ref (s.heap.size + 18), .int 0, .ref (s.heap.size + 19), .int 0, .ref (s.heap.size + 20), .null])) H := o_0
  have hH : HT g (tset (tset (tset (tset (tset (tset (tset (tset (tset (tset (tset (tset (tset (tset (tset (tset (tset (tset (tset (tset Ty (s.heap.size + 1) (31, 80)) (s.heap.size + 2) (1, 32)) (s.heap.size + 3) (31, 40)) (s.heap.size + 4) (31, 40)) (s.heap.size + 5) (30, 7)) (s.heap.size + 6) (31, 160)) (s.heap.size + 7) (30, 1464)) (s.heap.size + 8) (30, 122)) (s.heap.size + 9) (30, 122)) (s.heap.size + 10) (30, 24)) (s.heap.size + 11) (30, 24)) (s.heap.size + 12) (30, 122)) (s.heap.size + 13) (30, 320)) (s.heap.size + 14) (0, 12)) (s.heap.size + 15) (0, 12)) (s.heap.size + 16) (30, 10)) (s.heap.size + 17) (30, 10)) (s.heap.size + 18) (30, 10)) (s.heap.size + 19) (1, 17)) (s.heap.size + 20) (30, 244)) G H := hH.raw hno_103 oq
  have o_1 := o_1.kept (oq _ (Ne.symm (Nat.ne_of_lt hlt)))
  have z_104 : H.size = s.heap.size + 21 := hz.trans z_101
  clear hz oq
  refine lv_aload_n hx hb dX12_init_176 rfl (lv_at hl 0 rfl) ?_
  refine lv_iconst (v := 2) hx hb dX12_init_177 (by decide) ?_
  refine hg_newz (N := 2) hx hb (hG _ mw_1411) hK hS (by decide) (by decide) (by decide) (Nat.le_of_ble_eq_true rfl) (Nat.le_of_ble_eq_true rfl) dX12_init_178 (fun H o_105 z_106 p_107 hS => ?_)
  rw [z_104] at o_105 z_106
  rw [z_104]
  have o_0 := o_0.kept (p_107 h0 o_0.lt)
  have o_1 := o_1.kept (p_107 _ o_1.lt)
  have hH : HT g (tset (tset (tset (tset (tset (tset (tset (tset (tset (tset (tset (tset (tset (tset (tset (tset (tset (tset (tset (tset (tset Ty (s.heap.size + 1) (31, 80)) (s.heap.size + 2) (1, 32)) (s.heap.size + 3) (31, 40)) (s.heap.size + 4) (31, 40)) (s.heap.size + 5) (30, 7)) (s.heap.size + 6) (31, 160)) (s.heap.size + 7) (30, 1464)) (s.heap.size + 8) (30, 122)) (s.heap.size + 9) (30, 122)) (s.heap.size + 10) (30, 24)) (s.heap.size + 11) (30, 24)) (s.heap.size + 12) (30, 122)) (s.heap.size + 13) (30, 320)) (s.heap.size + 14) (0, 12)) (s.heap.size + 15) (0, 12)) (s.heap.size + 16) (30, 10)) (s.heap.size + 17) (30, 10)) (s.heap.size + 18) (30, 10)) (s.heap.size + 19) (1, 17)) (s.heap.size + 20) (30, 244)) (s.heap.size + 21) (33, 2)) G H := hH.grow (Nat.le_of_eq z_104) p_107 o_105 (by show _ = _; rw [ew21])
  have hno_108 : (tset (tset (tset (tset (tset (tset (tset (tset (tset (tset (tset (tset (tset (tset (tset (tset (tset (tset (tset (tset (tset Ty (s.heap.size + 1) (31, 80)) (s.heap.size + 2) (1, 32)) (s.heap.size + 3) (31, 40)) (s.heap.size + 4) (31, 40)) (s.heap.size + 5) (30, 7)) (s.heap.size + 6) (31, 160)) (s.heap.size + 7) (30, 1464)) (s.heap.size + 8) (30, 122)) (s.heap.size + 9) (30, 122)) (s.heap.size + 10) (30, 24)) (s.heap.size + 11) (30, 24)) (s.heap.size + 12) (30, 122)) (s.heap.size + 13) (30, 320)) (s.heap.size + 14) (0, 12)) (s.heap.size + 15) (0, 12)) (s.heap.size + 16) (30, 10)) (s.heap.size + 17) (30, 10)) (s.heap.size + 18) (30, 10)) (s.heap.size + 19) (1, 17)) (s.heap.size + 20) (30, 244)) (s.heap.size + 21) (33, 2)) h0 = none := (ts_ne (ne_lo hlt)).trans hno_103
  clear p_107
  refine hg_putF (ty := (.array .boolean)) hx hb hG igX12 tyX12 tyX12_ok nmX12 hown hK hS o_0 (Or.inl rfl) rfl 41 (by decide) (hG _ mw_1325) rfl hin rfl (by decide +kernel) rfl rfl (Nat.le_of_ble_eq_true rfl) dX12_init_180 (fun H locs o_0 hz oq hS => ?_)
  have o_0 : va_at g.1 vwCl (h0, .inr (12, [.ref s.heap.size, .ref (s.heap.size + 1), .int 0, .ref (s.heap.size + 2), .int 0, .int 0, .null, .int 0, .int 0, .int 0, .int 0, .ref (s.heap.size + 3), .ref (s.heap.size + 4), .int 0, .int 0, .ref (s.heap.size + 5), .ref (s.heap.size + 6), .int 0, .int 0, .int 0, .int 0, .ref (s.heap.size + 7), .int 0, .ref (s.heap.size + 8), .ref (s.heap.size + 9), .ref (s.heap.size + 10), .ref (s.heap.size + 11), .int 0, .int 0, .ref (s.heap.size + 12), .ref (s.heap.size + 13), .ref (s.heap.size + 14), .ref (s.heap.size + 15), .int 0, .ref (s.heap.size + 16), .ref (s.heap.size + 17), .ref (s.heap.size + 18), .int 0, .ref (s.heap.size + 19), .int 0, .ref (s.heap.size + 20), .ref (s.heap.size + 21)])) H := o_0
  have hH : HT g (tset (tset (tset (tset (tset (tset (tset (tset (tset (tset (tset (tset (tset (tset (tset (tset (tset (tset (tset (tset (tset Ty (s.heap.size + 1) (31, 80)) (s.heap.size + 2) (1, 32)) (s.heap.size + 3) (31, 40)) (s.heap.size + 4) (31, 40)) (s.heap.size + 5) (30, 7)) (s.heap.size + 6) (31, 160)) (s.heap.size + 7) (30, 1464)) (s.heap.size + 8) (30, 122)) (s.heap.size + 9) (30, 122)) (s.heap.size + 10) (30, 24)) (s.heap.size + 11) (30, 24)) (s.heap.size + 12) (30, 122)) (s.heap.size + 13) (30, 320)) (s.heap.size + 14) (0, 12)) (s.heap.size + 15) (0, 12)) (s.heap.size + 16) (30, 10)) (s.heap.size + 17) (30, 10)) (s.heap.size + 18) (30, 10)) (s.heap.size + 19) (1, 17)) (s.heap.size + 20) (30, 244)) (s.heap.size + 21) (33, 2)) G H := hH.raw hno_108 oq
  have o_1 := o_1.kept (oq _ (Ne.symm (Nat.ne_of_lt hlt)))
  have z_109 : H.size = s.heap.size + 22 := hz.trans z_106
  clear hz oq
  have hf0 : Ty s.heap.size = none := hH0.free (Nat.le_refl _)
  have hfn : (tset (tset (tset (tset (tset (tset (tset (tset (tset (tset (tset (tset (tset (tset (tset (tset (tset (tset (tset (tset (tset Ty (s.heap.size + 1) (31, 80)) (s.heap.size + 2) (1, 32)) (s.heap.size + 3) (31, 40)) (s.heap.size + 4) (31, 40)) (s.heap.size + 5) (30, 7)) (s.heap.size + 6) (31, 160)) (s.heap.size + 7) (30, 1464)) (s.heap.size + 8) (30, 122)) (s.heap.size + 9) (30, 122)) (s.heap.size + 10) (30, 24)) (s.heap.size + 11) (30, 24)) (s.heap.size + 12) (30, 122)) (s.heap.size + 13) (30, 320)) (s.heap.size + 14) (0, 12)) (s.heap.size + 15) (0, 12)) (s.heap.size + 16) (30, 10)) (s.heap.size + 17) (30, 10)) (s.heap.size + 18) (30, 10)) (s.heap.size + 19) (1, 17)) (s.heap.size + 20) (30, 244)) (s.heap.size + 21) (33, 2)) s.heap.size = none := ((ts_ne (ad_0 (by decide))).trans ((ts_ne (ad_0 (by decide))).trans ((ts_ne (ad_0 (by decide))).trans ((ts_ne (ad_0 (by decide))).trans ((ts_ne (ad_0 (by decide))).trans ((ts_ne (ad_0 (by decide))).trans ((ts_ne (ad_0 (by decide))).trans ((ts_ne (ad_0 (by decide))).trans ((ts_ne (ad_0 (by decide))).trans ((ts_ne (ad_0 (by decide))).trans ((ts_ne (ad_0 (by decide))).trans ((ts_ne (ad_0 (by decide))).trans ((ts_ne (ad_0 (by decide))).trans ((ts_ne (ad_0 (by decide))).trans ((ts_ne (ad_0 (by decide))).trans ((ts_ne (ad_0 (by decide))).trans ((ts_ne (ad_0 (by decide))).trans ((ts_ne (ad_0 (by decide))).trans ((ts_ne (ad_0 (by decide))).trans ((ts_ne (ad_0 (by decide))).trans ((ts_ne (ad_0 (by decide))).trans hf0)))))))))))))))))))))
  have L_185 : ∀ (n : Nat) (H : Heap) (locs : List Loc) (y1 : Int32) (f : Nat → Int32) (ls : Array Slot), rgI (0) (24) y1 → NWk f y1.toNatClampNeg → (24 - y1.toInt).toNat < n → lv_has ls 2 [(1, .int y1), (0, .ref h0)] → HT g (tset (tset (tset (tset (tset (tset (tset (tset (tset (tset (tset (tset (tset (tset (tset (tset (tset (tset (tset (tset (tset Ty (s.heap.size + 1) (31, 80)) (s.heap.size + 2) (1, 32)) (s.heap.size + 3) (31, 40)) (s.heap.size + 4) (31, 40)) (s.heap.size + 5) (30, 7)) (s.heap.size + 6) (31, 160)) (s.heap.size + 7) (30, 1464)) (s.heap.size + 8) (30, 122)) (s.heap.size + 9) (30, 122)) (s.heap.size + 10) (30, 24)) (s.heap.size + 11) (30, 24)) (s.heap.size + 12) (30, 122)) (s.heap.size + 13) (30, 320)) (s.heap.size + 14) (0, 12)) (s.heap.size + 15) (0, 12)) (s.heap.size + 16) (30, 10)) (s.heap.size + 17) (30, 10)) (s.heap.size + 18) (30, 10)) (s.heap.size + 19) (1, 17)) (s.heap.size + 20) (30, 244)) (s.heap.size + 21) (33, 2)) G H → va_at g.1 vwCl (h0, .inr (12, [.ref s.heap.size, .ref (s.heap.size + 1), .int 0, .ref (s.heap.size + 2), .int 0, .int 0, .null, .int 0, .int 0, .int 0, .int 0, .ref (s.heap.size + 3), .ref (s.heap.size + 4), .int 0, .int 0, .ref (s.heap.size + 5), .ref (s.heap.size + 6), .int 0, .int 0, .int 0, .int 0, .ref (s.heap.size + 7), .int 0, .ref (s.heap.size + 8), .ref (s.heap.size + 9), .ref (s.heap.size + 10), .ref (s.heap.size + 11), .int 0, .int 0, .ref (s.heap.size + 12), .ref (s.heap.size + 13), .ref (s.heap.size + 14), .ref (s.heap.size + 15), .int 0, .ref (s.heap.size + 16), .ref (s.heap.size + 17), .ref (s.heap.size + 18), .int 0, .ref (s.heap.size + 19), .int 0, .ref (s.heap.size + 20), .ref (s.heap.size + 21)])) H → va_at g.1 vwCl (s.heap.size, .inl (g.2.1 1, 122, .inl f)) H → H.size = s.heap.size + 22 → va_S (AN h0 s.heap.size) s.heap H locs → W p l e (headSpec (wsG yX12_init cX12_init 2 none) ({ frames := 1, cells := 22, slots := 2996, locals := 12 })).room s m [.ref h0].toArray below meth c H locs 22 2996 (MQ below (QcC g (tset (tset (tset (tset (tset (tset (tset (tset (tset (tset (tset (tset (tset (tset (tset (tset (tset (tset (tset (tset (tset (tset (tset Ty (s.heap.size + 1) (31, 80)) (s.heap.size + 2) (1, 32)) (s.heap.size + 3) (31, 40)) (s.heap.size + 4) (31, 40)) (s.heap.size + 5) (30, 7)) (s.heap.size + 6) (31, 160)) (s.heap.size + 7) (30, 1464)) (s.heap.size + 8) (30, 122)) (s.heap.size + 9) (30, 122)) (s.heap.size + 10) (30, 24)) (s.heap.size + 11) (30, 24)) (s.heap.size + 12) (30, 122)) (s.heap.size + 13) (30, 320)) (s.heap.size + 14) (0, 12)) (s.heap.size + 15) (0, 12)) (s.heap.size + 16) (30, 10)) (s.heap.size + 17) (30, 10)) (s.heap.size + 18) (30, 10)) (s.heap.size + 19) (1, 17)) (s.heap.size + 20) (30, 244)) (s.heap.size + 21) (33, 2)) s.heap.size (30, 122)) h0 (22, 0)) G s.heap.size h0 22) [.ref h0].toArray s 22 2996 (AN h0 s.heap.size)) (F0 m 185 ls []) := by
    intro n
    induction n with
    | zero => intro H locs y1 f ls ry hw hm; exact absurd hm (Nat.not_lt_zero _)
    | succ n ih =>
      intro H locs y1 f ls ry hw hm hl hH o_0 oa hz hS
      refine lv_iload_n hx hb dX12_init_185 rfl (lv_at hl 0 rfl) ?_
      refine lv_bipush (v := 24) hx hb dX12_init_186 (by decide) ?_
      refine lv_icmp_ge (tgt := 204) hx hb dX12_init_188 (by decide) (fun c1 => ?_) (fun c1 => ?_)
      · have r24 : rgI 24 24 y1 := ⟨fz_le.mp c1, ry.2⟩
        refine lv_aload_n hx hb dX12_init_204 rfl (lv_at hl 1 rfl) ?_
        refine hg_get hx hb hG igX12 hown hK o_0 rfl 0 (by decide) (hG _ mw_1284) rfl dX12_init_205 ?_
        refine lv_iconst (v := 0) hx hb dX12_init_208 (by decide) ?_
        refine lv_bipush (v := 24) hx hb dX12_init_209 (by decide) ?_
        refine hg_iast hx hb hK hS oa (Or.inr (Nat.le_refl _)) (rg_in (n := 122) (show rgI 0 0 (0 : Int32) from ⟨by decide, by decide⟩) (by decide) (by decide)) dX12_init_211 (fun H locs oa hz2 oq hS => ?_)
        have hH : HT g (tset (tset (tset (tset (tset (tset (tset (tset (tset (tset (tset (tset (tset (tset (tset (tset (tset (tset (tset (tset (tset Ty (s.heap.size + 1) (31, 80)) (s.heap.size + 2) (1, 32)) (s.heap.size + 3) (31, 40)) (s.heap.size + 4) (31, 40)) (s.heap.size + 5) (30, 7)) (s.heap.size + 6) (31, 160)) (s.heap.size + 7) (30, 1464)) (s.heap.size + 8) (30, 122)) (s.heap.size + 9) (30, 122)) (s.heap.size + 10) (30, 24)) (s.heap.size + 11) (30, 24)) (s.heap.size + 12) (30, 122)) (s.heap.size + 13) (30, 320)) (s.heap.size + 14) (0, 12)) (s.heap.size + 15) (0, 12)) (s.heap.size + 16) (30, 10)) (s.heap.size + 17) (30, 10)) (s.heap.size + 18) (30, 10)) (s.heap.size + 19) (1, 17)) (s.heap.size + 20) (30, 244)) (s.heap.size + 21) (33, 2)) G H := hH.raw hfn oq
        have o_0 := o_0.kept (oq h0 (Nat.ne_of_lt hlt))
        have hz := hz2.trans hz
        clear hz2 oq
        refine lv_aload_n hx hb dX12_init_212 rfl (lv_at hl 1 rfl) ?_
        refine hg_get hx hb hG igX12 hown hK o_0 rfl 0 (by decide) (hG _ mw_1284) rfl dX12_init_213 ?_
        refine lv_bipush (v := 24) hx hb dX12_init_216 (by decide) ?_
        refine lv_iconst (v := 4) hx hb dX12_init_218 (by decide) ?_
        refine hg_iast hx hb hK hS oa (Or.inr (Nat.le_refl _)) (rg_in (n := 122) (show rgI 24 24 (24 : Int32) from ⟨by decide, by decide⟩) (by decide) (by decide)) dX12_init_219 (fun H locs oa hz2 oq hS => ?_)
        have hH : HT g (tset (tset (tset (tset (tset (tset (tset (tset (tset (tset (tset (tset (tset (tset (tset (tset (tset (tset (tset (tset (tset Ty (s.heap.size + 1) (31, 80)) (s.heap.size + 2) (1, 32)) (s.heap.size + 3) (31, 40)) (s.heap.size + 4) (31, 40)) (s.heap.size + 5) (30, 7)) (s.heap.size + 6) (31, 160)) (s.heap.size + 7) (30, 1464)) (s.heap.size + 8) (30, 122)) (s.heap.size + 9) (30, 122)) (s.heap.size + 10) (30, 24)) (s.heap.size + 11) (30, 24)) (s.heap.size + 12) (30, 122)) (s.heap.size + 13) (30, 320)) (s.heap.size + 14) (0, 12)) (s.heap.size + 15) (0, 12)) (s.heap.size + 16) (30, 10)) (s.heap.size + 17) (30, 10)) (s.heap.size + 18) (30, 10)) (s.heap.size + 19) (1, 17)) (s.heap.size + 20) (30, 244)) (s.heap.size + 21) (33, 2)) G H := hH.raw hfn oq
        have o_0 := o_0.kept (oq h0 (Nat.ne_of_lt hlt))
        have hz := hz2.trans hz
        clear hz2 oq
        refine lv_aload_n hx hb dX12_init_220 rfl (lv_at hl 1 rfl) ?_
        refine hg_get hx hb hG igX12 hown hK o_0 rfl 0 (by decide) (hG _ mw_1284) rfl dX12_init_221 ?_
        refine lv_bipush (v := 121) hx hb dX12_init_224 (by decide) ?_
        refine lv_iconst (v := 1) hx hb dX12_init_226 (by decide) ?_
        refine hg_iast hx hb hK hS oa (Or.inr (Nat.le_refl _)) (rg_in (n := 122) (show rgI 121 121 (121 : Int32) from ⟨by decide, by decide⟩) (by decide) (by decide)) dX12_init_227 (fun H locs oa hz2 oq hS => ?_)
        have hH : HT g (tset (tset (tset (tset (tset (tset (tset (tset (tset (tset (tset (tset (tset (tset (tset (tset (tset (tset (tset (tset (tset Ty (s.heap.size + 1) (31, 80)) (s.heap.size + 2) (1, 32)) (s.heap.size + 3) (31, 40)) (s.heap.size + 4) (31, 40)) (s.heap.size + 5) (30, 7)) (s.heap.size + 6) (31, 160)) (s.heap.size + 7) (30, 1464)) (s.heap.size + 8) (30, 122)) (s.heap.size + 9) (30, 122)) (s.heap.size + 10) (30, 24)) (s.heap.size + 11) (30, 24)) (s.heap.size + 12) (30, 122)) (s.heap.size + 13) (30, 320)) (s.heap.size + 14) (0, 12)) (s.heap.size + 15) (0, 12)) (s.heap.size + 16) (30, 10)) (s.heap.size + 17) (30, 10)) (s.heap.size + 18) (30, 10)) (s.heap.size + 19) (1, 17)) (s.heap.size + 20) (30, 244)) (s.heap.size + 21) (33, 2)) G H := hH.raw hfn oq
        have o_0 := o_0.kept (oq h0 (Nat.ne_of_lt hlt))
        have hz := hz2.trans hz
        clear hz2 oq
        rw [NWk_e hw r24, ← en] at oa
        have hH : HT g (tset (tset (tset (tset (tset (tset (tset (tset (tset (tset (tset (tset (tset (tset (tset (tset (tset (tset (tset (tset (tset (tset Ty (s.heap.size + 1) (31, 80)) (s.heap.size + 2) (1, 32)) (s.heap.size + 3) (31, 40)) (s.heap.size + 4) (31, 40)) (s.heap.size + 5) (30, 7)) (s.heap.size + 6) (31, 160)) (s.heap.size + 7) (30, 1464)) (s.heap.size + 8) (30, 122)) (s.heap.size + 9) (30, 122)) (s.heap.size + 10) (30, 24)) (s.heap.size + 11) (30, 24)) (s.heap.size + 12) (30, 122)) (s.heap.size + 13) (30, 320)) (s.heap.size + 14) (0, 12)) (s.heap.size + 15) (0, 12)) (s.heap.size + 16) (30, 10)) (s.heap.size + 17) (30, 10)) (s.heap.size + 18) (30, 10)) (s.heap.size + 19) (1, 17)) (s.heap.size + 20) (30, 244)) (s.heap.size + 21) (33, 2)) s.heap.size (30, 122)) G H := HT.type hH hfn oa rfl
        have hn1 : (tset (tset (tset (tset (tset (tset (tset (tset (tset (tset (tset (tset (tset (tset (tset (tset (tset (tset (tset (tset (tset (tset Ty (s.heap.size + 1) (31, 80)) (s.heap.size + 2) (1, 32)) (s.heap.size + 3) (31, 40)) (s.heap.size + 4) (31, 40)) (s.heap.size + 5) (30, 7)) (s.heap.size + 6) (31, 160)) (s.heap.size + 7) (30, 1464)) (s.heap.size + 8) (30, 122)) (s.heap.size + 9) (30, 122)) (s.heap.size + 10) (30, 24)) (s.heap.size + 11) (30, 24)) (s.heap.size + 12) (30, 122)) (s.heap.size + 13) (30, 320)) (s.heap.size + 14) (0, 12)) (s.heap.size + 15) (0, 12)) (s.heap.size + 16) (30, 10)) (s.heap.size + 17) (30, 10)) (s.heap.size + 18) (30, 10)) (s.heap.size + 19) (1, 17)) (s.heap.size + 20) (30, 244)) (s.heap.size + 21) (33, 2)) s.heap.size (30, 122)) h0 = none := (ts_ne (Nat.ne_of_lt hlt)).trans hno_108
        have hc : (.inr (12, [.ref s.heap.size, .ref (s.heap.size + 1), .int 0, .ref (s.heap.size + 2), .int 0, .int 0, .null, .int 0, .int 0, .int 0, .int 0, .ref (s.heap.size + 3), .ref (s.heap.size + 4), .int 0, .int 0, .ref (s.heap.size + 5), .ref (s.heap.size + 6), .int 0, .int 0, .int 0, .int 0, .ref (s.heap.size + 7), .int 0, .ref (s.heap.size + 8), .ref (s.heap.size + 9), .ref (s.heap.size + 10), .ref (s.heap.size + 11), .int 0, .int 0, .ref (s.heap.size + 12), .ref (s.heap.size + 13), .ref (s.heap.size + 14), .ref (s.heap.size + 15), .int 0, .ref (s.heap.size + 16), .ref (s.heap.size + 17), .ref (s.heap.size + 18), .int 0, .ref (s.heap.size + 19), .int 0, .ref (s.heap.size + 20), .ref (s.heap.size + 21)]) : va_E) = .inr (12, mdl g G) := by unfold mdl; rw [hg100, hg101, hg103, hg115, hg116, hg121, hg123, hg124, hg125, hg126, hg129, hg130, hg131, hg132, hg134, hg135, hg136, hg138, hg140, hg141, e102, e104, e105, e107, e108, e109, e110, e113, e114, e117, e118, e119, e120, e122, e127, e128, e133, e137, e139, r106, r111, r112]; rfl
        have hH : HT g (tset (tset (tset (tset (tset (tset (tset (tset (tset (tset (tset (tset (tset (tset (tset (tset (tset (tset (tset (tset (tset (tset (tset Ty (s.heap.size + 1) (31, 80)) (s.heap.size + 2) (1, 32)) (s.heap.size + 3) (31, 40)) (s.heap.size + 4) (31, 40)) (s.heap.size + 5) (30, 7)) (s.heap.size + 6) (31, 160)) (s.heap.size + 7) (30, 1464)) (s.heap.size + 8) (30, 122)) (s.heap.size + 9) (30, 122)) (s.heap.size + 10) (30, 24)) (s.heap.size + 11) (30, 24)) (s.heap.size + 12) (30, 122)) (s.heap.size + 13) (30, 320)) (s.heap.size + 14) (0, 12)) (s.heap.size + 15) (0, 12)) (s.heap.size + 16) (30, 10)) (s.heap.size + 17) (30, 10)) (s.heap.size + 18) (30, 10)) (s.heap.size + 19) (1, 17)) (s.heap.size + 20) (30, 244)) (s.heap.size + 21) (33, 2)) s.heap.size (30, 122)) h0 (22, 0)) G H := HT.type hH hn1 o_0 ⟨hc, hg20, ⟨by rw [hg100]; exact (ts_up (Ne.symm (Nat.ne_of_lt hlt)) ts_eq), by rw [hg101]; exact (ts_up (Ne.symm (ne_lo hlt)) (ts_up (Ne.symm (ad_0 (by decide))) (ts_up (ad_ne (by decide)) (ts_up (ad_ne (by decide)) (ts_up (ad_ne (by decide)) (ts_up (ad_ne (by decide)) (ts_up (ad_ne (by decide)) (ts_up (ad_ne (by decide)) (ts_up (ad_ne (by decide)) (ts_up (ad_ne (by decide)) (ts_up (ad_ne (by decide)) (ts_up (ad_ne (by decide)) (ts_up (ad_ne (by decide)) (ts_up (ad_ne (by decide)) (ts_up (ad_ne (by decide)) (ts_up (ad_ne (by decide)) (ts_up (ad_ne (by decide)) (ts_up (ad_ne (by decide)) (ts_up (ad_ne (by decide)) (ts_up (ad_ne (by decide)) (ts_up (ad_ne (by decide)) (ts_up (ad_ne (by decide)) ts_eq)))))))))))))))))))))), by rw [hg103]; exact (ts_up (Ne.symm (ne_lo hlt)) (ts_up (Ne.symm (ad_0 (by decide))) (ts_up (ad_ne (by decide)) (ts_up (ad_ne (by decide)) (ts_up (ad_ne (by decide)) (ts_up (ad_ne (by decide)) (ts_up (ad_ne (by decide)) (ts_up (ad_ne (by decide)) (ts_up (ad_ne (by decide)) (ts_up (ad_ne (by decide)) (ts_up (ad_ne (by decide)) (ts_up (ad_ne (by decide)) (ts_up (ad_ne (by decide)) (ts_up (ad_ne (by decide)) (ts_up (ad_ne (by decide)) (ts_up (ad_ne (by decide)) (ts_up (ad_ne (by decide)) (ts_up (ad_ne (by decide)) (ts_up (ad_ne (by decide)) (ts_up (ad_ne (by decide)) (ts_up (ad_ne (by decide)) ts_eq))))))))))))))))))))), by rw [hg115]; exact (ts_up (Ne.symm (ne_lo hlt)) (ts_up (Ne.symm (ad_0 (by decide))) (ts_up (ad_ne (by decide)) (ts_up (ad_ne (by decide)) (ts_up (ad_ne (by decide)) (ts_up (ad_ne (by decide)) (ts_up (ad_ne (by decide)) (ts_up (ad_ne (by decide)) (ts_up (ad_ne (by decide)) (ts_up (ad_ne (by decide)) (ts_up (ad_ne (by decide)) (ts_up (ad_ne (by decide)) (ts_up (ad_ne (by decide)) (ts_up (ad_ne (by decide)) (ts_up (ad_ne (by decide)) (ts_up (ad_ne (by decide)) (ts_up (ad_ne (by decide)) (ts_up (ad_ne (by decide)) ts_eq)))))))))))))))))), by rw [hg116]; exact (ts_up (Ne.symm (ne_lo hlt)) (ts_up (Ne.symm (ad_0 (by decide))) (ts_up (ad_ne (by decide)) (ts_up (ad_ne (by decide)) (ts_up (ad_ne (by decide)) (ts_up (ad_ne (by decide)) (ts_up (ad_ne (by decide)) (ts_up (ad_ne (by decide)) (ts_up (ad_ne (by decide)) (ts_up (ad_ne (by decide)) (ts_up (ad_ne (by decide)) (ts_up (ad_ne (by decide)) (ts_up (ad_ne (by decide)) (ts_up (ad_ne (by decide)) (ts_up (ad_ne (by decide)) (ts_up (ad_ne (by decide)) (ts_up (ad_ne (by decide)) ts_eq))))))))))))))))), by rw [hg121]; exact (ts_up (Ne.symm (ne_lo hlt)) (ts_up (Ne.symm (ad_0 (by decide))) (ts_up (ad_ne (by decide)) (ts_up (ad_ne (by decide)) (ts_up (ad_ne (by decide)) (ts_up (ad_ne (by decide)) (ts_up (ad_ne (by decide)) (ts_up (ad_ne (by decide)) (ts_up (ad_ne (by decide)) (ts_up (ad_ne (by decide)) (ts_up (ad_ne (by decide)) (ts_up (ad_ne (by decide)) (ts_up (ad_ne (by decide)) (ts_up (ad_ne (by decide)) (ts_up (ad_ne (by decide)) (ts_up (ad_ne (by decide)) ts_eq)))))))))))))))), by rw [hg123]; exact (ts_up (Ne.symm (ne_lo hlt)) (ts_up (Ne.symm (ad_0 (by decide))) (ts_up (ad_ne (by decide)) (ts_up (ad_ne (by decide)) (ts_up (ad_ne (by decide)) (ts_up (ad_ne (by decide)) (ts_up (ad_ne (by decide)) (ts_up (ad_ne (by decide)) (ts_up (ad_ne (by decide)) (ts_up (ad_ne (by decide)) (ts_up (ad_ne (by decide)) (ts_up (ad_ne (by decide)) (ts_up (ad_ne (by decide)) (ts_up (ad_ne (by decide)) (ts_up (ad_ne (by decide)) ts_eq))))))))))))))), by rw [hg124]; exact (ts_up (Ne.symm (ne_lo hlt)) (ts_up (Ne.symm (ad_0 (by decide))) (ts_up (ad_ne (by decide)) (ts_up (ad_ne (by decide)) (ts_up (ad_ne (by decide)) (ts_up (ad_ne (by decide)) (ts_up (ad_ne (by decide)) (ts_up (ad_ne (by decide)) (ts_up (ad_ne (by decide)) (ts_up (ad_ne (by decide)) (ts_up (ad_ne (by decide)) (ts_up (ad_ne (by decide)) (ts_up (ad_ne (by decide)) (ts_up (ad_ne (by decide)) ts_eq)))))))))))))), by rw [hg125]; exact (ts_up (Ne.symm (ne_lo hlt)) (ts_up (Ne.symm (ad_0 (by decide))) (ts_up (ad_ne (by decide)) (ts_up (ad_ne (by decide)) (ts_up (ad_ne (by decide)) (ts_up (ad_ne (by decide)) (ts_up (ad_ne (by decide)) (ts_up (ad_ne (by decide)) (ts_up (ad_ne (by decide)) (ts_up (ad_ne (by decide)) (ts_up (ad_ne (by decide)) (ts_up (ad_ne (by decide)) (ts_up (ad_ne (by decide)) ts_eq))))))))))))), by rw [hg126]; exact (ts_up (Ne.symm (ne_lo hlt)) (ts_up (Ne.symm (ad_0 (by decide))) (ts_up (ad_ne (by decide)) (ts_up (ad_ne (by decide)) (ts_up (ad_ne (by decide)) (ts_up (ad_ne (by decide)) (ts_up (ad_ne (by decide)) (ts_up (ad_ne (by decide)) (ts_up (ad_ne (by decide)) (ts_up (ad_ne (by decide)) (ts_up (ad_ne (by decide)) (ts_up (ad_ne (by decide)) ts_eq)))))))))))), by rw [hg129]; exact (ts_up (Ne.symm (ne_lo hlt)) (ts_up (Ne.symm (ad_0 (by decide))) (ts_up (ad_ne (by decide)) (ts_up (ad_ne (by decide)) (ts_up (ad_ne (by decide)) (ts_up (ad_ne (by decide)) (ts_up (ad_ne (by decide)) (ts_up (ad_ne (by decide)) (ts_up (ad_ne (by decide)) (ts_up (ad_ne (by decide)) (ts_up (ad_ne (by decide)) ts_eq))))))))))), by rw [hg130]; exact (ts_up (Ne.symm (ne_lo hlt)) (ts_up (Ne.symm (ad_0 (by decide))) (ts_up (ad_ne (by decide)) (ts_up (ad_ne (by decide)) (ts_up (ad_ne (by decide)) (ts_up (ad_ne (by decide)) (ts_up (ad_ne (by decide)) (ts_up (ad_ne (by decide)) (ts_up (ad_ne (by decide)) (ts_up (ad_ne (by decide)) ts_eq)))))))))), by rw [hg131]; exact (ts_up (Ne.symm (ne_lo hlt)) (ts_up (Ne.symm (ad_0 (by decide))) (ts_up (ad_ne (by decide)) (ts_up (ad_ne (by decide)) (ts_up (ad_ne (by decide)) (ts_up (ad_ne (by decide)) (ts_up (ad_ne (by decide)) (ts_up (ad_ne (by decide)) (ts_up (ad_ne (by decide)) ts_eq))))))))), by rw [hg132]; exact (ts_up (Ne.symm (ne_lo hlt)) (ts_up (Ne.symm (ad_0 (by decide))) (ts_up (ad_ne (by decide)) (ts_up (ad_ne (by decide)) (ts_up (ad_ne (by decide)) (ts_up (ad_ne (by decide)) (ts_up (ad_ne (by decide)) (ts_up (ad_ne (by decide)) ts_eq)))))))), by rw [hg134]; exact (ts_up (Ne.symm (ne_lo hlt)) (ts_up (Ne.symm (ad_0 (by decide))) (ts_up (ad_ne (by decide)) (ts_up (ad_ne (by decide)) (ts_up (ad_ne (by decide)) (ts_up (ad_ne (by decide)) (ts_up (ad_ne (by decide)) ts_eq))))))), by rw [hg135]; exact (ts_up (Ne.symm (ne_lo hlt)) (ts_up (Ne.symm (ad_0 (by decide))) (ts_up (ad_ne (by decide)) (ts_up (ad_ne (by decide)) (ts_up (ad_ne (by decide)) (ts_up (ad_ne (by decide)) ts_eq)))))), by rw [hg136]; exact (ts_up (Ne.symm (ne_lo hlt)) (ts_up (Ne.symm (ad_0 (by decide))) (ts_up (ad_ne (by decide)) (ts_up (ad_ne (by decide)) (ts_up (ad_ne (by decide)) ts_eq))))), by rw [hg138]; exact (ts_up (Ne.symm (ne_lo hlt)) (ts_up (Ne.symm (ad_0 (by decide))) (ts_up (ad_ne (by decide)) (ts_up (ad_ne (by decide)) ts_eq)))), by rw [hg140]; exact (ts_up (Ne.symm (ne_lo hlt)) (ts_up (Ne.symm (ad_0 (by decide))) (ts_up (ad_ne (by decide)) ts_eq))), by rw [hg141]; exact (ts_up (Ne.symm (ne_lo hlt)) (ts_up (Ne.symm (ad_0 (by decide))) ts_eq)), by rw [hg111]; exact (ts_up (Ne.symm (ne_lo hlt)) (ts_up (Ne.symm (ad_0 (by decide))) (ts_up (ad_ne (by decide)) (ts_up (ad_ne (by decide)) (ts_up (ad_ne (by decide)) (ts_up (ad_ne (by decide)) (ts_up (ad_ne (by decide)) (ts_up (ad_ne (by decide)) (ts_up (ad_ne (by decide)) (ts_up (ad_ne (by decide)) (ts_up (ad_ne (by decide)) (ts_up (ad_ne (by decide)) (ts_up (ad_ne (by decide)) (ts_up (ad_ne (by decide)) (ts_up (ad_ne (by decide)) (ts_up (ad_ne (by decide)) (ts_up (ad_ne (by decide)) (ts_up (ad_ne (by decide)) (ts_up (ad_ne (by decide)) (ts_up (ad_ne (by decide)) ts_eq)))))))))))))))))))), by rw [hg112]; exact (ts_up (Ne.symm (ne_lo hlt)) (ts_up (Ne.symm (ad_0 (by decide))) (ts_up (ad_ne (by decide)) (ts_up (ad_ne (by decide)) (ts_up (ad_ne (by decide)) (ts_up (ad_ne (by decide)) (ts_up (ad_ne (by decide)) (ts_up (ad_ne (by decide)) (ts_up (ad_ne (by decide)) (ts_up (ad_ne (by decide)) (ts_up (ad_ne (by decide)) (ts_up (ad_ne (by decide)) (ts_up (ad_ne (by decide)) (ts_up (ad_ne (by decide)) (ts_up (ad_ne (by decide)) (ts_up (ad_ne (by decide)) (ts_up (ad_ne (by decide)) (ts_up (ad_ne (by decide)) (ts_up (ad_ne (by decide)) ts_eq)))))))))))))))))))⟩⟩
        exact W.vret hx hb hr (fun t ht hWm => ⟨⟨(), rfl, trivial, by show HT g (tset (tset (tset (tset (tset (tset (tset (tset (tset (tset (tset (tset (tset (tset (tset (tset (tset (tset (tset (tset (tset (tset (tset Ty (s.heap.size + 1) (31, 80)) (s.heap.size + 2) (1, 32)) (s.heap.size + 3) (31, 40)) (s.heap.size + 4) (31, 40)) (s.heap.size + 5) (30, 7)) (s.heap.size + 6) (31, 160)) (s.heap.size + 7) (30, 1464)) (s.heap.size + 8) (30, 122)) (s.heap.size + 9) (30, 122)) (s.heap.size + 10) (30, 24)) (s.heap.size + 11) (30, 24)) (s.heap.size + 12) (30, 122)) (s.heap.size + 13) (30, 320)) (s.heap.size + 14) (0, 12)) (s.heap.size + 15) (0, 12)) (s.heap.size + 16) (30, 10)) (s.heap.size + 17) (30, 10)) (s.heap.size + 18) (30, 10)) (s.heap.size + 19) (1, 17)) (s.heap.size + 20) (30, 244)) (s.heap.size + 21) (33, 2)) s.heap.size (30, 122)) h0 (22, 0)) G t.heap ∧ t.heap.size = s.heap.size + 22; rw [ht]; exact ⟨hH, hz⟩⟩, hS.F ht⟩) hS.2.2 dX12_init_228
      · have r1 : rgI (0) (23) y1 := rg_w (rg_ltL ry rl_24 (nle_lt c1)) (by decide) (by decide)
        refine lv_aload_n hx hb dX12_init_191 rfl (lv_at hl 1 rfl) ?_
        refine hg_get hx hb hG igX12 hown hK o_0 rfl 0 (by decide) (hG _ mw_1284) rfl dX12_init_192 ?_
        refine lv_iload_n hx hb dX12_init_195 rfl (lv_at hl 0 rfl) ?_
        refine lv_iconst (v := (-1)) hx hb dX12_init_196 (by decide) ?_
        refine hg_iast hx hb hK hS oa (Or.inr (Nat.le_refl _)) (rg_in (n := 122) r1 (by decide) (by decide)) dX12_init_197 (fun H locs oa hz2 oq hS => ?_)
        have hH : HT g (tset (tset (tset (tset (tset (tset (tset (tset (tset (tset (tset (tset (tset (tset (tset (tset (tset (tset (tset (tset (tset Ty (s.heap.size + 1) (31, 80)) (s.heap.size + 2) (1, 32)) (s.heap.size + 3) (31, 40)) (s.heap.size + 4) (31, 40)) (s.heap.size + 5) (30, 7)) (s.heap.size + 6) (31, 160)) (s.heap.size + 7) (30, 1464)) (s.heap.size + 8) (30, 122)) (s.heap.size + 9) (30, 122)) (s.heap.size + 10) (30, 24)) (s.heap.size + 11) (30, 24)) (s.heap.size + 12) (30, 122)) (s.heap.size + 13) (30, 320)) (s.heap.size + 14) (0, 12)) (s.heap.size + 15) (0, 12)) (s.heap.size + 16) (30, 10)) (s.heap.size + 17) (30, 10)) (s.heap.size + 18) (30, 10)) (s.heap.size + 19) (1, 17)) (s.heap.size + 20) (30, 244)) (s.heap.size + 21) (33, 2)) G H := hH.raw hfn oq
        have o_0 := o_0.kept (oq h0 (Nat.ne_of_lt hlt))
        obtain ⟨x, ex⟩ : ∃ y : Int32, y = y1 + 1 := ⟨_, rfl⟩
        have rx : rgI (1) (24) x := by rw [ex]; exact rg_w (rg_add r1 rl_1 (by decide) (by decide)) (by decide) (by decide)
        have qx : x.toInt = y1.toInt + 1 := by rw [ex]; exact rg_addE r1 rl_1 (by decide) (by decide)
        refine lv_iinc (v := x) (lv' := [(1, .int x), (0, .ref h0)]) hx hb dX12_init_198 hl (k := 0) rfl (by rw [ex]; rfl) (by decide) rfl (fun ls hl => ?_)
        refine lv_goto (tgt := 185) hx hb dX12_init_201 (by decide) ?_
        exact ih H locs x _ ls (rg_w rx (by decide) (by decide)) (NWk_s hw r1 qx) (by have h3 := r1.1; have h4 := r1.2; omega) hl hH o_0 oa (hz2.trans hz) hS
  refine lv_iconst (v := 0) hx hb dX12_init_183 (by decide) ?_
  refine lv_istore_n (lv' := [(1, .int 0), (0, .ref h0)]) hx hb dX12_init_184 rfl hl (by decide) rfl (fun ls hl => ?_)
  exact L_185 25 H locs 0 _ ls ⟨by decide, by decide⟩ NWk_0 (by decide) hl hH o_0 o_1 z_109 hS
