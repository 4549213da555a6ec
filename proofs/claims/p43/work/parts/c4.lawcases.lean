theorem mwL_mount : Cond.codeWith yL_mount cL_mount 5 (some .int) [(0, 10, 13, 13)] ∈ GW := gwt5 150 (by decide +kernel) (by decide +kernel)
theorem mwL_at : Cond.codeWith yL_at cL_at 5 (some .int) [(0, 10, 13, 13)] ∈ GW := gwt5 225 (by decide +kernel) (by decide +kernel)
theorem mwL_row : Cond.codeWith yL_row cL_row 4 (some .int) [(0, 8, 11, 13)] ∈ GW := gwt5 233 (by decide +kernel) (by decide +kernel)
section LCc
variable {p : Program} {l : Launch} {e : Env} {s : State} {m : MethodId} {below : List Frame} {meth : Method} {c : Code} {b L : Nat} {xs : Nat → Int32} {g : Gx} {H : Heap} {locs : List Loc} {cells slots : Nat} {Q : State → Prop} {ls : Array Slot} {i : Nat}
set_option maxHeartbeats 4000000 in
set_option maxRecDepth 100000 in
theorem lc_0 {B : Int} {Ty : TyM} {G : Gh} (hX : LcX p l s m meth c b L xs g i B cells slots) (hl : lv_has ls 8 (lvL s b i)) (hW : LW g s.heap.size B Ty G H) (hS : va_S (fun q => s.heap.size ≤ q) s.heap H locs) (kk : LcT p l e s m below meth c b g i B cells slots 1481 Q) : W p l e room_1 s m #[Value.ref b] below meth c H locs cells slots Q (F0 m 228 ls []) := by
  obtain ⟨hst, hL, C0, E0, hi, hBd, hc, hs⟩ := hX
  obtain ⟨hx, hb, hr, hml, hown, hts, hXs, hbl, hlocks, hgv⟩ := id C0
  obtain ⟨hK, hO, hXO, hLD, h51⟩ := id E0
  have hown : s.vm.findClass "MountPeersLaw" = some m.cls := hown
  have hts2 := lw_g2 hts
  obtain ⟨hH, hI, hE, k1, k2, k3, hN⟩ := id hW
  refine lv_aload_n hx hb dL_law_228 rfl (lv_at hl 3 rfl) ?_
  refine lw_arg (k := 1) hx hb hXs hbl hS hl hi hL (by decide) (by decide +kernel) dL_law_229 dL_law_230 dL_law_232 dL_law_233 dL_law_234 ?_
  obtain ⟨_, ⟨dr_, rfl, -⟩, o_x⟩ := hH s.heap.size _ k1
  refine va_calli (va_runV (As := [.int (xs (i + 1))]) (rest := []) ⟨hx, hb, hml, hown, hts2⟩ (c_X11_sign l g Ty G H.size s.heap.size (xs (i + 1)) k1) (cwV 1 hts2 (gwV mw_403 mw_404 mw_405 mw_76 mw_406) rfl rfl rfl hv_X11_sign ⟨Nat.le_of_ble_eq_true rfl, Nat.le_of_ble_eq_true rfl⟩) ⟨PcT_blind, hg_recv hK o_x rfl, PcT_pre hK hH⟩ rfl rfl hl.1 rfl (lv_room (Nat.le_of_ble_eq_true rfl)) dL_law_235 ⟨by show _ ≤ 1157971; omega, by show _ ≤ 5622190; omega⟩) hS (fun q _ h => af_in hN hS.1 q h) (fun q h => af_in hN hS.1 q h) (fun r_1 u_1 t_1 H_1 locs_1 ht_1 hv_1 hp_1 hB_1 hz_1 hk_1 hS_1 => ?_)
  obtain ⟨Ty_1, eT_⟩ : ∃ z, z = u_1.1 := ⟨_, rfl⟩
  obtain ⟨G_1, eG_⟩ : ∃ z, z = u_1.2 := ⟨_, rfl⟩
  have hH_1 : HT g Ty_1 G_1 H_1 := by rw [← ht_1, eT_, eG_]; exact hB_1
  have eT : Ty_1 = Ty := by rw [eT_]; exact hp_1.1
  have hrel := hp_1.2
  rw [← eG_] at hrel
  have k1_1 := k1
  have k2_1 := k2
  have k3_1 := k3
  have hN_1 := hN
  rw [← eT] at k1_1 k2_1 k3_1 hN_1
  have hI_1 : OI g B G_1 := hI.ce (CE.sign hrel) h51
  refine lv_pop hx hb dL_law_238 rfl ?_
  refine lv_aload_n hx hb dL_law_239 rfl (lv_at hl 2 rfl) ?_
  refine lw_arg (k := 1) hx hb hXs hbl hS_1 hl hi hL (by decide) (by decide +kernel) dL_law_240 dL_law_241 dL_law_243 dL_law_244 dL_law_245 ?_
  obtain ⟨_, ⟨rfl, tm_, mk_⟩, o_m⟩ := hH_1 _ _ k2_1
  refine va_calli (va_runV (As := [.int (xs (i + 1))]) (rest := []) ⟨hx, hb, hml, hown, hts2⟩ (c_X12_sign l g Ty_1 G_1 _ (s.heap.size + 40) (xs (i + 1)) k2_1 B hI_1 (by omega) hLD) (cwV 1 hts2 (gwV mw_1412 mw_1413 mw_1414 mw_88 mw_1415) rfl rfl rfl hv_X12_sign ⟨Nat.le_of_ble_eq_true rfl, Nat.le_of_ble_eq_true rfl⟩) ⟨PcT_blind, hg_recv hK o_m rfl, PcT_pre hK hH_1⟩ rfl rfl hl.1 rfl (lv_room (Nat.le_of_ble_eq_true rfl)) dL_law_246 ⟨by show _ ≤ 1157971; omega, by show _ ≤ 5622190; omega⟩) hS_1 (fun q _ h => af_in hN_1 hS_1.1 q h) (fun q h => af_in hN_1 hS_1.1 q h) (fun r_2 u_2 t_2 H_2 locs_2 ht_2 hv_2 hp_2 hB_2 hz_2 hk_2 hS_2 => ?_)
  have hH_2 : HT g Ty_1 u_2.2 H_2 := by rw [← ht_2, ← hp_2.1]; exact hB_2
  have hF_2 := hp_2.2.1
  have hI_2 : OI g (B + 3000) u_2.2 := OI.up hp_2.2.2.1 (by omega)
  have hm_2 := hp_2.2.2.2
  obtain ⟨hr_2, hE_2⟩ := EQ5.sign hLD hE hrel hF_2 hm_2
  refine lv_pop hx hb dL_law_249 rfl ?_
  refine lv_goto (tgt := 1481) hx hb dL_law_250 (by decide) ?_
  exact W.widen (k := cells + 160) (n := slots + 3160) (by omega) (by omega) (kk Ty_1 u_2.2 H_2 locs_2 _ ⟨hH_2, hI_2, hE_2, k1_1, k2_1, k3_1, hN_1⟩ hS_2 hl)
set_option maxHeartbeats 4000000 in
set_option maxRecDepth 100000 in
theorem lc_1 {B : Int} {Ty : TyM} {G : Gh} (hX : LcX p l s m meth c b L xs g i B cells slots) (hl : lv_has ls 8 (lvL s b i)) (hW : LW g s.heap.size B Ty G H) (hS : va_S (fun q => s.heap.size ≤ q) s.heap H locs) (kk : LcT p l e s m below meth c b g i B cells slots 1481 Q) : W p l e room_1 s m #[Value.ref b] below meth c H locs cells slots Q (F0 m 253 ls []) := by
  obtain ⟨hst, hL, C0, E0, hi, hBd, hc, hs⟩ := hX
  obtain ⟨hx, hb, hr, hml, hown, hts, hXs, hbl, hlocks, hgv⟩ := id C0
  obtain ⟨hK, hO, hXO, hLD, h51⟩ := id E0
  have hown : s.vm.findClass "MountPeersLaw" = some m.cls := hown
  have hts2 := lw_g2 hts
  obtain ⟨hH, hI, hE, k1, k2, k3, hN⟩ := id hW
  refine lv_aload_n hx hb dL_law_253 rfl (lv_at hl 3 rfl) ?_
  refine lw_arg (k := 1) hx hb hXs hbl hS hl hi hL (by decide) (by decide +kernel) dL_law_254 dL_law_255 dL_law_257 dL_law_258 dL_law_259 ?_
  obtain ⟨_, ⟨dr_, rfl, -⟩, o_x⟩ := hH s.heap.size _ k1
  refine va_calli (va_runV (As := [.int (xs (i + 1))]) (rest := []) ⟨hx, hb, hml, hown, hts2⟩ (c_X11_end l g Ty G H.size s.heap.size (xs (i + 1)) k1) (cwV 1 hts2 (gwV mw_411 mw_412 mw_413 mw_76 mw_414) rfl rfl rfl hv_X11_end ⟨Nat.le_of_ble_eq_true rfl, Nat.le_of_ble_eq_true rfl⟩) ⟨PcT_blind, hg_recv hK o_x rfl, PcT_pre hK hH⟩ rfl rfl hl.1 rfl (lv_room (Nat.le_of_ble_eq_true rfl)) dL_law_260 ⟨by show _ ≤ 1157971; omega, by show _ ≤ 5622190; omega⟩) hS (fun q _ h => af_in hN hS.1 q h) (fun q h => af_in hN hS.1 q h) (fun r_1 u_1 t_1 H_1 locs_1 ht_1 hv_1 hp_1 hB_1 hz_1 hk_1 hS_1 => ?_)
  obtain ⟨Ty_1, eT_⟩ : ∃ z, z = u_1.1 := ⟨_, rfl⟩
  obtain ⟨G_1, eG_⟩ : ∃ z, z = u_1.2 := ⟨_, rfl⟩
  have hH_1 : HT g Ty_1 G_1 H_1 := by rw [← ht_1, eT_, eG_]; exact hB_1
  have hp_1 := hp_1.2
  have eT : Ty_1 = Ty := by rw [eT_]; exact hp_1.1
  have hrel := hp_1.2
  rw [← eG_] at hrel
  have k1_1 := k1
  have k2_1 := k2
  have k3_1 := k3
  have hN_1 := hN
  rw [← eT] at k1_1 k2_1 k3_1 hN_1
  have hI_1 : OI g B G_1 := hI.ce (CE.cut hrel) h51
  refine lv_pop hx hb dL_law_263 rfl ?_
  refine lv_aload_n hx hb dL_law_264 rfl (lv_at hl 2 rfl) ?_
  refine lw_arg (k := 1) hx hb hXs hbl hS_1 hl hi hL (by decide) (by decide +kernel) dL_law_265 dL_law_266 dL_law_268 dL_law_269 dL_law_270 ?_
  obtain ⟨_, ⟨rfl, tm_, mk_⟩, o_m⟩ := hH_1 _ _ k2_1
  refine va_calli (va_runV (As := [.int (xs (i + 1))]) (rest := []) ⟨hx, hb, hml, hown, hts2⟩ (c_X12_end l g Ty_1 G_1 _ (s.heap.size + 40) (xs (i + 1)) k2_1 B hI_1 (by omega) hLD) (cwV 1 hts2 (gwV mw_1416 mw_1417 mw_1418 mw_88 mw_1419) rfl rfl rfl hv_X12_end ⟨Nat.le_of_ble_eq_true rfl, Nat.le_of_ble_eq_true rfl⟩) ⟨PcT_blind, hg_recv hK o_m rfl, PcT_pre hK hH_1⟩ rfl rfl hl.1 rfl (lv_room (Nat.le_of_ble_eq_true rfl)) dL_law_271 ⟨by show _ ≤ 1157971; omega, by show _ ≤ 5622190; omega⟩) hS_1 (fun q _ h => af_in hN_1 hS_1.1 q h) (fun q h => af_in hN_1 hS_1.1 q h) (fun r_2 u_2 t_2 H_2 locs_2 ht_2 hv_2 hp_2 hB_2 hz_2 hk_2 hS_2 => ?_)
  have hp_2 := hp_2.2
  have hH_2 : HT g Ty_1 u_2.2 H_2 := by rw [← ht_2, ← hp_2.1]; exact hB_2
  have hF_2 := hp_2.2.1
  have hI_2 : OI g (B + 3000) u_2.2 := OI.up hp_2.2.2.1 (by omega)
  have hm_2 := hp_2.2.2.2
  obtain ⟨hr_2, hE_2⟩ := EQ5.cut hE hrel hF_2 hm_2
  refine lv_pop hx hb dL_law_274 rfl ?_
  refine lv_goto (tgt := 1481) hx hb dL_law_275 (by decide) ?_
  exact W.widen (k := cells + 160) (n := slots + 3160) (by omega) (by omega) (kk Ty_1 u_2.2 H_2 locs_2 _ ⟨hH_2, hI_2, hE_2, k1_1, k2_1, k3_1, hN_1⟩ hS_2 hl)
set_option maxHeartbeats 4000000 in
set_option maxRecDepth 100000 in
theorem lc_2 {B : Int} {Ty : TyM} {G : Gh} (hX : LcX p l s m meth c b L xs g i B cells slots) (hl : lv_has ls 8 (lvL s b i)) (hW : LW g s.heap.size B Ty G H) (hS : va_S (fun q => s.heap.size ≤ q) s.heap H locs) (kk : LcT p l e s m below meth c b g i B cells slots 1481 Q) : W p l e room_1 s m #[Value.ref b] below meth c H locs cells slots Q (F0 m 278 ls []) := by
  obtain ⟨hst, hL, C0, E0, hi, hBd, hc, hs⟩ := hX
  obtain ⟨hx, hb, hr, hml, hown, hts, hXs, hbl, hlocks, hgv⟩ := id C0
  obtain ⟨hK, hO, hXO, hLD, h51⟩ := id E0
  have hown : s.vm.findClass "MountPeersLaw" = some m.cls := hown
  have hts2 := lw_g2 hts
  obtain ⟨hH, hI, hE, k1, k2, k3, hN⟩ := id hW
  refine lv_aload_n hx hb dL_law_278 rfl (lv_at hl 3 rfl) ?_
  obtain ⟨_, ⟨dr_, rfl, -⟩, o_x⟩ := hH s.heap.size _ k1
  refine va_calli (va_runV (As := []) (rest := []) ⟨hx, hb, hml, hown, hts2⟩ (c_X11_rule l g Ty G H.size s.heap.size  k1) (cwV 0 hts2 (gwV mw_419 mw_420 mw_421 mw_76 mw_422) rfl rfl rfl hv_X11_rule ⟨Nat.le_of_ble_eq_true rfl, Nat.le_of_ble_eq_true rfl⟩) ⟨PcO_blind, hg_recv hK o_x rfl, PcO_pre hK hH (hO.narrow (af_in hN (Nat.le_refl _))) (vaS_af hS)⟩ rfl rfl hl.1 rfl (lv_room (Nat.le_of_ble_eq_true rfl)) dL_law_279 ⟨by show _ ≤ 1157971; omega, by show _ ≤ 5622190; omega⟩) hS (fun q _ h => af_in hN hS.1 q h) (fun q h => af_in hN hS.1 q h) (fun r_1 u_1 t_1 H_1 locs_1 ht_1 hv_1 hp_1 hB_1 hz_1 hk_1 hS_1 => ?_)
  obtain ⟨Ty_1, eT_⟩ : ∃ z, z = u_1.1 := ⟨_, rfl⟩
  obtain ⟨G_1, eG_⟩ : ∃ z, z = u_1.2 := ⟨_, rfl⟩
  have hH_1 : HT g Ty_1 G_1 H_1 := by rw [← ht_1, eT_, eG_]; exact hB_1
  have eT : Ty_1 = Ty := by rw [eT_]; exact hp_1.1
  have hrel := hp_1.2
  rw [← eG_] at hrel
  have k1_1 := k1
  have k2_1 := k2
  have k3_1 := k3
  have hN_1 := hN
  rw [← eT] at k1_1 k2_1 k3_1 hN_1
  have hI_1 : OI g B G_1 := hI.ce (CE.tx hrel) h51
  refine lv_pop hx hb dL_law_282 rfl ?_
  refine lv_aload_n hx hb dL_law_283 rfl (lv_at hl 2 rfl) ?_
  obtain ⟨_, ⟨rfl, tm_, mk_⟩, o_m⟩ := hH_1 _ _ k2_1
  refine va_calli (va_runV (As := []) (rest := []) ⟨hx, hb, hml, hown, hts2⟩ (c_X12_rule l g Ty_1 G_1 _ (s.heap.size + 40)  k2_1 B hI_1 (by omega) hLD) (cwV 0 hts2 (gwV mw_1423 mw_1424 mw_1425 mw_88 mw_1426) rfl rfl rfl hv_X12_rule ⟨Nat.le_of_ble_eq_true rfl, Nat.le_of_ble_eq_true rfl⟩) ⟨PcT_blind, hg_recv hK o_m rfl, PcT_pre hK hH_1⟩ rfl rfl hl.1 rfl (lv_room (Nat.le_of_ble_eq_true rfl)) dL_law_284 ⟨by show _ ≤ 1157971; omega, by show _ ≤ 5622190; omega⟩) hS_1 (fun q _ h => af_in hN_1 hS_1.1 q h) (fun q h => af_in hN_1 hS_1.1 q h) (fun r_2 u_2 t_2 H_2 locs_2 ht_2 hv_2 hp_2 hB_2 hz_2 hk_2 hS_2 => ?_)
  have hH_2 : HT g Ty_1 u_2.2 H_2 := by rw [← ht_2, ← hp_2.1]; exact hB_2
  have hF_2 := hp_2.2.1
  have hI_2 : OI g (B + 3000) u_2.2 := OI.up hp_2.2.2.1 (by omega)
  have hm_2 := hp_2.2.2.2
  have hE_2 : EQ5 g u_2.2 := hE.tx hrel hF_2 hm_2 (by decide) ⟨hLD 141 (by decide) 111 (by decide) (by decide), trivial⟩ h51
  refine lv_pop hx hb dL_law_287 rfl ?_
  refine lv_goto (tgt := 1481) hx hb dL_law_288 (by decide) ?_
  exact W.widen (k := cells + 160) (n := slots + 3160) (by omega) (by omega) (kk Ty_1 u_2.2 H_2 locs_2 _ ⟨hH_2, hI_2, hE_2, k1_1, k2_1, k3_1, hN_1⟩ hS_2 hl)
set_option maxHeartbeats 4000000 in
set_option maxRecDepth 100000 in
theorem lc_3 {B : Int} {Ty : TyM} {G : Gh} (hX : LcX p l s m meth c b L xs g i B cells slots) (hl : lv_has ls 8 (lvL s b i)) (hW : LW g s.heap.size B Ty G H) (hS : va_S (fun q => s.heap.size ≤ q) s.heap H locs) (kk : LcT p l e s m below meth c b g i B cells slots 1481 Q) : W p l e room_1 s m #[Value.ref b] below meth c H locs cells slots Q (F0 m 291 ls []) := by
  obtain ⟨hst, hL, C0, E0, hi, hBd, hc, hs⟩ := hX
  obtain ⟨hx, hb, hr, hml, hown, hts, hXs, hbl, hlocks, hgv⟩ := id C0
  obtain ⟨hK, hO, hXO, hLD, h51⟩ := id E0
  have hown : s.vm.findClass "MountPeersLaw" = some m.cls := hown
  have hts2 := lw_g2 hts
  obtain ⟨hH, hI, hE, k1, k2, k3, hN⟩ := id hW
  refine lv_aload_n hx hb dL_law_291 rfl (lv_at hl 3 rfl) ?_
  obtain ⟨_, ⟨dr_, rfl, -⟩, o_x⟩ := hH s.heap.size _ k1
  refine va_calli (va_runV (As := []) (rest := []) ⟨hx, hb, hml, hown, hts2⟩ (c_X11_place l g Ty G H.size s.heap.size  k1) (cwV 0 hts2 (gwV mw_565 mw_566 mw_567 mw_76 mw_568) rfl rfl rfl hv_X11_place ⟨Nat.le_of_ble_eq_true rfl, Nat.le_of_ble_eq_true rfl⟩) ⟨PcT_blind, hg_recv hK o_x rfl, PcT_pre hK hH⟩ rfl rfl hl.1 rfl (lv_room (Nat.le_of_ble_eq_true rfl)) dL_law_292 ⟨by show _ ≤ 1157971; omega, by show _ ≤ 5622190; omega⟩) hS (fun q _ h => af_in hN hS.1 q h) (fun q h => af_in hN hS.1 q h) (fun r_1 u_1 t_1 H_1 locs_1 ht_1 hv_1 hp_1 hB_1 hz_1 hk_1 hS_1 => ?_)
  obtain ⟨Ty_1, eT_⟩ : ∃ z, z = u_1.1 := ⟨_, rfl⟩
  obtain ⟨G_1, eG_⟩ : ∃ z, z = u_1.2 := ⟨_, rfl⟩
  have hH_1 : HT g Ty_1 G_1 H_1 := by rw [← ht_1, eT_, eG_]; exact hB_1
  have eT : Ty_1 = Ty := by rw [eT_]; exact hp_1.1
  have hrel := hp_1.2
  rw [← eG_] at hrel
  have k1_1 := k1
  have k2_1 := k2
  have k3_1 := k3
  have hN_1 := hN
  rw [← eT] at k1_1 k2_1 k3_1 hN_1
  have hI_1 : OI g B G_1 := hI.ce (CE.tx hrel) h51
  refine lv_pop hx hb dL_law_295 rfl ?_
  refine lv_aload_n hx hb dL_law_296 rfl (lv_at hl 2 rfl) ?_
  obtain ⟨_, ⟨rfl, tm_, mk_⟩, o_m⟩ := hH_1 _ _ k2_1
  refine va_calli (va_runV (As := []) (rest := []) ⟨hx, hb, hml, hown, hts2⟩ (c_X12_place l g Ty_1 G_1 _ (s.heap.size + 40)  k2_1 B hI_1 (by omega) hLD) (cwV 0 hts2 (gwV mw_1490 mw_1491 mw_1492 mw_88 mw_1493) rfl rfl rfl hv_X12_place ⟨Nat.le_of_ble_eq_true rfl, Nat.le_of_ble_eq_true rfl⟩) ⟨PcT_blind, hg_recv hK o_m rfl, PcT_pre hK hH_1⟩ rfl rfl hl.1 rfl (lv_room (Nat.le_of_ble_eq_true rfl)) dL_law_297 ⟨by show _ ≤ 1157971; omega, by show _ ≤ 5622190; omega⟩) hS_1 (fun q _ h => af_in hN_1 hS_1.1 q h) (fun q h => af_in hN_1 hS_1.1 q h) (fun r_2 u_2 t_2 H_2 locs_2 ht_2 hv_2 hp_2 hB_2 hz_2 hk_2 hS_2 => ?_)
  have hH_2 : HT g Ty_1 u_2.2 H_2 := by rw [← ht_2, ← hp_2.1]; exact hB_2
  have hF_2 := hp_2.2.1
  have hI_2 : OI g (B + 3000) u_2.2 := OI.up hp_2.2.2.1 (by omega)
  have hm_2 := hp_2.2.2.2
  have hE_2 : EQ5 g u_2.2 := hE.tx hrel hF_2 hm_2 (by decide) ⟨hLD 141 (by decide) 116 (by decide) (by decide), trivial⟩ h51
  refine lv_pop hx hb dL_law_300 rfl ?_
  refine lv_goto (tgt := 1481) hx hb dL_law_301 (by decide) ?_
  exact W.widen (k := cells + 160) (n := slots + 3160) (by omega) (by omega) (kk Ty_1 u_2.2 H_2 locs_2 _ ⟨hH_2, hI_2, hE_2, k1_1, k2_1, k3_1, hN_1⟩ hS_2 hl)
set_option maxHeartbeats 4000000 in
set_option maxRecDepth 100000 in
theorem lc_4 {B : Int} {Ty : TyM} {G : Gh} (hX : LcX p l s m meth c b L xs g i B cells slots) (hl : lv_has ls 8 (lvL s b i)) (hW : LW g s.heap.size B Ty G H) (hS : va_S (fun q => s.heap.size ≤ q) s.heap H locs) (kk : LcT p l e s m below meth c b g i B cells slots 1481 Q) : W p l e room_1 s m #[Value.ref b] below meth c H locs cells slots Q (F0 m 304 ls []) := by
  obtain ⟨hst, hL, C0, E0, hi, hBd, hc, hs⟩ := hX
  obtain ⟨hx, hb, hr, hml, hown, hts, hXs, hbl, hlocks, hgv⟩ := id C0
  obtain ⟨hK, hO, hXO, hLD, h51⟩ := id E0
  have hown : s.vm.findClass "MountPeersLaw" = some m.cls := hown
  have hts2 := lw_g2 hts
  obtain ⟨hH, hI, hE, k1, k2, k3, hN⟩ := id hW
  refine lv_aload_n hx hb dL_law_304 rfl (lv_at hl 3 rfl) ?_
  refine lw_arg (k := 1) hx hb hXs hbl hS hl hi hL (by decide) (by decide +kernel) dL_law_305 dL_law_306 dL_law_308 dL_law_309 dL_law_310 ?_
  refine lw_arg (k := 2) hx hb hXs hbl hS hl hi hL (by decide) (by decide +kernel) dL_law_311 dL_law_312 dL_law_314 dL_law_315 dL_law_316 ?_
  refine lv_aload_n hx hb dL_law_317 rfl (lv_at hl 1 rfl) ?_
  refine va_calli (vx_noX (vx_runSX (As := [.ref s.heap.size, .int (xs (i + 1)), .int (xs (i + 2)), .ref (s.heap.size + 63)]) (rest := []) ⟨hx, hb, hml, hown, hts2⟩ (c_L_mount l hst g Ty G H.size s.heap.size (s.heap.size + 63) (xs (i + 1)) (xs (i + 2)) k1 k3) (vx_cwSW 4 hts2 (gwSW mw_1183 mw_1184 mw_75 mwL_mount) rfl rfl rfl ⟨by decide +kernel, by decide +kernel, by decide +kernel⟩ ⟨Nat.le_of_ble_eq_true rfl, Nat.le_of_ble_eq_true rfl⟩) ⟨PcX_blind, PcX_pre hK hH (hXO.narrow (af_in hN (Nat.le_refl _))) (vaS_af hS)⟩ rfl rfl hl.1 rfl (lv_room (Nat.le_of_ble_eq_true rfl)) dL_law_318 ⟨by show _ ≤ 1157971; omega, by show _ ≤ 5622190; omega⟩)) hS (fun q _ h => af_in hN hS.1 q h) (fun q h => af_in hN hS.1 q h) (fun r_1 u_1 t_1 H_1 locs_1 ht_1 hv_1 hp_1 hB_1 hz_1 hk_1 hS_1 => ?_)
  obtain ⟨Ty_1, eT_⟩ : ∃ z, z = u_1.1 := ⟨_, rfl⟩
  obtain ⟨G_1, eG_⟩ : ∃ z, z = u_1.2 := ⟨_, rfl⟩
  have hH_1 : HT g Ty_1 G_1 H_1 := by rw [← ht_1, eT_, eG_]; exact hB_1
  have eT : Ty_1 = Ty := by rw [eT_, hp_1]
  have eG : G_1 = G := by rw [eG_, hp_1]
  have k1_1 := k1
  have k2_1 := k2
  have k3_1 := k3
  have hN_1 := hN
  rw [← eT] at k1_1 k2_1 k3_1 hN_1
  have hI_1 : OI g B G_1 := hI.ce (CE.of eG) h51
  have hE_1 : EQ5 g G_1 := by rw [eG]; exact hE
  refine lv_istore (lv' := (5, .int r_1) :: lvL s b i) hx hb dL_law_321 hl (by decide) rfl (fun ls hl => ?_)
  have hl : lv_has ls 8 (lvL s b i) := lv_sub hl [1, 2, 3, 4, 5] rfl
  refine lv_aload_n hx hb dL_law_323 rfl (lv_at hl 2 rfl) ?_
  refine lw_arg (k := 1) hx hb hXs hbl hS_1 hl hi hL (by decide) (by decide +kernel) dL_law_324 dL_law_325 dL_law_327 dL_law_328 dL_law_329 ?_
  refine lw_arg (k := 2) hx hb hXs hbl hS_1 hl hi hL (by decide) (by decide +kernel) dL_law_330 dL_law_331 dL_law_333 dL_law_334 dL_law_335 ?_
  obtain ⟨_, ⟨rfl, tm_, mk_⟩, o_m⟩ := hH_1 _ _ k2_1
  refine va_calli (va_runV (As := [.int (xs (i + 1)), .int (xs (i + 2))]) (rest := []) ⟨hx, hb, hml, hown, hts2⟩ (c_X12_mount l g Ty_1 G_1 _ (s.heap.size + 40) (xs (i + 1)) (xs (i + 2)) k2_1 B hI_1 (by omega) hLD) (cwV 2 hts2 (gwV mw_1510 mw_1511 mw_1512 mw_88 mw_1513) rfl rfl rfl hv_X12_mount ⟨Nat.le_of_ble_eq_true rfl, Nat.le_of_ble_eq_true rfl⟩) ⟨PcT_blind, hg_recv hK o_m rfl, PcT_pre hK hH_1⟩ rfl rfl hl.1 rfl (lv_room (Nat.le_of_ble_eq_true rfl)) dL_law_336 ⟨by show _ ≤ 1157971; omega, by show _ ≤ 5622190; omega⟩) hS_1 (fun q _ h => af_in hN_1 hS_1.1 q h) (fun q h => af_in hN_1 hS_1.1 q h) (fun r_2 u_2 t_2 H_2 locs_2 ht_2 hv_2 hp_2 hB_2 hz_2 hk_2 hS_2 => ?_)
  have hH_2 : HT g Ty_1 u_2.2 H_2 := by rw [← ht_2, ← hp_2.1]; exact hB_2
  have hF_2 := hp_2.2.1
  have hI_2 : OI g (B + 3000) u_2.2 := OI.up hp_2.2.2 (by omega)
  have hE_2 : EQ5 g u_2.2 := hE_1.r hF_2 (by decide) trivial
  refine lv_istore (lv' := (6, .int r_2) :: lvL s b i) hx hb dL_law_339 hl (by decide) rfl (fun ls hl => ?_)
  have hl : lv_has ls 8 (lvL s b i) := lv_sub hl [1, 2, 3, 4, 5] rfl
  refine lv_goto (tgt := 1481) hx hb dL_law_341 (by decide) ?_
  exact W.widen (k := cells + 160) (n := slots + 3160) (by omega) (by omega) (kk Ty_1 u_2.2 H_2 locs_2 _ ⟨hH_2, hI_2, hE_2, k1_1, k2_1, k3_1, hN_1⟩ hS_2 hl)
set_option maxHeartbeats 4000000 in
set_option maxRecDepth 100000 in
theorem lc_5 {B : Int} {Ty : TyM} {G : Gh} (hX : LcX p l s m meth c b L xs g i B cells slots) (hl : lv_has ls 8 (lvL s b i)) (hW : LW g s.heap.size B Ty G H) (hS : va_S (fun q => s.heap.size ≤ q) s.heap H locs) (kk : LcT p l e s m below meth c b g i B cells slots 1481 Q) : W p l e room_1 s m #[Value.ref b] below meth c H locs cells slots Q (F0 m 344 ls []) := by
  obtain ⟨hst, hL, C0, E0, hi, hBd, hc, hs⟩ := hX
  obtain ⟨hx, hb, hr, hml, hown, hts, hXs, hbl, hlocks, hgv⟩ := id C0
  obtain ⟨hK, hO, hXO, hLD, h51⟩ := id E0
  have hown : s.vm.findClass "MountPeersLaw" = some m.cls := hown
  have hts2 := lw_g2 hts
  obtain ⟨hH, hI, hE, k1, k2, k3, hN⟩ := id hW
  refine lv_aload_n hx hb dL_law_344 rfl (lv_at hl 3 rfl) ?_
  refine lw_arg (k := 1) hx hb hXs hbl hS hl hi hL (by decide) (by decide +kernel) dL_law_345 dL_law_346 dL_law_348 dL_law_349 dL_law_350 ?_
  refine lw_arg (k := 2) hx hb hXs hbl hS hl hi hL (by decide) (by decide +kernel) dL_law_351 dL_law_352 dL_law_354 dL_law_355 dL_law_356 ?_
  refine lv_aload_n hx hb dL_law_357 rfl (lv_at hl 1 rfl) ?_
  refine va_calli (vx_noX (vx_runSX (As := [.ref s.heap.size, .int (xs (i + 1)), .int (xs (i + 2)), .ref (s.heap.size + 63)]) (rest := []) ⟨hx, hb, hml, hown, hts2⟩ (c_L_at l hst g Ty G H.size s.heap.size (s.heap.size + 63) (xs (i + 1)) (xs (i + 2)) k1 k3) (vx_cwSW 4 hts2 (gwSW mw_1258 mw_1259 mw_75 mwL_at) rfl rfl rfl ⟨by decide +kernel, by decide +kernel, by decide +kernel⟩ ⟨Nat.le_of_ble_eq_true rfl, Nat.le_of_ble_eq_true rfl⟩) ⟨PcX_blind, PcX_pre hK hH (hXO.narrow (af_in hN (Nat.le_refl _))) (vaS_af hS)⟩ rfl rfl hl.1 rfl (lv_room (Nat.le_of_ble_eq_true rfl)) dL_law_358 ⟨by show _ ≤ 1157971; omega, by show _ ≤ 5622190; omega⟩)) hS (fun q _ h => af_in hN hS.1 q h) (fun q h => af_in hN hS.1 q h) (fun r_1 u_1 t_1 H_1 locs_1 ht_1 hv_1 hp_1 hB_1 hz_1 hk_1 hS_1 => ?_)
  obtain ⟨Ty_1, eT_⟩ : ∃ z, z = u_1.1 := ⟨_, rfl⟩
  obtain ⟨G_1, eG_⟩ : ∃ z, z = u_1.2 := ⟨_, rfl⟩
  have hH_1 : HT g Ty_1 G_1 H_1 := by rw [← ht_1, eT_, eG_]; exact hB_1
  have eT : Ty_1 = Ty := by rw [eT_, hp_1]
  have eG : G_1 = G := by rw [eG_, hp_1]
  have k1_1 := k1
  have k2_1 := k2
  have k3_1 := k3
  have hN_1 := hN
  rw [← eT] at k1_1 k2_1 k3_1 hN_1
  have hI_1 : OI g B G_1 := hI.ce (CE.of eG) h51
  have hE_1 : EQ5 g G_1 := by rw [eG]; exact hE
  refine lv_istore (lv' := (5, .int r_1) :: lvL s b i) hx hb dL_law_361 hl (by decide) rfl (fun ls hl => ?_)
  have hl : lv_has ls 8 (lvL s b i) := lv_sub hl [1, 2, 3, 4, 5] rfl
  refine lv_aload_n hx hb dL_law_363 rfl (lv_at hl 2 rfl) ?_
  refine lw_arg (k := 1) hx hb hXs hbl hS_1 hl hi hL (by decide) (by decide +kernel) dL_law_364 dL_law_365 dL_law_367 dL_law_368 dL_law_369 ?_
  refine lw_arg (k := 2) hx hb hXs hbl hS_1 hl hi hL (by decide) (by decide +kernel) dL_law_370 dL_law_371 dL_law_373 dL_law_374 dL_law_375 ?_
  obtain ⟨_, ⟨rfl, tm_, mk_⟩, o_m⟩ := hH_1 _ _ k2_1
  refine va_calli (va_runV (As := [.int (xs (i + 1)), .int (xs (i + 2))]) (rest := []) ⟨hx, hb, hml, hown, hts2⟩ (c_X12_at l g Ty_1 G_1 _ (s.heap.size + 40) (xs (i + 1)) (xs (i + 2)) k2_1 B hI_1 (by omega) hLD) (cwV 2 hts2 (gwV mw_1527 mw_1528 mw_1529 mw_88 mw_1530) rfl rfl rfl hv_X12_at ⟨Nat.le_of_ble_eq_true rfl, Nat.le_of_ble_eq_true rfl⟩) ⟨PcT_blind, hg_recv hK o_m rfl, PcT_pre hK hH_1⟩ rfl rfl hl.1 rfl (lv_room (Nat.le_of_ble_eq_true rfl)) dL_law_376 ⟨by show _ ≤ 1157971; omega, by show _ ≤ 5622190; omega⟩) hS_1 (fun q _ h => af_in hN_1 hS_1.1 q h) (fun q h => af_in hN_1 hS_1.1 q h) (fun r_2 u_2 t_2 H_2 locs_2 ht_2 hv_2 hp_2 hB_2 hz_2 hk_2 hS_2 => ?_)
  have hH_2 : HT g Ty_1 u_2.2 H_2 := by rw [← ht_2, ← hp_2.1]; exact hB_2
  have hF_2 := hp_2.2.1
  have hI_2 : OI g (B + 3000) u_2.2 := OI.up hp_2.2.2 (by omega)
  have hE_2 : EQ5 g u_2.2 := hE_1.r hF_2 (by decide) trivial
  refine lv_istore (lv' := (6, .int r_2) :: lvL s b i) hx hb dL_law_379 hl (by decide) rfl (fun ls hl => ?_)
  have hl : lv_has ls 8 (lvL s b i) := lv_sub hl [1, 2, 3, 4, 5] rfl
  refine lv_goto (tgt := 1481) hx hb dL_law_381 (by decide) ?_
  exact W.widen (k := cells + 160) (n := slots + 3160) (by omega) (by omega) (kk Ty_1 u_2.2 H_2 locs_2 _ ⟨hH_2, hI_2, hE_2, k1_1, k2_1, k3_1, hN_1⟩ hS_2 hl)
set_option maxHeartbeats 4000000 in
set_option maxRecDepth 100000 in
theorem lc_6 {B : Int} {Ty : TyM} {G : Gh} (hX : LcX p l s m meth c b L xs g i B cells slots) (hl : lv_has ls 8 (lvL s b i)) (hW : LW g s.heap.size B Ty G H) (hS : va_S (fun q => s.heap.size ≤ q) s.heap H locs) (kk : LcT p l e s m below meth c b g i B cells slots 1481 Q) : W p l e room_1 s m #[Value.ref b] below meth c H locs cells slots Q (F0 m 384 ls []) := by
  obtain ⟨hst, hL, C0, E0, hi, hBd, hc, hs⟩ := hX
  obtain ⟨hx, hb, hr, hml, hown, hts, hXs, hbl, hlocks, hgv⟩ := id C0
  obtain ⟨hK, hO, hXO, hLD, h51⟩ := id E0
  have hown : s.vm.findClass "MountPeersLaw" = some m.cls := hown
  have hts2 := lw_g2 hts
  obtain ⟨hH, hI, hE, k1, k2, k3, hN⟩ := id hW
  refine lv_aload_n hx hb dL_law_384 rfl (lv_at hl 3 rfl) ?_
  refine lw_arg (k := 1) hx hb hXs hbl hS hl hi hL (by decide) (by decide +kernel) dL_law_385 dL_law_386 dL_law_388 dL_law_389 dL_law_390 ?_
  refine lw_arg (k := 2) hx hb hXs hbl hS hl hi hL (by decide) (by decide +kernel) dL_law_391 dL_law_392 dL_law_394 dL_law_395 dL_law_396 ?_
  refine lw_arg (k := 3) hx hb hXs hbl hS hl hi hL (by decide) (by decide +kernel) dL_law_397 dL_law_398 dL_law_400 dL_law_401 dL_law_402 ?_
  refine lw_arg (k := 4) hx hb hXs hbl hS hl hi hL (by decide) (by decide +kernel) dL_law_403 dL_law_404 dL_law_406 dL_law_407 dL_law_408 ?_
  obtain ⟨_, ⟨dr_, rfl, -⟩, o_x⟩ := hH s.heap.size _ k1
  refine va_calli (va_runV (As := [.int (xs (i + 1)), .int (xs (i + 2)), .int (xs (i + 3)), .int (xs (i + 4))]) (rest := []) ⟨hx, hb, hml, hown, hts2⟩ (c_X11_sheet l g Ty G H.size s.heap.size (xs (i + 1)) (xs (i + 2)) (xs (i + 3)) (xs (i + 4)) k1) (cwV 4 hts2 (gwV mw_595 mw_596 mw_597 mw_76 mw_598) rfl rfl rfl hv_X11_sheet ⟨Nat.le_of_ble_eq_true rfl, Nat.le_of_ble_eq_true rfl⟩) ⟨PcT_blind, hg_recv hK o_x rfl, PcT_pre hK hH⟩ rfl rfl hl.1 rfl (lv_room (Nat.le_of_ble_eq_true rfl)) dL_law_409 ⟨by show _ ≤ 1157971; omega, by show _ ≤ 5622190; omega⟩) hS (fun q _ h => af_in hN hS.1 q h) (fun q h => af_in hN hS.1 q h) (fun r_1 u_1 t_1 H_1 locs_1 ht_1 hv_1 hp_1 hB_1 hz_1 hk_1 hS_1 => ?_)
  obtain ⟨Ty_1, eT_⟩ : ∃ z, z = u_1.1 := ⟨_, rfl⟩
  obtain ⟨G_1, eG_⟩ : ∃ z, z = u_1.2 := ⟨_, rfl⟩
  have hH_1 : HT g Ty_1 G_1 H_1 := by rw [← ht_1, eT_, eG_]; exact hB_1
  have eT : Ty_1 = Ty := by rw [eT_, hp_1]
  have eG : G_1 = G := by rw [eG_, hp_1]
  have k1_1 := k1
  have k2_1 := k2
  have k3_1 := k3
  have hN_1 := hN
  rw [← eT] at k1_1 k2_1 k3_1 hN_1
  have hI_1 : OI g B G_1 := hI.ce (CE.of eG) h51
  have hE_1 : EQ5 g G_1 := by rw [eG]; exact hE
  refine lv_pop hx hb dL_law_412 rfl ?_
  refine lv_aload_n hx hb dL_law_413 rfl (lv_at hl 2 rfl) ?_
  refine lw_arg (k := 1) hx hb hXs hbl hS_1 hl hi hL (by decide) (by decide +kernel) dL_law_414 dL_law_415 dL_law_417 dL_law_418 dL_law_419 ?_
  refine lw_arg (k := 2) hx hb hXs hbl hS_1 hl hi hL (by decide) (by decide +kernel) dL_law_420 dL_law_421 dL_law_423 dL_law_424 dL_law_425 ?_
  refine lw_arg (k := 3) hx hb hXs hbl hS_1 hl hi hL (by decide) (by decide +kernel) dL_law_426 dL_law_427 dL_law_429 dL_law_430 dL_law_431 ?_
  refine lw_arg (k := 4) hx hb hXs hbl hS_1 hl hi hL (by decide) (by decide +kernel) dL_law_432 dL_law_433 dL_law_435 dL_law_436 dL_law_437 ?_
  obtain ⟨_, ⟨rfl, tm_, mk_⟩, o_m⟩ := hH_1 _ _ k2_1
  refine va_calli (va_runV (As := [.int (xs (i + 1)), .int (xs (i + 2)), .int (xs (i + 3)), .int (xs (i + 4))]) (rest := []) ⟨hx, hb, hml, hown, hts2⟩ (c_X12_sheet l g Ty_1 G_1 _ (s.heap.size + 40) (xs (i + 1)) (xs (i + 2)) (xs (i + 3)) (xs (i + 4)) k2_1 B hI_1 (by omega) hLD) (cwV 4 hts2 (gwV mw_1534 mw_1535 mw_1536 mw_88 mw_1537) rfl rfl rfl hv_X12_sheet ⟨Nat.le_of_ble_eq_true rfl, Nat.le_of_ble_eq_true rfl⟩) ⟨PcT_blind, hg_recv hK o_m rfl, PcT_pre hK hH_1⟩ rfl rfl hl.1 rfl (lv_room (Nat.le_of_ble_eq_true rfl)) dL_law_438 ⟨by show _ ≤ 1157971; omega, by show _ ≤ 5622190; omega⟩) hS_1 (fun q _ h => af_in hN_1 hS_1.1 q h) (fun q h => af_in hN_1 hS_1.1 q h) (fun r_2 u_2 t_2 H_2 locs_2 ht_2 hv_2 hp_2 hB_2 hz_2 hk_2 hS_2 => ?_)
  have hH_2 : HT g Ty_1 u_2.2 H_2 := by rw [← ht_2, ← hp_2.1]; exact hB_2
  have hF_2 := hp_2.2.1
  have hI_2 : OI g (B + 3000) u_2.2 := OI.up hp_2.2.2 (by omega)
  have hE_2 : EQ5 g u_2.2 := hE_1.r hF_2 (by decide) ⟨hLD 141 (by decide) 100 (by decide) (by decide), trivial⟩
  refine lv_pop hx hb dL_law_441 rfl ?_
  refine lv_goto (tgt := 1481) hx hb dL_law_442 (by decide) ?_
  exact W.widen (k := cells + 160) (n := slots + 3160) (by omega) (by omega) (kk Ty_1 u_2.2 H_2 locs_2 _ ⟨hH_2, hI_2, hE_2, k1_1, k2_1, k3_1, hN_1⟩ hS_2 hl)
set_option maxHeartbeats 4000000 in
set_option maxRecDepth 100000 in
theorem lc_7 {B : Int} {Ty : TyM} {G : Gh} (hX : LcX p l s m meth c b L xs g i B cells slots) (hl : lv_has ls 8 (lvL s b i)) (hW : LW g s.heap.size B Ty G H) (hS : va_S (fun q => s.heap.size ≤ q) s.heap H locs) (kk : LcT p l e s m below meth c b g i B cells slots 1481 Q) : W p l e room_1 s m #[Value.ref b] below meth c H locs cells slots Q (F0 m 445 ls []) := by
  obtain ⟨hst, hL, C0, E0, hi, hBd, hc, hs⟩ := hX
  obtain ⟨hx, hb, hr, hml, hown, hts, hXs, hbl, hlocks, hgv⟩ := id C0
  obtain ⟨hK, hO, hXO, hLD, h51⟩ := id E0
  have hown : s.vm.findClass "MountPeersLaw" = some m.cls := hown
  have hts2 := lw_g2 hts
  obtain ⟨hH, hI, hE, k1, k2, k3, hN⟩ := id hW
  refine lv_aload_n hx hb dL_law_445 rfl (lv_at hl 3 rfl) ?_
  refine lw_arg (k := 1) hx hb hXs hbl hS hl hi hL (by decide) (by decide +kernel) dL_law_446 dL_law_447 dL_law_449 dL_law_450 dL_law_451 ?_
  refine lw_arg (k := 2) hx hb hXs hbl hS hl hi hL (by decide) (by decide +kernel) dL_law_452 dL_law_453 dL_law_455 dL_law_456 dL_law_457 ?_
  obtain ⟨_, ⟨dr_, rfl, -⟩, o_x⟩ := hH s.heap.size _ k1
  refine va_calli (va_runV (As := [.int (xs (i + 1)), .int (xs (i + 2))]) (rest := []) ⟨hx, hb, hml, hown, hts2⟩ (c_X11_mounts l g Ty G H.size s.heap.size (xs (i + 1)) (xs (i + 2)) k1) (cwV 2 hts2 (gwV mw_624 mw_625 mw_626 mw_76 mw_627) rfl rfl rfl hv_X11_mounts ⟨Nat.le_of_ble_eq_true rfl, Nat.le_of_ble_eq_true rfl⟩) ⟨PcT_blind, hg_recv hK o_x rfl, PcT_pre hK hH⟩ rfl rfl hl.1 rfl (lv_room (Nat.le_of_ble_eq_true rfl)) dL_law_458 ⟨by show _ ≤ 1157971; omega, by show _ ≤ 5622190; omega⟩) hS (fun q _ h => af_in hN hS.1 q h) (fun q h => af_in hN hS.1 q h) (fun r_1 u_1 t_1 H_1 locs_1 ht_1 hv_1 hp_1 hB_1 hz_1 hk_1 hS_1 => ?_)
  obtain ⟨Ty_1, eT_⟩ : ∃ z, z = u_1.1 := ⟨_, rfl⟩
  obtain ⟨G_1, eG_⟩ : ∃ z, z = u_1.2 := ⟨_, rfl⟩
  have hH_1 : HT g Ty_1 G_1 H_1 := by rw [← ht_1, eT_, eG_]; exact hB_1
  have hX_1 : Ext H.size Ty Ty_1 := by rw [eT_]; exact hp_1.1
  have eG : G_1 = G := by rw [eG_]; exact hp_1.2
  have k1_1 := hX_1.1 _ _ k1
  have k2_1 := hX_1.1 _ _ k2
  have k3_1 := hX_1.1 _ _ k3
  have hN_1 := ext_in hX_1 hN hS.1
  have hI_1 : OI g B G_1 := hI.ce (CE.of eG) h51
  have hE_1 : EQ5 g G_1 := by rw [eG]; exact hE
  refine lv_pop hx hb dL_law_461 rfl ?_
  refine lv_aload_n hx hb dL_law_462 rfl (lv_at hl 2 rfl) ?_
  refine lw_arg (k := 1) hx hb hXs hbl hS_1 hl hi hL (by decide) (by decide +kernel) dL_law_463 dL_law_464 dL_law_466 dL_law_467 dL_law_468 ?_
  refine lw_arg (k := 2) hx hb hXs hbl hS_1 hl hi hL (by decide) (by decide +kernel) dL_law_469 dL_law_470 dL_law_472 dL_law_473 dL_law_474 ?_
  obtain ⟨_, ⟨rfl, tm_, mk_⟩, o_m⟩ := hH_1 _ _ k2_1
  refine va_calli (va_runV (As := [.int (xs (i + 1)), .int (xs (i + 2))]) (rest := []) ⟨hx, hb, hml, hown, hts2⟩ (c_X12_mounts l g Ty_1 G_1 _ (s.heap.size + 40) (xs (i + 1)) (xs (i + 2)) k2_1 B hI_1 (by omega) hLD) (cwV 2 hts2 (gwV mw_1538 mw_1539 mw_1540 mw_88 mw_1541) rfl rfl rfl hv_X12_mounts ⟨Nat.le_of_ble_eq_true rfl, Nat.le_of_ble_eq_true rfl⟩) ⟨PcT_blind, hg_recv hK o_m rfl, PcT_pre hK hH_1⟩ rfl rfl hl.1 rfl (lv_room (Nat.le_of_ble_eq_true rfl)) dL_law_475 ⟨by show _ ≤ 1157971; omega, by show _ ≤ 5622190; omega⟩) hS_1 (fun q _ h => af_in hN_1 hS_1.1 q h) (fun q h => af_in hN_1 hS_1.1 q h) (fun r_2 u_2 t_2 H_2 locs_2 ht_2 hv_2 hp_2 hB_2 hz_2 hk_2 hS_2 => ?_)
  have hH_2 : HT g Ty_1 u_2.2 H_2 := by rw [← ht_2, ← hp_2.1]; exact hB_2
  have hF_2 := hp_2.2.1
  have hI_2 : OI g (B + 3000) u_2.2 := OI.up hp_2.2.2 (by omega)
  have hE_2 : EQ5 g u_2.2 := hE_1.r hF_2 (by decide) ⟨hLD 141 (by decide) 100 (by decide) (by decide), hLD 141 (by decide) 115 (by decide) (by decide), hLD 141 (by decide) 125 (by decide) (by decide), hLD 141 (by decide) 126 (by decide) (by decide), hLD 141 (by decide) 121 (by decide) (by decide), trivial⟩
  refine lv_pop hx hb dL_law_478 rfl ?_
  refine lv_goto (tgt := 1481) hx hb dL_law_479 (by decide) ?_
  exact W.widen (k := cells + 160) (n := slots + 3160) (by omega) (by omega) (kk Ty_1 u_2.2 H_2 locs_2 _ ⟨hH_2, hI_2, hE_2, k1_1, k2_1, k3_1, hN_1⟩ hS_2 hl)
set_option maxHeartbeats 4000000 in
set_option maxRecDepth 100000 in
theorem lc_8 {B : Int} {Ty : TyM} {G : Gh} (hX : LcX p l s m meth c b L xs g i B cells slots) (hl : lv_has ls 8 (lvL s b i)) (hW : LW g s.heap.size B Ty G H) (hS : va_S (fun q => s.heap.size ≤ q) s.heap H locs) (kk : LcT p l e s m below meth c b g i B cells slots 1481 Q) : W p l e room_1 s m #[Value.ref b] below meth c H locs cells slots Q (F0 m 482 ls []) := by
  obtain ⟨hst, hL, C0, E0, hi, hBd, hc, hs⟩ := hX
  obtain ⟨hx, hb, hr, hml, hown, hts, hXs, hbl, hlocks, hgv⟩ := id C0
  obtain ⟨hK, hO, hXO, hLD, h51⟩ := id E0
  have hown : s.vm.findClass "MountPeersLaw" = some m.cls := hown
  have hts2 := lw_g2 hts
  obtain ⟨hH, hI, hE, k1, k2, k3, hN⟩ := id hW
  refine lv_aload_n hx hb dL_law_482 rfl (lv_at hl 3 rfl) ?_
  refine lw_arg (k := 1) hx hb hXs hbl hS hl hi hL (by decide) (by decide +kernel) dL_law_483 dL_law_484 dL_law_486 dL_law_487 dL_law_488 ?_
  refine lw_arg (k := 2) hx hb hXs hbl hS hl hi hL (by decide) (by decide +kernel) dL_law_489 dL_law_490 dL_law_492 dL_law_493 dL_law_494 ?_
  refine lw_arg (k := 3) hx hb hXs hbl hS hl hi hL (by decide) (by decide +kernel) dL_law_495 dL_law_496 dL_law_498 dL_law_499 dL_law_500 ?_
  obtain ⟨_, ⟨dr_, rfl, -⟩, o_x⟩ := hH s.heap.size _ k1
  refine va_calli (va_runV (As := [.int (xs (i + 1)), .int (xs (i + 2)), .int (xs (i + 3))]) (rest := []) ⟨hx, hb, hml, hown, hts2⟩ (c_X11_binds l g Ty G H.size s.heap.size (xs (i + 1)) (xs (i + 2)) (xs (i + 3)) k1) (cwV 3 hts2 (gwV mw_757 mw_758 mw_759 mw_76 mw_760) rfl rfl rfl hv_X11_binds ⟨Nat.le_of_ble_eq_true rfl, Nat.le_of_ble_eq_true rfl⟩) ⟨PcT_blind, hg_recv hK o_x rfl, PcT_pre hK hH⟩ rfl rfl hl.1 rfl (lv_room (Nat.le_of_ble_eq_true rfl)) dL_law_501 ⟨by show _ ≤ 1157971; omega, by show _ ≤ 5622190; omega⟩) hS (fun q _ h => af_in hN hS.1 q h) (fun q h => af_in hN hS.1 q h) (fun r_1 u_1 t_1 H_1 locs_1 ht_1 hv_1 hp_1 hB_1 hz_1 hk_1 hS_1 => ?_)
  obtain ⟨Ty_1, eT_⟩ : ∃ z, z = u_1.1 := ⟨_, rfl⟩
  obtain ⟨G_1, eG_⟩ : ∃ z, z = u_1.2 := ⟨_, rfl⟩
  have hH_1 : HT g Ty_1 G_1 H_1 := by rw [← ht_1, eT_, eG_]; exact hB_1
  have hX_1 : Ext H.size Ty Ty_1 := by rw [eT_]; exact hp_1.1
  have eG : G_1 = G := by rw [eG_]; exact hp_1.2
  have k1_1 := hX_1.1 _ _ k1
  have k2_1 := hX_1.1 _ _ k2
  have k3_1 := hX_1.1 _ _ k3
  have hN_1 := ext_in hX_1 hN hS.1
  have hI_1 : OI g B G_1 := hI.ce (CE.of eG) h51
  have hE_1 : EQ5 g G_1 := by rw [eG]; exact hE
  refine lv_pop hx hb dL_law_504 rfl ?_
  refine lv_aload_n hx hb dL_law_505 rfl (lv_at hl 2 rfl) ?_
  refine lw_arg (k := 1) hx hb hXs hbl hS_1 hl hi hL (by decide) (by decide +kernel) dL_law_506 dL_law_507 dL_law_509 dL_law_510 dL_law_511 ?_
  refine lw_arg (k := 2) hx hb hXs hbl hS_1 hl hi hL (by decide) (by decide +kernel) dL_law_512 dL_law_513 dL_law_515 dL_law_516 dL_law_517 ?_
  refine lw_arg (k := 3) hx hb hXs hbl hS_1 hl hi hL (by decide) (by decide +kernel) dL_law_518 dL_law_519 dL_law_521 dL_law_522 dL_law_523 ?_
  obtain ⟨_, ⟨rfl, tm_, mk_⟩, o_m⟩ := hH_1 _ _ k2_1
  refine va_calli (va_runV (As := [.int (xs (i + 1)), .int (xs (i + 2)), .int (xs (i + 3))]) (rest := []) ⟨hx, hb, hml, hown, hts2⟩ (c_X12_binds l g Ty_1 G_1 _ (s.heap.size + 40) (xs (i + 1)) (xs (i + 2)) (xs (i + 3)) k2_1 B hI_1 (by omega) hLD) (cwV 3 hts2 (gwV mw_1605 mw_1606 mw_1607 mw_88 mw_1608) rfl rfl rfl hv_X12_binds ⟨Nat.le_of_ble_eq_true rfl, Nat.le_of_ble_eq_true rfl⟩) ⟨PcT_blind, hg_recv hK o_m rfl, PcT_pre hK hH_1⟩ rfl rfl hl.1 rfl (lv_room (Nat.le_of_ble_eq_true rfl)) dL_law_524 ⟨by show _ ≤ 1157971; omega, by show _ ≤ 5622190; omega⟩) hS_1 (fun q _ h => af_in hN_1 hS_1.1 q h) (fun q h => af_in hN_1 hS_1.1 q h) (fun r_2 u_2 t_2 H_2 locs_2 ht_2 hv_2 hp_2 hB_2 hz_2 hk_2 hS_2 => ?_)
  have hH_2 : HT g Ty_1 u_2.2 H_2 := by rw [← ht_2, ← hp_2.1]; exact hB_2
  have hF_2 := hp_2.2.1
  have hI_2 : OI g (B + 3000) u_2.2 := OI.up hp_2.2.2 (by omega)
  have hE_2 : EQ5 g u_2.2 := hE_1.r hF_2 (by decide) ⟨hLD 141 (by decide) 100 (by decide) (by decide), hLD 141 (by decide) 115 (by decide) (by decide), hLD 141 (by decide) 125 (by decide) (by decide), hLD 141 (by decide) 126 (by decide) (by decide), hLD 141 (by decide) 121 (by decide) (by decide), trivial⟩
  refine lv_pop hx hb dL_law_527 rfl ?_
  refine lv_goto (tgt := 1481) hx hb dL_law_528 (by decide) ?_
  exact W.widen (k := cells + 160) (n := slots + 3160) (by omega) (by omega) (kk Ty_1 u_2.2 H_2 locs_2 _ ⟨hH_2, hI_2, hE_2, k1_1, k2_1, k3_1, hN_1⟩ hS_2 hl)
set_option maxHeartbeats 4000000 in
set_option maxRecDepth 100000 in
theorem lc_9 {B : Int} {Ty : TyM} {G : Gh} (hX : LcX p l s m meth c b L xs g i B cells slots) (hl : lv_has ls 8 (lvL s b i)) (hW : LW g s.heap.size B Ty G H) (hS : va_S (fun q => s.heap.size ≤ q) s.heap H locs) (kk : LcT p l e s m below meth c b g i B cells slots 1481 Q) : W p l e room_1 s m #[Value.ref b] below meth c H locs cells slots Q (F0 m 531 ls []) := by
  obtain ⟨hst, hL, C0, E0, hi, hBd, hc, hs⟩ := hX
  obtain ⟨hx, hb, hr, hml, hown, hts, hXs, hbl, hlocks, hgv⟩ := id C0
  obtain ⟨hK, hO, hXO, hLD, h51⟩ := id E0
  have hown : s.vm.findClass "MountPeersLaw" = some m.cls := hown
  have hts2 := lw_g2 hts
  obtain ⟨hH, hI, hE, k1, k2, k3, hN⟩ := id hW
  refine lv_aload_n hx hb dL_law_531 rfl (lv_at hl 3 rfl) ?_
  refine lw_arg (k := 1) hx hb hXs hbl hS hl hi hL (by decide) (by decide +kernel) dL_law_532 dL_law_533 dL_law_535 dL_law_536 dL_law_537 ?_
  refine lw_arg (k := 2) hx hb hXs hbl hS hl hi hL (by decide) (by decide +kernel) dL_law_538 dL_law_539 dL_law_541 dL_law_542 dL_law_543 ?_
  refine lw_arg (k := 3) hx hb hXs hbl hS hl hi hL (by decide) (by decide +kernel) dL_law_544 dL_law_545 dL_law_547 dL_law_548 dL_law_549 ?_
  obtain ⟨_, ⟨dr_, rfl, -⟩, o_x⟩ := hH s.heap.size _ k1
  refine va_calli (va_runV (As := [.int (xs (i + 1)), .int (xs (i + 2)), .int (xs (i + 3))]) (rest := []) ⟨hx, hb, hml, hown, hts2⟩ (c_X11_trees l g Ty G H.size s.heap.size (xs (i + 1)) (xs (i + 2)) (xs (i + 3)) k1) (cwV 3 hts2 (gwV mw_770 mw_771 mw_772 mw_76 mw_773) rfl rfl rfl hv_X11_trees ⟨Nat.le_of_ble_eq_true rfl, Nat.le_of_ble_eq_true rfl⟩) ⟨PcT_blind, hg_recv hK o_x rfl, PcT_pre hK hH⟩ rfl rfl hl.1 rfl (lv_room (Nat.le_of_ble_eq_true rfl)) dL_law_550 ⟨by show _ ≤ 1157971; omega, by show _ ≤ 5622190; omega⟩) hS (fun q _ h => af_in hN hS.1 q h) (fun q h => af_in hN hS.1 q h) (fun r_1 u_1 t_1 H_1 locs_1 ht_1 hv_1 hp_1 hB_1 hz_1 hk_1 hS_1 => ?_)
  obtain ⟨Ty_1, eT_⟩ : ∃ z, z = u_1.1 := ⟨_, rfl⟩
  obtain ⟨G_1, eG_⟩ : ∃ z, z = u_1.2 := ⟨_, rfl⟩
  have hH_1 : HT g Ty_1 G_1 H_1 := by rw [← ht_1, eT_, eG_]; exact hB_1
  have hX_1 : Ext H.size Ty Ty_1 := by rw [eT_]; exact hp_1.1
  have eG : G_1 = G := by rw [eG_]; exact hp_1.2
  have k1_1 := hX_1.1 _ _ k1
  have k2_1 := hX_1.1 _ _ k2
  have k3_1 := hX_1.1 _ _ k3
  have hN_1 := ext_in hX_1 hN hS.1
  have hI_1 : OI g B G_1 := hI.ce (CE.of eG) h51
  have hE_1 : EQ5 g G_1 := by rw [eG]; exact hE
  refine lv_pop hx hb dL_law_553 rfl ?_
  refine lv_aload_n hx hb dL_law_554 rfl (lv_at hl 2 rfl) ?_
  refine lw_arg (k := 1) hx hb hXs hbl hS_1 hl hi hL (by decide) (by decide +kernel) dL_law_555 dL_law_556 dL_law_558 dL_law_559 dL_law_560 ?_
  refine lw_arg (k := 2) hx hb hXs hbl hS_1 hl hi hL (by decide) (by decide +kernel) dL_law_561 dL_law_562 dL_law_564 dL_law_565 dL_law_566 ?_
  refine lw_arg (k := 3) hx hb hXs hbl hS_1 hl hi hL (by decide) (by decide +kernel) dL_law_567 dL_law_568 dL_law_570 dL_law_571 dL_law_572 ?_
  obtain ⟨_, ⟨rfl, tm_, mk_⟩, o_m⟩ := hH_1 _ _ k2_1
  refine va_calli (va_runV (As := [.int (xs (i + 1)), .int (xs (i + 2)), .int (xs (i + 3))]) (rest := []) ⟨hx, hb, hml, hown, hts2⟩ (c_X12_trees l g Ty_1 G_1 _ (s.heap.size + 40) (xs (i + 1)) (xs (i + 2)) (xs (i + 3)) k2_1 B hI_1 (by omega) hLD) (cwV 3 hts2 (gwV mw_1613 mw_1614 mw_1615 mw_88 mw_1616) rfl rfl rfl hv_X12_trees ⟨Nat.le_of_ble_eq_true rfl, Nat.le_of_ble_eq_true rfl⟩) ⟨PcT_blind, hg_recv hK o_m rfl, PcT_pre hK hH_1⟩ rfl rfl hl.1 rfl (lv_room (Nat.le_of_ble_eq_true rfl)) dL_law_573 ⟨by show _ ≤ 1157971; omega, by show _ ≤ 5622190; omega⟩) hS_1 (fun q _ h => af_in hN_1 hS_1.1 q h) (fun q h => af_in hN_1 hS_1.1 q h) (fun r_2 u_2 t_2 H_2 locs_2 ht_2 hv_2 hp_2 hB_2 hz_2 hk_2 hS_2 => ?_)
  have hH_2 : HT g Ty_1 u_2.2 H_2 := by rw [← ht_2, ← hp_2.1]; exact hB_2
  have hF_2 := hp_2.2.1
  have hI_2 : OI g (B + 3000) u_2.2 := OI.up hp_2.2.2 (by omega)
  have hE_2 : EQ5 g u_2.2 := hE_1.r hF_2 (by decide) ⟨hLD 141 (by decide) 100 (by decide) (by decide), hLD 141 (by decide) 115 (by decide) (by decide), hLD 141 (by decide) 125 (by decide) (by decide), hLD 141 (by decide) 126 (by decide) (by decide), hLD 141 (by decide) 121 (by decide) (by decide), hLD 141 (by decide) 129 (by decide) (by decide), trivial⟩
  refine lv_pop hx hb dL_law_576 rfl ?_
  refine lv_goto (tgt := 1481) hx hb dL_law_577 (by decide) ?_
  exact W.widen (k := cells + 160) (n := slots + 3160) (by omega) (by omega) (kk Ty_1 u_2.2 H_2 locs_2 _ ⟨hH_2, hI_2, hE_2, k1_1, k2_1, k3_1, hN_1⟩ hS_2 hl)
set_option maxHeartbeats 4000000 in
set_option maxRecDepth 100000 in
theorem lc_10 {B : Int} {Ty : TyM} {G : Gh} (hX : LcX p l s m meth c b L xs g i B cells slots) (hl : lv_has ls 8 (lvL s b i)) (hW : LW g s.heap.size B Ty G H) (hS : va_S (fun q => s.heap.size ≤ q) s.heap H locs) (kk : LcT p l e s m below meth c b g i B cells slots 1481 Q) : W p l e room_1 s m #[Value.ref b] below meth c H locs cells slots Q (F0 m 580 ls []) := by
  obtain ⟨hst, hL, C0, E0, hi, hBd, hc, hs⟩ := hX
  obtain ⟨hx, hb, hr, hml, hown, hts, hXs, hbl, hlocks, hgv⟩ := id C0
  obtain ⟨hK, hO, hXO, hLD, h51⟩ := id E0
  have hown : s.vm.findClass "MountPeersLaw" = some m.cls := hown
  have hts2 := lw_g2 hts
  obtain ⟨hH, hI, hE, k1, k2, k3, hN⟩ := id hW
  refine lv_aload_n hx hb dL_law_580 rfl (lv_at hl 3 rfl) ?_
  refine lw_arg (k := 1) hx hb hXs hbl hS hl hi hL (by decide) (by decide +kernel) dL_law_581 dL_law_582 dL_law_584 dL_law_585 dL_law_586 ?_
  refine lw_arg (k := 2) hx hb hXs hbl hS hl hi hL (by decide) (by decide +kernel) dL_law_587 dL_law_588 dL_law_590 dL_law_591 dL_law_592 ?_
  obtain ⟨_, ⟨dr_, rfl, -⟩, o_x⟩ := hH s.heap.size _ k1
  refine va_calli (va_runV (As := [.int (xs (i + 1)), .int (xs (i + 2))]) (rest := []) ⟨hx, hb, hml, hown, hts2⟩ (c_X11_makes l g Ty G H.size s.heap.size (xs (i + 1)) (xs (i + 2)) k1) (cwV 2 hts2 (gwV mw_788 mw_789 mw_790 mw_76 mw_791) rfl rfl rfl hv_X11_makes ⟨Nat.le_of_ble_eq_true rfl, Nat.le_of_ble_eq_true rfl⟩) ⟨PcT_blind, hg_recv hK o_x rfl, PcT_pre hK hH⟩ rfl rfl hl.1 rfl (lv_room (Nat.le_of_ble_eq_true rfl)) dL_law_593 ⟨by show _ ≤ 1157971; omega, by show _ ≤ 5622190; omega⟩) hS (fun q _ h => af_in hN hS.1 q h) (fun q h => af_in hN hS.1 q h) (fun r_1 u_1 t_1 H_1 locs_1 ht_1 hv_1 hp_1 hB_1 hz_1 hk_1 hS_1 => ?_)
  obtain ⟨Ty_1, eT_⟩ : ∃ z, z = u_1.1 := ⟨_, rfl⟩
  obtain ⟨G_1, eG_⟩ : ∃ z, z = u_1.2 := ⟨_, rfl⟩
  have hH_1 : HT g Ty_1 G_1 H_1 := by rw [← ht_1, eT_, eG_]; exact hB_1
  have hX_1 : Ext H.size Ty Ty_1 := by rw [eT_]; exact hp_1.1
  have eG : G_1 = G := by rw [eG_]; exact hp_1.2
  have k1_1 := hX_1.1 _ _ k1
  have k2_1 := hX_1.1 _ _ k2
  have k3_1 := hX_1.1 _ _ k3
  have hN_1 := ext_in hX_1 hN hS.1
  have hI_1 : OI g B G_1 := hI.ce (CE.of eG) h51
  have hE_1 : EQ5 g G_1 := by rw [eG]; exact hE
  refine lv_pop hx hb dL_law_596 rfl ?_
  refine lv_aload_n hx hb dL_law_597 rfl (lv_at hl 2 rfl) ?_
  refine lw_arg (k := 1) hx hb hXs hbl hS_1 hl hi hL (by decide) (by decide +kernel) dL_law_598 dL_law_599 dL_law_601 dL_law_602 dL_law_603 ?_
  refine lw_arg (k := 2) hx hb hXs hbl hS_1 hl hi hL (by decide) (by decide +kernel) dL_law_604 dL_law_605 dL_law_607 dL_law_608 dL_law_609 ?_
  obtain ⟨_, ⟨rfl, tm_, mk_⟩, o_m⟩ := hH_1 _ _ k2_1
  refine va_calli (va_runV (As := [.int (xs (i + 1)), .int (xs (i + 2))]) (rest := []) ⟨hx, hb, hml, hown, hts2⟩ (c_X12_makes l g Ty_1 G_1 _ (s.heap.size + 40) (xs (i + 1)) (xs (i + 2)) k2_1 B hI_1 (by omega) hLD) (cwV 2 hts2 (gwV mw_1632 mw_1633 mw_1634 mw_88 mw_1635) rfl rfl rfl hv_X12_makes ⟨Nat.le_of_ble_eq_true rfl, Nat.le_of_ble_eq_true rfl⟩) ⟨PcT_blind, hg_recv hK o_m rfl, PcT_pre hK hH_1⟩ rfl rfl hl.1 rfl (lv_room (Nat.le_of_ble_eq_true rfl)) dL_law_610 ⟨by show _ ≤ 1157971; omega, by show _ ≤ 5622190; omega⟩) hS_1 (fun q _ h => af_in hN_1 hS_1.1 q h) (fun q h => af_in hN_1 hS_1.1 q h) (fun r_2 u_2 t_2 H_2 locs_2 ht_2 hv_2 hp_2 hB_2 hz_2 hk_2 hS_2 => ?_)
  have hH_2 : HT g Ty_1 u_2.2 H_2 := by rw [← ht_2, ← hp_2.1]; exact hB_2
  have hF_2 := hp_2.2.1
  have hI_2 : OI g (B + 3000) u_2.2 := OI.up hp_2.2.2 (by omega)
  have hE_2 : EQ5 g u_2.2 := hE_1.r hF_2 (by decide) ⟨hLD 141 (by decide) 100 (by decide) (by decide), hLD 141 (by decide) 121 (by decide) (by decide), trivial⟩
  refine lv_pop hx hb dL_law_613 rfl ?_
  refine lv_goto (tgt := 1481) hx hb dL_law_614 (by decide) ?_
  exact W.widen (k := cells + 160) (n := slots + 3160) (by omega) (by omega) (kk Ty_1 u_2.2 H_2 locs_2 _ ⟨hH_2, hI_2, hE_2, k1_1, k2_1, k3_1, hN_1⟩ hS_2 hl)
set_option maxHeartbeats 4000000 in
set_option maxRecDepth 100000 in
theorem lc_11 {B : Int} {Ty : TyM} {G : Gh} (hX : LcX p l s m meth c b L xs g i B cells slots) (hl : lv_has ls 8 (lvL s b i)) (hW : LW g s.heap.size B Ty G H) (hS : va_S (fun q => s.heap.size ≤ q) s.heap H locs) (kk : LcT p l e s m below meth c b g i B cells slots 1481 Q) : W p l e room_1 s m #[Value.ref b] below meth c H locs cells slots Q (F0 m 617 ls []) := by
  obtain ⟨hst, hL, C0, E0, hi, hBd, hc, hs⟩ := hX
  obtain ⟨hx, hb, hr, hml, hown, hts, hXs, hbl, hlocks, hgv⟩ := id C0
  obtain ⟨hK, hO, hXO, hLD, h51⟩ := id E0
  have hown : s.vm.findClass "MountPeersLaw" = some m.cls := hown
  have hts2 := lw_g2 hts
  obtain ⟨hH, hI, hE, k1, k2, k3, hN⟩ := id hW
  refine lv_aload_n hx hb dL_law_617 rfl (lv_at hl 3 rfl) ?_
  refine lw_arg (k := 1) hx hb hXs hbl hS hl hi hL (by decide) (by decide +kernel) dL_law_618 dL_law_619 dL_law_621 dL_law_622 dL_law_623 ?_
  refine lw_arg (k := 2) hx hb hXs hbl hS hl hi hL (by decide) (by decide +kernel) dL_law_624 dL_law_625 dL_law_627 dL_law_628 dL_law_629 ?_
  obtain ⟨_, ⟨dr_, rfl, -⟩, o_x⟩ := hH s.heap.size _ k1
  refine va_calli (va_runV (As := [.int (xs (i + 1)), .int (xs (i + 2))]) (rest := []) ⟨hx, hb, hml, hown, hts2⟩ (c_X11_unmounts l g Ty G H.size s.heap.size (xs (i + 1)) (xs (i + 2)) k1) (cwV 2 hts2 (gwV mw_819 mw_820 mw_821 mw_76 mw_822) rfl rfl rfl hv_X11_unmounts ⟨Nat.le_of_ble_eq_true rfl, Nat.le_of_ble_eq_true rfl⟩) ⟨PcT_blind, hg_recv hK o_x rfl, PcT_pre hK hH⟩ rfl rfl hl.1 rfl (lv_room (Nat.le_of_ble_eq_true rfl)) dL_law_630 ⟨by show _ ≤ 1157971; omega, by show _ ≤ 5622190; omega⟩) hS (fun q _ h => af_in hN hS.1 q h) (fun q h => af_in hN hS.1 q h) (fun r_1 u_1 t_1 H_1 locs_1 ht_1 hv_1 hp_1 hB_1 hz_1 hk_1 hS_1 => ?_)
  obtain ⟨Ty_1, eT_⟩ : ∃ z, z = u_1.1 := ⟨_, rfl⟩
  obtain ⟨G_1, eG_⟩ : ∃ z, z = u_1.2 := ⟨_, rfl⟩
  have hH_1 : HT g Ty_1 G_1 H_1 := by rw [← ht_1, eT_, eG_]; exact hB_1
  have hX_1 : Ext H.size Ty Ty_1 := by rw [eT_]; exact hp_1.1
  have eG : G_1 = G := by rw [eG_]; exact hp_1.2
  have k1_1 := hX_1.1 _ _ k1
  have k2_1 := hX_1.1 _ _ k2
  have k3_1 := hX_1.1 _ _ k3
  have hN_1 := ext_in hX_1 hN hS.1
  have hI_1 : OI g B G_1 := hI.ce (CE.of eG) h51
  have hE_1 : EQ5 g G_1 := by rw [eG]; exact hE
  refine lv_pop hx hb dL_law_633 rfl ?_
  refine lv_aload_n hx hb dL_law_634 rfl (lv_at hl 2 rfl) ?_
  refine lw_arg (k := 1) hx hb hXs hbl hS_1 hl hi hL (by decide) (by decide +kernel) dL_law_635 dL_law_636 dL_law_638 dL_law_639 dL_law_640 ?_
  refine lw_arg (k := 2) hx hb hXs hbl hS_1 hl hi hL (by decide) (by decide +kernel) dL_law_641 dL_law_642 dL_law_644 dL_law_645 dL_law_646 ?_
  obtain ⟨_, ⟨rfl, tm_, mk_⟩, o_m⟩ := hH_1 _ _ k2_1
  refine va_calli (va_runV (As := [.int (xs (i + 1)), .int (xs (i + 2))]) (rest := []) ⟨hx, hb, hml, hown, hts2⟩ (c_X12_unmounts l g Ty_1 G_1 _ (s.heap.size + 40) (xs (i + 1)) (xs (i + 2)) k2_1 B hI_1 (by omega) hLD) (cwV 2 hts2 (gwV mw_1645 mw_1646 mw_1647 mw_88 mw_1648) rfl rfl rfl hv_X12_unmounts ⟨Nat.le_of_ble_eq_true rfl, Nat.le_of_ble_eq_true rfl⟩) ⟨PcT_blind, hg_recv hK o_m rfl, PcT_pre hK hH_1⟩ rfl rfl hl.1 rfl (lv_room (Nat.le_of_ble_eq_true rfl)) dL_law_647 ⟨by show _ ≤ 1157971; omega, by show _ ≤ 5622190; omega⟩) hS_1 (fun q _ h => af_in hN_1 hS_1.1 q h) (fun q h => af_in hN_1 hS_1.1 q h) (fun r_2 u_2 t_2 H_2 locs_2 ht_2 hv_2 hp_2 hB_2 hz_2 hk_2 hS_2 => ?_)
  have hH_2 : HT g Ty_1 u_2.2 H_2 := by rw [← ht_2, ← hp_2.1]; exact hB_2
  have hF_2 := hp_2.2.1
  have hI_2 : OI g (B + 3000) u_2.2 := OI.up hp_2.2.2 (by omega)
  have hE_2 : EQ5 g u_2.2 := hE_1.r hF_2 (by decide) ⟨hLD 141 (by decide) 100 (by decide) (by decide), hLD 141 (by decide) 115 (by decide) (by decide), hLD 141 (by decide) 121 (by decide) (by decide), trivial⟩
  refine lv_pop hx hb dL_law_650 rfl ?_
  refine lv_goto (tgt := 1481) hx hb dL_law_651 (by decide) ?_
  exact W.widen (k := cells + 160) (n := slots + 3160) (by omega) (by omega) (kk Ty_1 u_2.2 H_2 locs_2 _ ⟨hH_2, hI_2, hE_2, k1_1, k2_1, k3_1, hN_1⟩ hS_2 hl)
set_option maxHeartbeats 4000000 in
set_option maxRecDepth 100000 in
theorem lc_12 {B : Int} {Ty : TyM} {G : Gh} (hX : LcX p l s m meth c b L xs g i B cells slots) (hl : lv_has ls 8 (lvL s b i)) (hW : LW g s.heap.size B Ty G H) (hS : va_S (fun q => s.heap.size ≤ q) s.heap H locs) (kk : LcT p l e s m below meth c b g i B cells slots 1481 Q) : W p l e room_1 s m #[Value.ref b] below meth c H locs cells slots Q (F0 m 654 ls []) := by
  obtain ⟨hst, hL, C0, E0, hi, hBd, hc, hs⟩ := hX
  obtain ⟨hx, hb, hr, hml, hown, hts, hXs, hbl, hlocks, hgv⟩ := id C0
  obtain ⟨hK, hO, hXO, hLD, h51⟩ := id E0
  have hown : s.vm.findClass "MountPeersLaw" = some m.cls := hown
  have hts2 := lw_g2 hts
  obtain ⟨hH, hI, hE, k1, k2, k3, hN⟩ := id hW
  refine lv_aload_n hx hb dL_law_654 rfl (lv_at hl 3 rfl) ?_
  refine lw_arg (k := 1) hx hb hXs hbl hS hl hi hL (by decide) (by decide +kernel) dL_law_655 dL_law_656 dL_law_658 dL_law_659 dL_law_660 ?_
  refine lw_arg (k := 2) hx hb hXs hbl hS hl hi hL (by decide) (by decide +kernel) dL_law_661 dL_law_662 dL_law_664 dL_law_665 dL_law_666 ?_
  refine lw_arg (k := 3) hx hb hXs hbl hS hl hi hL (by decide) (by decide +kernel) dL_law_667 dL_law_668 dL_law_670 dL_law_671 dL_law_672 ?_
  obtain ⟨_, ⟨dr_, rfl, -⟩, o_x⟩ := hH s.heap.size _ k1
  refine va_calli (va_runV (As := [.int (xs (i + 1)), .int (xs (i + 2)), .int (xs (i + 3))]) (rest := []) ⟨hx, hb, hml, hown, hts2⟩ (c_X11_moves l g Ty G H.size s.heap.size (xs (i + 1)) (xs (i + 2)) (xs (i + 3)) k1) (cwV 3 hts2 (gwV mw_836 mw_837 mw_838 mw_76 mw_839) rfl rfl rfl hv_X11_moves ⟨Nat.le_of_ble_eq_true rfl, Nat.le_of_ble_eq_true rfl⟩) ⟨PcT_blind, hg_recv hK o_x rfl, PcT_pre hK hH⟩ rfl rfl hl.1 rfl (lv_room (Nat.le_of_ble_eq_true rfl)) dL_law_673 ⟨by show _ ≤ 1157971; omega, by show _ ≤ 5622190; omega⟩) hS (fun q _ h => af_in hN hS.1 q h) (fun q h => af_in hN hS.1 q h) (fun r_1 u_1 t_1 H_1 locs_1 ht_1 hv_1 hp_1 hB_1 hz_1 hk_1 hS_1 => ?_)
  obtain ⟨Ty_1, eT_⟩ : ∃ z, z = u_1.1 := ⟨_, rfl⟩
  obtain ⟨G_1, eG_⟩ : ∃ z, z = u_1.2 := ⟨_, rfl⟩
  have hH_1 : HT g Ty_1 G_1 H_1 := by rw [← ht_1, eT_, eG_]; exact hB_1
  have hX_1 : Ext H.size Ty Ty_1 := by rw [eT_]; exact hp_1.1
  have eG : G_1 = G := by rw [eG_]; exact hp_1.2
  have k1_1 := hX_1.1 _ _ k1
  have k2_1 := hX_1.1 _ _ k2
  have k3_1 := hX_1.1 _ _ k3
  have hN_1 := ext_in hX_1 hN hS.1
  have hI_1 : OI g B G_1 := hI.ce (CE.of eG) h51
  have hE_1 : EQ5 g G_1 := by rw [eG]; exact hE
  refine lv_pop hx hb dL_law_676 rfl ?_
  refine lv_aload_n hx hb dL_law_677 rfl (lv_at hl 2 rfl) ?_
  refine lw_arg (k := 1) hx hb hXs hbl hS_1 hl hi hL (by decide) (by decide +kernel) dL_law_678 dL_law_679 dL_law_681 dL_law_682 dL_law_683 ?_
  refine lw_arg (k := 2) hx hb hXs hbl hS_1 hl hi hL (by decide) (by decide +kernel) dL_law_684 dL_law_685 dL_law_687 dL_law_688 dL_law_689 ?_
  refine lw_arg (k := 3) hx hb hXs hbl hS_1 hl hi hL (by decide) (by decide +kernel) dL_law_690 dL_law_691 dL_law_693 dL_law_694 dL_law_695 ?_
  obtain ⟨_, ⟨rfl, tm_, mk_⟩, o_m⟩ := hH_1 _ _ k2_1
  refine va_calli (va_runV (As := [.int (xs (i + 1)), .int (xs (i + 2)), .int (xs (i + 3))]) (rest := []) ⟨hx, hb, hml, hown, hts2⟩ (c_X12_moves l g Ty_1 G_1 _ (s.heap.size + 40) (xs (i + 1)) (xs (i + 2)) (xs (i + 3)) k2_1 B hI_1 (by omega) hLD) (cwV 3 hts2 (gwV mw_1663 mw_1664 mw_1665 mw_88 mw_1666) rfl rfl rfl hv_X12_moves ⟨Nat.le_of_ble_eq_true rfl, Nat.le_of_ble_eq_true rfl⟩) ⟨PcT_blind, hg_recv hK o_m rfl, PcT_pre hK hH_1⟩ rfl rfl hl.1 rfl (lv_room (Nat.le_of_ble_eq_true rfl)) dL_law_696 ⟨by show _ ≤ 1157971; omega, by show _ ≤ 5622190; omega⟩) hS_1 (fun q _ h => af_in hN_1 hS_1.1 q h) (fun q h => af_in hN_1 hS_1.1 q h) (fun r_2 u_2 t_2 H_2 locs_2 ht_2 hv_2 hp_2 hB_2 hz_2 hk_2 hS_2 => ?_)
  have hH_2 : HT g Ty_1 u_2.2 H_2 := by rw [← ht_2, ← hp_2.1]; exact hB_2
  have hF_2 := hp_2.2.1
  have hI_2 : OI g (B + 3000) u_2.2 := OI.up hp_2.2.2 (by omega)
  have hE_2 : EQ5 g u_2.2 := hE_1.r hF_2 (by decide) ⟨hLD 141 (by decide) 100 (by decide) (by decide), hLD 141 (by decide) 121 (by decide) (by decide), trivial⟩
  refine lv_pop hx hb dL_law_699 rfl ?_
  refine lv_goto (tgt := 1481) hx hb dL_law_700 (by decide) ?_
  exact W.widen (k := cells + 160) (n := slots + 3160) (by omega) (by omega) (kk Ty_1 u_2.2 H_2 locs_2 _ ⟨hH_2, hI_2, hE_2, k1_1, k2_1, k3_1, hN_1⟩ hS_2 hl)
set_option maxHeartbeats 4000000 in
set_option maxRecDepth 100000 in
theorem lc_13 {B : Int} {Ty : TyM} {G : Gh} (hX : LcX p l s m meth c b L xs g i B cells slots) (hl : lv_has ls 8 (lvL s b i)) (hW : LW g s.heap.size B Ty G H) (hS : va_S (fun q => s.heap.size ≤ q) s.heap H locs) (kk : LcT p l e s m below meth c b g i B cells slots 1481 Q) : W p l e room_1 s m #[Value.ref b] below meth c H locs cells slots Q (F0 m 703 ls []) := by
  obtain ⟨hst, hL, C0, E0, hi, hBd, hc, hs⟩ := hX
  obtain ⟨hx, hb, hr, hml, hown, hts, hXs, hbl, hlocks, hgv⟩ := id C0
  obtain ⟨hK, hO, hXO, hLD, h51⟩ := id E0
  have hown : s.vm.findClass "MountPeersLaw" = some m.cls := hown
  have hts2 := lw_g2 hts
  obtain ⟨hH, hI, hE, k1, k2, k3, hN⟩ := id hW
  refine lv_aload_n hx hb dL_law_703 rfl (lv_at hl 3 rfl) ?_
  obtain ⟨_, ⟨dr_, rfl, -⟩, o_x⟩ := hH s.heap.size _ k1
  refine va_calli (va_runV (As := []) (rest := []) ⟨hx, hb, hml, hown, hts2⟩ (c_X11_day l g Ty G H.size s.heap.size  k1) (cwV 0 hts2 (gwV mw_856 mw_857 mw_858 mw_76 mw_859) rfl rfl rfl hv_X11_day ⟨Nat.le_of_ble_eq_true rfl, Nat.le_of_ble_eq_true rfl⟩) ⟨PcT_blind, hg_recv hK o_x rfl, PcT_pre hK hH⟩ rfl rfl hl.1 rfl (lv_room (Nat.le_of_ble_eq_true rfl)) dL_law_704 ⟨by show _ ≤ 1157971; omega, by show _ ≤ 5622190; omega⟩) hS (fun q _ h => af_in hN hS.1 q h) (fun q h => af_in hN hS.1 q h) (fun r_1 u_1 t_1 H_1 locs_1 ht_1 hv_1 hp_1 hB_1 hz_1 hk_1 hS_1 => ?_)
  obtain ⟨Ty_1, eT_⟩ : ∃ z, z = u_1.1 := ⟨_, rfl⟩
  obtain ⟨G_1, eG_⟩ : ∃ z, z = u_1.2 := ⟨_, rfl⟩
  have hH_1 : HT g Ty_1 G_1 H_1 := by rw [← ht_1, eT_, eG_]; exact hB_1
  have hX_1 : Ext H.size Ty Ty_1 := by rw [eT_]; exact hp_1.1
  have hrel := hp_1.2
  rw [← eG_] at hrel
  have k1_1 := hX_1.1 _ _ k1
  have k2_1 := hX_1.1 _ _ k2
  have k3_1 := hX_1.1 _ _ k3
  have hN_1 := ext_in hX_1 hN hS.1
  have hI_1 : OI g B G_1 := hI.ce (CE.tx hrel) h51
  refine lv_pop hx hb dL_law_707 rfl ?_
  refine lv_aload_n hx hb dL_law_708 rfl (lv_at hl 2 rfl) ?_
  obtain ⟨_, ⟨rfl, tm_, mk_⟩, o_m⟩ := hH_1 _ _ k2_1
  refine va_calli (va_runV (As := []) (rest := []) ⟨hx, hb, hml, hown, hts2⟩ (c_X12_day l g Ty_1 G_1 _ (s.heap.size + 40)  k2_1 B hI_1 (by omega) hLD) (cwV 0 hts2 (gwV mw_1676 mw_1677 mw_1678 mw_88 mw_1679) rfl rfl rfl hv_X12_day ⟨Nat.le_of_ble_eq_true rfl, Nat.le_of_ble_eq_true rfl⟩) ⟨PcT_blind, hg_recv hK o_m rfl, PcT_pre hK hH_1⟩ rfl rfl hl.1 rfl (lv_room (Nat.le_of_ble_eq_true rfl)) dL_law_709 ⟨by show _ ≤ 1157971; omega, by show _ ≤ 5622190; omega⟩) hS_1 (fun q _ h => af_in hN_1 hS_1.1 q h) (fun q h => af_in hN_1 hS_1.1 q h) (fun r_2 u_2 t_2 H_2 locs_2 ht_2 hv_2 hp_2 hB_2 hz_2 hk_2 hS_2 => ?_)
  have hH_2 : HT g Ty_1 u_2.2 H_2 := by rw [← ht_2, ← hp_2.1]; exact hB_2
  have hF_2 := hp_2.2.1
  have hI_2 : OI g (B + 3000) u_2.2 := OI.up hp_2.2.2.1 (by omega)
  have hm_2 := hp_2.2.2.2
  have hE_2 : EQ5 g u_2.2 := hE.tx hrel hF_2 hm_2 (by decide) ⟨hLD 141 (by decide) 116 (by decide) (by decide), hLD 141 (by decide) 130 (by decide) (by decide), hLD 141 (by decide) 100 (by decide) (by decide), hLD 141 (by decide) 115 (by decide) (by decide), hLD 141 (by decide) 125 (by decide) (by decide), hLD 141 (by decide) 126 (by decide) (by decide), hLD 141 (by decide) 129 (by decide) (by decide), hLD 141 (by decide) 123 (by decide) (by decide), hLD 141 (by decide) 121 (by decide) (by decide), trivial⟩ h51
  refine lv_pop hx hb dL_law_712 rfl ?_
  refine lv_goto (tgt := 1481) hx hb dL_law_713 (by decide) ?_
  exact W.widen (k := cells + 160) (n := slots + 3160) (by omega) (by omega) (kk Ty_1 u_2.2 H_2 locs_2 _ ⟨hH_2, hI_2, hE_2, k1_1, k2_1, k3_1, hN_1⟩ hS_2 hl)
set_option maxHeartbeats 4000000 in
set_option maxRecDepth 100000 in
theorem lc_14 {B : Int} {Ty : TyM} {G : Gh} (hX : LcX p l s m meth c b L xs g i B cells slots) (hl : lv_has ls 8 (lvL s b i)) (hW : LW g s.heap.size B Ty G H) (hS : va_S (fun q => s.heap.size ≤ q) s.heap H locs) (kk : LcT p l e s m below meth c b g i B cells slots 1481 Q) : W p l e room_1 s m #[Value.ref b] below meth c H locs cells slots Q (F0 m 716 ls []) := by
  obtain ⟨hst, hL, C0, E0, hi, hBd, hc, hs⟩ := hX
  obtain ⟨hx, hb, hr, hml, hown, hts, hXs, hbl, hlocks, hgv⟩ := id C0
  obtain ⟨hK, hO, hXO, hLD, h51⟩ := id E0
  have hown : s.vm.findClass "MountPeersLaw" = some m.cls := hown
  have hts2 := lw_g2 hts
  obtain ⟨hH, hI, hE, k1, k2, k3, hN⟩ := id hW
  refine lv_aload_n hx hb dL_law_716 rfl (lv_at hl 3 rfl) ?_
  obtain ⟨_, ⟨dr_, rfl, -⟩, o_x⟩ := hH s.heap.size _ k1
  refine va_calli (va_runV (As := []) (rest := []) ⟨hx, hb, hml, hown, hts2⟩ (c_X11_undo l g Ty G H.size s.heap.size  k1) (cwV 0 hts2 (gwV mw_902 mw_903 mw_904 mw_76 mw_905) rfl rfl rfl hv_X11_undo ⟨Nat.le_of_ble_eq_true rfl, Nat.le_of_ble_eq_true rfl⟩) ⟨PcT_blind, hg_recv hK o_x rfl, PcT_pre hK hH⟩ rfl rfl hl.1 rfl (lv_room (Nat.le_of_ble_eq_true rfl)) dL_law_717 ⟨by show _ ≤ 1157971; omega, by show _ ≤ 5622190; omega⟩) hS (fun q _ h => af_in hN hS.1 q h) (fun q h => af_in hN hS.1 q h) (fun r_1 u_1 t_1 H_1 locs_1 ht_1 hv_1 hp_1 hB_1 hz_1 hk_1 hS_1 => ?_)
  obtain ⟨Ty_1, eT_⟩ : ∃ z, z = u_1.1 := ⟨_, rfl⟩
  obtain ⟨G_1, eG_⟩ : ∃ z, z = u_1.2 := ⟨_, rfl⟩
  have hH_1 : HT g Ty_1 G_1 H_1 := by rw [← ht_1, eT_, eG_]; exact hB_1
  have eT : Ty_1 = Ty := by rw [eT_, hp_1]
  have eG : G_1 = G := by rw [eG_, hp_1]
  have k1_1 := k1
  have k2_1 := k2
  have k3_1 := k3
  have hN_1 := hN
  rw [← eT] at k1_1 k2_1 k3_1 hN_1
  have hI_1 : OI g B G_1 := hI.ce (CE.of eG) h51
  have hE_1 : EQ5 g G_1 := by rw [eG]; exact hE
  refine lv_pop hx hb dL_law_720 rfl ?_
  refine lv_aload_n hx hb dL_law_721 rfl (lv_at hl 2 rfl) ?_
  obtain ⟨_, ⟨rfl, tm_, mk_⟩, o_m⟩ := hH_1 _ _ k2_1
  refine va_calli (va_runV (As := []) (rest := []) ⟨hx, hb, hml, hown, hts2⟩ (c_X12_undo l g Ty_1 G_1 _ (s.heap.size + 40)  k2_1 B hI_1 (by omega) hLD) (cwV 0 hts2 (gwV mw_1692 mw_1693 mw_1694 mw_88 mw_1695) rfl rfl rfl hv_X12_undo ⟨Nat.le_of_ble_eq_true rfl, Nat.le_of_ble_eq_true rfl⟩) ⟨PcT_blind, hg_recv hK o_m rfl, PcT_pre hK hH_1⟩ rfl rfl hl.1 rfl (lv_room (Nat.le_of_ble_eq_true rfl)) dL_law_722 ⟨by show _ ≤ 1157971; omega, by show _ ≤ 5622190; omega⟩) hS_1 (fun q _ h => af_in hN_1 hS_1.1 q h) (fun q h => af_in hN_1 hS_1.1 q h) (fun r_2 u_2 t_2 H_2 locs_2 ht_2 hv_2 hp_2 hB_2 hz_2 hk_2 hS_2 => ?_)
  have hH_2 : HT g Ty_1 u_2.2 H_2 := by rw [← ht_2, ← hp_2.1]; exact hB_2
  have hF_2 := hp_2.2.1
  have hI_2 : OI g (B + 3000) u_2.2 := OI.up hp_2.2.2 (by omega)
  have hE_2 : EQ5 g u_2.2 := hE_1.r hF_2 (by decide) ⟨hLD 141 (by decide) 100 (by decide) (by decide), trivial⟩
  refine lv_pop hx hb dL_law_725 rfl ?_
  refine lv_goto (tgt := 1481) hx hb dL_law_726 (by decide) ?_
  exact W.widen (k := cells + 160) (n := slots + 3160) (by omega) (by omega) (kk Ty_1 u_2.2 H_2 locs_2 _ ⟨hH_2, hI_2, hE_2, k1_1, k2_1, k3_1, hN_1⟩ hS_2 hl)
set_option maxHeartbeats 4000000 in
set_option maxRecDepth 100000 in
theorem lc_15 {B : Int} {Ty : TyM} {G : Gh} (hX : LcX p l s m meth c b L xs g i B cells slots) (hl : lv_has ls 8 (lvL s b i)) (hW : LW g s.heap.size B Ty G H) (hS : va_S (fun q => s.heap.size ≤ q) s.heap H locs) (kk : LcT p l e s m below meth c b g i B cells slots 1481 Q) : W p l e room_1 s m #[Value.ref b] below meth c H locs cells slots Q (F0 m 729 ls []) := by
  obtain ⟨hst, hL, C0, E0, hi, hBd, hc, hs⟩ := hX
  obtain ⟨hx, hb, hr, hml, hown, hts, hXs, hbl, hlocks, hgv⟩ := id C0
  obtain ⟨hK, hO, hXO, hLD, h51⟩ := id E0
  have hown : s.vm.findClass "MountPeersLaw" = some m.cls := hown
  have hts2 := lw_g2 hts
  obtain ⟨hH, hI, hE, k1, k2, k3, hN⟩ := id hW
  refine lv_aload_n hx hb dL_law_729 rfl (lv_at hl 3 rfl) ?_
  refine lw_arg (k := 1) hx hb hXs hbl hS hl hi hL (by decide) (by decide +kernel) dL_law_730 dL_law_731 dL_law_733 dL_law_734 dL_law_735 ?_
  obtain ⟨_, ⟨dr_, rfl, -⟩, o_x⟩ := hH s.heap.size _ k1
  refine va_calli (va_runV (As := [.int (xs (i + 1))]) (rest := []) ⟨hx, hb, hml, hown, hts2⟩ (c_X11_spread l g Ty G H.size s.heap.size (xs (i + 1)) k1) (cwV 1 hts2 (gwV mw_910 mw_911 mw_912 mw_76 mw_913) rfl rfl rfl hv_X11_spread ⟨Nat.le_of_ble_eq_true rfl, Nat.le_of_ble_eq_true rfl⟩) ⟨PcT_blind, hg_recv hK o_x rfl, PcT_pre hK hH⟩ rfl rfl hl.1 rfl (lv_room (Nat.le_of_ble_eq_true rfl)) dL_law_736 ⟨by show _ ≤ 1157971; omega, by show _ ≤ 5622190; omega⟩) hS (fun q _ h => af_in hN hS.1 q h) (fun q h => af_in hN hS.1 q h) (fun r_1 u_1 t_1 H_1 locs_1 ht_1 hv_1 hp_1 hB_1 hz_1 hk_1 hS_1 => ?_)
  obtain ⟨Ty_1, eT_⟩ : ∃ z, z = u_1.1 := ⟨_, rfl⟩
  obtain ⟨G_1, eG_⟩ : ∃ z, z = u_1.2 := ⟨_, rfl⟩
  have hH_1 : HT g Ty_1 G_1 H_1 := by rw [← ht_1, eT_, eG_]; exact hB_1
  have eT : Ty_1 = Ty := by rw [eT_, hp_1]
  have eG : G_1 = G := by rw [eG_, hp_1]
  have k1_1 := k1
  have k2_1 := k2
  have k3_1 := k3
  have hN_1 := hN
  rw [← eT] at k1_1 k2_1 k3_1 hN_1
  have hI_1 : OI g B G_1 := hI.ce (CE.of eG) h51
  have hE_1 : EQ5 g G_1 := by rw [eG]; exact hE
  refine lv_pop hx hb dL_law_739 rfl ?_
  refine lv_aload_n hx hb dL_law_740 rfl (lv_at hl 2 rfl) ?_
  refine lw_arg (k := 1) hx hb hXs hbl hS_1 hl hi hL (by decide) (by decide +kernel) dL_law_741 dL_law_742 dL_law_744 dL_law_745 dL_law_746 ?_
  obtain ⟨_, ⟨rfl, tm_, mk_⟩, o_m⟩ := hH_1 _ _ k2_1
  refine va_calli (va_runV (As := [.int (xs (i + 1))]) (rest := []) ⟨hx, hb, hml, hown, hts2⟩ (c_X12_spread l g Ty_1 G_1 _ (s.heap.size + 40) (xs (i + 1)) k2_1 B hI_1 (by omega) hLD) (cwV 1 hts2 (gwV mw_1696 mw_1697 mw_1698 mw_88 mw_1699) rfl rfl rfl hv_X12_spread ⟨Nat.le_of_ble_eq_true rfl, Nat.le_of_ble_eq_true rfl⟩) ⟨PcT_blind, hg_recv hK o_m rfl, PcT_pre hK hH_1⟩ rfl rfl hl.1 rfl (lv_room (Nat.le_of_ble_eq_true rfl)) dL_law_747 ⟨by show _ ≤ 1157971; omega, by show _ ≤ 5622190; omega⟩) hS_1 (fun q _ h => af_in hN_1 hS_1.1 q h) (fun q h => af_in hN_1 hS_1.1 q h) (fun r_2 u_2 t_2 H_2 locs_2 ht_2 hv_2 hp_2 hB_2 hz_2 hk_2 hS_2 => ?_)
  have hH_2 : HT g Ty_1 u_2.2 H_2 := by rw [← ht_2, ← hp_2.1]; exact hB_2
  have hF_2 := hp_2.2.1
  have hI_2 : OI g (B + 3000) u_2.2 := OI.up hp_2.2.2 (by omega)
  have hE_2 : EQ5 g u_2.2 := hE_1.r hF_2 (by decide) trivial
  refine lv_pop hx hb dL_law_750 rfl ?_
  refine lv_goto (tgt := 1481) hx hb dL_law_751 (by decide) ?_
  exact W.widen (k := cells + 160) (n := slots + 3160) (by omega) (by omega) (kk Ty_1 u_2.2 H_2 locs_2 _ ⟨hH_2, hI_2, hE_2, k1_1, k2_1, k3_1, hN_1⟩ hS_2 hl)
set_option maxHeartbeats 4000000 in
set_option maxRecDepth 100000 in
theorem lc_16 {B : Int} {Ty : TyM} {G : Gh} (hX : LcX p l s m meth c b L xs g i B cells slots) (hl : lv_has ls 8 (lvL s b i)) (hW : LW g s.heap.size B Ty G H) (hS : va_S (fun q => s.heap.size ≤ q) s.heap H locs) (kk : LcT p l e s m below meth c b g i B cells slots 1481 Q) : W p l e room_1 s m #[Value.ref b] below meth c H locs cells slots Q (F0 m 754 ls []) := by
  obtain ⟨hst, hL, C0, E0, hi, hBd, hc, hs⟩ := hX
  obtain ⟨hx, hb, hr, hml, hown, hts, hXs, hbl, hlocks, hgv⟩ := id C0
  obtain ⟨hK, hO, hXO, hLD, h51⟩ := id E0
  have hown : s.vm.findClass "MountPeersLaw" = some m.cls := hown
  have hts2 := lw_g2 hts
  obtain ⟨hH, hI, hE, k1, k2, k3, hN⟩ := id hW
  refine lv_aload_n hx hb dL_law_754 rfl (lv_at hl 3 rfl) ?_
  refine lw_arg (k := 1) hx hb hXs hbl hS hl hi hL (by decide) (by decide +kernel) dL_law_755 dL_law_756 dL_law_758 dL_law_759 dL_law_760 ?_
  obtain ⟨_, ⟨dr_, rfl, -⟩, o_x⟩ := hH s.heap.size _ k1
  refine va_calli (va_runV (As := [.int (xs (i + 1))]) (rest := []) ⟨hx, hb, hml, hown, hts2⟩ (c_X11_peers l g Ty G H.size s.heap.size (xs (i + 1)) k1) (cwV 1 hts2 (gwV mw_919 mw_920 mw_921 mw_76 mw_922) rfl rfl rfl hv_X11_peers ⟨Nat.le_of_ble_eq_true rfl, Nat.le_of_ble_eq_true rfl⟩) ⟨PcT_blind, hg_recv hK o_x rfl, PcT_pre hK hH⟩ rfl rfl hl.1 rfl (lv_room (Nat.le_of_ble_eq_true rfl)) dL_law_761 ⟨by show _ ≤ 1157971; omega, by show _ ≤ 5622190; omega⟩) hS (fun q _ h => af_in hN hS.1 q h) (fun q h => af_in hN hS.1 q h) (fun r_1 u_1 t_1 H_1 locs_1 ht_1 hv_1 hp_1 hB_1 hz_1 hk_1 hS_1 => ?_)
  obtain ⟨Ty_1, eT_⟩ : ∃ z, z = u_1.1 := ⟨_, rfl⟩
  obtain ⟨G_1, eG_⟩ : ∃ z, z = u_1.2 := ⟨_, rfl⟩
  have hH_1 : HT g Ty_1 G_1 H_1 := by rw [← ht_1, eT_, eG_]; exact hB_1
  have eT : Ty_1 = Ty := by rw [eT_, hp_1]
  have eG : G_1 = G := by rw [eG_, hp_1]
  have k1_1 := k1
  have k2_1 := k2
  have k3_1 := k3
  have hN_1 := hN
  rw [← eT] at k1_1 k2_1 k3_1 hN_1
  have hI_1 : OI g B G_1 := hI.ce (CE.of eG) h51
  have hE_1 : EQ5 g G_1 := by rw [eG]; exact hE
  refine lv_pop hx hb dL_law_764 rfl ?_
  refine lv_aload_n hx hb dL_law_765 rfl (lv_at hl 2 rfl) ?_
  refine lw_arg (k := 1) hx hb hXs hbl hS_1 hl hi hL (by decide) (by decide +kernel) dL_law_766 dL_law_767 dL_law_769 dL_law_770 dL_law_771 ?_
  obtain ⟨_, ⟨rfl, tm_, mk_⟩, o_m⟩ := hH_1 _ _ k2_1
  refine va_calli (va_runV (As := [.int (xs (i + 1))]) (rest := []) ⟨hx, hb, hml, hown, hts2⟩ (c_X12_peers l g Ty_1 G_1 _ (s.heap.size + 40) (xs (i + 1)) k2_1 B hI_1 (by omega) hLD) (cwV 1 hts2 (gwV mw_1704 mw_1705 mw_1706 mw_88 mw_1707) rfl rfl rfl hv_X12_peers ⟨Nat.le_of_ble_eq_true rfl, Nat.le_of_ble_eq_true rfl⟩) ⟨PcT_blind, hg_recv hK o_m rfl, PcT_pre hK hH_1⟩ rfl rfl hl.1 rfl (lv_room (Nat.le_of_ble_eq_true rfl)) dL_law_772 ⟨by show _ ≤ 1157971; omega, by show _ ≤ 5622190; omega⟩) hS_1 (fun q _ h => af_in hN_1 hS_1.1 q h) (fun q h => af_in hN_1 hS_1.1 q h) (fun r_2 u_2 t_2 H_2 locs_2 ht_2 hv_2 hp_2 hB_2 hz_2 hk_2 hS_2 => ?_)
  have hH_2 : HT g Ty_1 u_2.2 H_2 := by rw [← ht_2, ← hp_2.1]; exact hB_2
  have hF_2 := hp_2.2.1
  have hI_2 : OI g (B + 3000) u_2.2 := OI.up hp_2.2.2 (by omega)
  have hE_2 : EQ5 g u_2.2 := hE_1.r hF_2 (by decide) trivial
  refine lv_pop hx hb dL_law_775 rfl ?_
  refine lv_goto (tgt := 1481) hx hb dL_law_776 (by decide) ?_
  exact W.widen (k := cells + 160) (n := slots + 3160) (by omega) (by omega) (kk Ty_1 u_2.2 H_2 locs_2 _ ⟨hH_2, hI_2, hE_2, k1_1, k2_1, k3_1, hN_1⟩ hS_2 hl)
set_option maxHeartbeats 4000000 in
set_option maxRecDepth 100000 in
theorem lc_17 {B : Int} {Ty : TyM} {G : Gh} (hX : LcX p l s m meth c b L xs g i B cells slots) (hl : lv_has ls 8 (lvL s b i)) (hW : LW g s.heap.size B Ty G H) (hS : va_S (fun q => s.heap.size ≤ q) s.heap H locs) (kk : LcT p l e s m below meth c b g i B cells slots 1481 Q) : W p l e room_1 s m #[Value.ref b] below meth c H locs cells slots Q (F0 m 779 ls []) := by
  obtain ⟨hst, hL, C0, E0, hi, hBd, hc, hs⟩ := hX
  obtain ⟨hx, hb, hr, hml, hown, hts, hXs, hbl, hlocks, hgv⟩ := id C0
  obtain ⟨hK, hO, hXO, hLD, h51⟩ := id E0
  have hown : s.vm.findClass "MountPeersLaw" = some m.cls := hown
  have hts2 := lw_g2 hts
  obtain ⟨hH, hI, hE, k1, k2, k3, hN⟩ := id hW
  refine lv_aload_n hx hb dL_law_779 rfl (lv_at hl 3 rfl) ?_
  refine lw_arg (k := 1) hx hb hXs hbl hS hl hi hL (by decide) (by decide +kernel) dL_law_780 dL_law_781 dL_law_783 dL_law_784 dL_law_785 ?_
  obtain ⟨_, ⟨dr_, rfl, -⟩, o_x⟩ := hH s.heap.size _ k1
  refine va_calli (va_runV (As := [.int (xs (i + 1))]) (rest := []) ⟨hx, hb, hml, hown, hts2⟩ (c_X11_masters l g Ty G H.size s.heap.size (xs (i + 1)) k1) (cwV 1 hts2 (gwV mw_928 mw_929 mw_930 mw_76 mw_931) rfl rfl rfl hv_X11_masters ⟨Nat.le_of_ble_eq_true rfl, Nat.le_of_ble_eq_true rfl⟩) ⟨PcT_blind, hg_recv hK o_x rfl, PcT_pre hK hH⟩ rfl rfl hl.1 rfl (lv_room (Nat.le_of_ble_eq_true rfl)) dL_law_786 ⟨by show _ ≤ 1157971; omega, by show _ ≤ 5622190; omega⟩) hS (fun q _ h => af_in hN hS.1 q h) (fun q h => af_in hN hS.1 q h) (fun r_1 u_1 t_1 H_1 locs_1 ht_1 hv_1 hp_1 hB_1 hz_1 hk_1 hS_1 => ?_)
  obtain ⟨Ty_1, eT_⟩ : ∃ z, z = u_1.1 := ⟨_, rfl⟩
  obtain ⟨G_1, eG_⟩ : ∃ z, z = u_1.2 := ⟨_, rfl⟩
  have hH_1 : HT g Ty_1 G_1 H_1 := by rw [← ht_1, eT_, eG_]; exact hB_1
  have eT : Ty_1 = Ty := by rw [eT_, hp_1]
  have eG : G_1 = G := by rw [eG_, hp_1]
  have k1_1 := k1
  have k2_1 := k2
  have k3_1 := k3
  have hN_1 := hN
  rw [← eT] at k1_1 k2_1 k3_1 hN_1
  have hI_1 : OI g B G_1 := hI.ce (CE.of eG) h51
  have hE_1 : EQ5 g G_1 := by rw [eG]; exact hE
  refine lv_pop hx hb dL_law_789 rfl ?_
  refine lv_aload_n hx hb dL_law_790 rfl (lv_at hl 2 rfl) ?_
  refine lw_arg (k := 1) hx hb hXs hbl hS_1 hl hi hL (by decide) (by decide +kernel) dL_law_791 dL_law_792 dL_law_794 dL_law_795 dL_law_796 ?_
  obtain ⟨_, ⟨rfl, tm_, mk_⟩, o_m⟩ := hH_1 _ _ k2_1
  refine va_calli (va_runV (As := [.int (xs (i + 1))]) (rest := []) ⟨hx, hb, hml, hown, hts2⟩ (c_X12_masters l g Ty_1 G_1 _ (s.heap.size + 40) (xs (i + 1)) k2_1 B hI_1 (by omega) hLD) (cwV 1 hts2 (gwV mw_1708 mw_1709 mw_1710 mw_88 mw_1711) rfl rfl rfl hv_X12_masters ⟨Nat.le_of_ble_eq_true rfl, Nat.le_of_ble_eq_true rfl⟩) ⟨PcT_blind, hg_recv hK o_m rfl, PcT_pre hK hH_1⟩ rfl rfl hl.1 rfl (lv_room (Nat.le_of_ble_eq_true rfl)) dL_law_797 ⟨by show _ ≤ 1157971; omega, by show _ ≤ 5622190; omega⟩) hS_1 (fun q _ h => af_in hN_1 hS_1.1 q h) (fun q h => af_in hN_1 hS_1.1 q h) (fun r_2 u_2 t_2 H_2 locs_2 ht_2 hv_2 hp_2 hB_2 hz_2 hk_2 hS_2 => ?_)
  have hH_2 : HT g Ty_1 u_2.2 H_2 := by rw [← ht_2, ← hp_2.1]; exact hB_2
  have hF_2 := hp_2.2.1
  have hI_2 : OI g (B + 3000) u_2.2 := OI.up hp_2.2.2 (by omega)
  have hE_2 : EQ5 g u_2.2 := hE_1.r hF_2 (by decide) trivial
  refine lv_pop hx hb dL_law_800 rfl ?_
  refine lv_goto (tgt := 1481) hx hb dL_law_801 (by decide) ?_
  exact W.widen (k := cells + 160) (n := slots + 3160) (by omega) (by omega) (kk Ty_1 u_2.2 H_2 locs_2 _ ⟨hH_2, hI_2, hE_2, k1_1, k2_1, k3_1, hN_1⟩ hS_2 hl)
set_option maxHeartbeats 4000000 in
set_option maxRecDepth 100000 in
theorem lc_18 {B : Int} {Ty : TyM} {G : Gh} (hX : LcX p l s m meth c b L xs g i B cells slots) (hl : lv_has ls 8 (lvL s b i)) (hW : LW g s.heap.size B Ty G H) (hS : va_S (fun q => s.heap.size ≤ q) s.heap H locs) (kk : LcT p l e s m below meth c b g i B cells slots 1481 Q) : W p l e room_1 s m #[Value.ref b] below meth c H locs cells slots Q (F0 m 804 ls []) := by
  obtain ⟨hst, hL, C0, E0, hi, hBd, hc, hs⟩ := hX
  obtain ⟨hx, hb, hr, hml, hown, hts, hXs, hbl, hlocks, hgv⟩ := id C0
  obtain ⟨hK, hO, hXO, hLD, h51⟩ := id E0
  have hown : s.vm.findClass "MountPeersLaw" = some m.cls := hown
  have hts2 := lw_g2 hts
  obtain ⟨hH, hI, hE, k1, k2, k3, hN⟩ := id hW
  refine lv_aload_n hx hb dL_law_804 rfl (lv_at hl 3 rfl) ?_
  obtain ⟨_, ⟨dr_, rfl, -⟩, o_x⟩ := hH s.heap.size _ k1
  refine va_calli (va_runV (As := []) (rest := []) ⟨hx, hb, hml, hown, hts2⟩ (c_X11_groups l g Ty G H.size s.heap.size  k1) (cwV 0 hts2 (gwV mw_939 mw_940 mw_941 mw_76 mw_942) rfl rfl rfl hv_X11_groups ⟨Nat.le_of_ble_eq_true rfl, Nat.le_of_ble_eq_true rfl⟩) ⟨PcT_blind, hg_recv hK o_x rfl, PcT_pre hK hH⟩ rfl rfl hl.1 rfl (lv_room (Nat.le_of_ble_eq_true rfl)) dL_law_805 ⟨by show _ ≤ 1157971; omega, by show _ ≤ 5622190; omega⟩) hS (fun q _ h => af_in hN hS.1 q h) (fun q h => af_in hN hS.1 q h) (fun r_1 u_1 t_1 H_1 locs_1 ht_1 hv_1 hp_1 hB_1 hz_1 hk_1 hS_1 => ?_)
  obtain ⟨Ty_1, eT_⟩ : ∃ z, z = u_1.1 := ⟨_, rfl⟩
  obtain ⟨G_1, eG_⟩ : ∃ z, z = u_1.2 := ⟨_, rfl⟩
  have hH_1 : HT g Ty_1 G_1 H_1 := by rw [← ht_1, eT_, eG_]; exact hB_1
  have eT : Ty_1 = Ty := by rw [eT_, hp_1]
  have eG : G_1 = G := by rw [eG_, hp_1]
  have k1_1 := k1
  have k2_1 := k2
  have k3_1 := k3
  have hN_1 := hN
  rw [← eT] at k1_1 k2_1 k3_1 hN_1
  have hI_1 : OI g B G_1 := hI.ce (CE.of eG) h51
  have hE_1 : EQ5 g G_1 := by rw [eG]; exact hE
  refine lv_pop hx hb dL_law_808 rfl ?_
  refine lv_aload_n hx hb dL_law_809 rfl (lv_at hl 2 rfl) ?_
  obtain ⟨_, ⟨rfl, tm_, mk_⟩, o_m⟩ := hH_1 _ _ k2_1
  refine va_calli (va_runV (As := []) (rest := []) ⟨hx, hb, hml, hown, hts2⟩ (c_X12_groups l g Ty_1 G_1 _ (s.heap.size + 40)  k2_1 B hI_1 (by omega) hLD) (cwV 0 hts2 (gwV mw_1716 mw_1717 mw_1718 mw_88 mw_1719) rfl rfl rfl hv_X12_groups ⟨Nat.le_of_ble_eq_true rfl, Nat.le_of_ble_eq_true rfl⟩) ⟨PcT_blind, hg_recv hK o_m rfl, PcT_pre hK hH_1⟩ rfl rfl hl.1 rfl (lv_room (Nat.le_of_ble_eq_true rfl)) dL_law_810 ⟨by show _ ≤ 1157971; omega, by show _ ≤ 5622190; omega⟩) hS_1 (fun q _ h => af_in hN_1 hS_1.1 q h) (fun q h => af_in hN_1 hS_1.1 q h) (fun r_2 u_2 t_2 H_2 locs_2 ht_2 hv_2 hp_2 hB_2 hz_2 hk_2 hS_2 => ?_)
  have hH_2 : HT g Ty_1 u_2.2 H_2 := by rw [← ht_2, ← hp_2.1]; exact hB_2
  have hF_2 := hp_2.2.1
  have hI_2 : OI g (B + 3000) u_2.2 := OI.up hp_2.2.2 (by omega)
  have hE_2 : EQ5 g u_2.2 := hE_1.r hF_2 (by decide) trivial
  refine lv_pop hx hb dL_law_813 rfl ?_
  refine lv_goto (tgt := 1481) hx hb dL_law_814 (by decide) ?_
  exact W.widen (k := cells + 160) (n := slots + 3160) (by omega) (by omega) (kk Ty_1 u_2.2 H_2 locs_2 _ ⟨hH_2, hI_2, hE_2, k1_1, k2_1, k3_1, hN_1⟩ hS_2 hl)
set_option maxHeartbeats 4000000 in
set_option maxRecDepth 100000 in
theorem lc_19 {B : Int} {Ty : TyM} {G : Gh} (hX : LcX p l s m meth c b L xs g i B cells slots) (hl : lv_has ls 8 (lvL s b i)) (hW : LW g s.heap.size B Ty G H) (hS : va_S (fun q => s.heap.size ≤ q) s.heap H locs) (kk : LcT p l e s m below meth c b g i B cells slots 1481 Q) : W p l e room_1 s m #[Value.ref b] below meth c H locs cells slots Q (F0 m 817 ls []) := by
  obtain ⟨hst, hL, C0, E0, hi, hBd, hc, hs⟩ := hX
  obtain ⟨hx, hb, hr, hml, hown, hts, hXs, hbl, hlocks, hgv⟩ := id C0
  obtain ⟨hK, hO, hXO, hLD, h51⟩ := id E0
  have hown : s.vm.findClass "MountPeersLaw" = some m.cls := hown
  have hts2 := lw_g2 hts
  obtain ⟨hH, hI, hE, k1, k2, k3, hN⟩ := id hW
  refine lv_aload_n hx hb dL_law_817 rfl (lv_at hl 3 rfl) ?_
  refine lw_arg (k := 1) hx hb hXs hbl hS hl hi hL (by decide) (by decide +kernel) dL_law_818 dL_law_819 dL_law_821 dL_law_822 dL_law_823 ?_
  refine lw_arg (k := 2) hx hb hXs hbl hS hl hi hL (by decide) (by decide +kernel) dL_law_824 dL_law_825 dL_law_827 dL_law_828 dL_law_829 ?_
  obtain ⟨_, ⟨dr_, rfl, -⟩, o_x⟩ := hH s.heap.size _ k1
  refine va_calli (va_runV (As := [.int (xs (i + 1)), .int (xs (i + 2))]) (rest := []) ⟨hx, hb, hml, hown, hts2⟩ (c_X11_keepers l g Ty G H.size s.heap.size (xs (i + 1)) (xs (i + 2)) k1) (cwV 2 hts2 (gwV mw_948 mw_949 mw_950 mw_76 mw_951) rfl rfl rfl hv_X11_keepers ⟨Nat.le_of_ble_eq_true rfl, Nat.le_of_ble_eq_true rfl⟩) ⟨PcT_blind, hg_recv hK o_x rfl, PcT_pre hK hH⟩ rfl rfl hl.1 rfl (lv_room (Nat.le_of_ble_eq_true rfl)) dL_law_830 ⟨by show _ ≤ 1157971; omega, by show _ ≤ 5622190; omega⟩) hS (fun q _ h => af_in hN hS.1 q h) (fun q h => af_in hN hS.1 q h) (fun r_1 u_1 t_1 H_1 locs_1 ht_1 hv_1 hp_1 hB_1 hz_1 hk_1 hS_1 => ?_)
  obtain ⟨Ty_1, eT_⟩ : ∃ z, z = u_1.1 := ⟨_, rfl⟩
  obtain ⟨G_1, eG_⟩ : ∃ z, z = u_1.2 := ⟨_, rfl⟩
  have hH_1 : HT g Ty_1 G_1 H_1 := by rw [← ht_1, eT_, eG_]; exact hB_1
  have eT : Ty_1 = Ty := by rw [eT_, hp_1]
  have eG : G_1 = G := by rw [eG_, hp_1]
  have k1_1 := k1
  have k2_1 := k2
  have k3_1 := k3
  have hN_1 := hN
  rw [← eT] at k1_1 k2_1 k3_1 hN_1
  have hI_1 : OI g B G_1 := hI.ce (CE.of eG) h51
  have hE_1 : EQ5 g G_1 := by rw [eG]; exact hE
  refine lv_pop hx hb dL_law_833 rfl ?_
  refine lv_aload_n hx hb dL_law_834 rfl (lv_at hl 2 rfl) ?_
  refine lw_arg (k := 1) hx hb hXs hbl hS_1 hl hi hL (by decide) (by decide +kernel) dL_law_835 dL_law_836 dL_law_838 dL_law_839 dL_law_840 ?_
  refine lw_arg (k := 2) hx hb hXs hbl hS_1 hl hi hL (by decide) (by decide +kernel) dL_law_841 dL_law_842 dL_law_844 dL_law_845 dL_law_846 ?_
  obtain ⟨_, ⟨rfl, tm_, mk_⟩, o_m⟩ := hH_1 _ _ k2_1
  refine va_calli (va_runV (As := [.int (xs (i + 1)), .int (xs (i + 2))]) (rest := []) ⟨hx, hb, hml, hown, hts2⟩ (c_X12_keepers l g Ty_1 G_1 _ (s.heap.size + 40) (xs (i + 1)) (xs (i + 2)) k2_1 B hI_1 (by omega) hLD) (cwV 2 hts2 (gwV mw_1726 mw_1727 mw_1728 mw_88 mw_1729) rfl rfl rfl hv_X12_keepers ⟨Nat.le_of_ble_eq_true rfl, Nat.le_of_ble_eq_true rfl⟩) ⟨PcT_blind, hg_recv hK o_m rfl, PcT_pre hK hH_1⟩ rfl rfl hl.1 rfl (lv_room (Nat.le_of_ble_eq_true rfl)) dL_law_847 ⟨by show _ ≤ 1157971; omega, by show _ ≤ 5622190; omega⟩) hS_1 (fun q _ h => af_in hN_1 hS_1.1 q h) (fun q h => af_in hN_1 hS_1.1 q h) (fun r_2 u_2 t_2 H_2 locs_2 ht_2 hv_2 hp_2 hB_2 hz_2 hk_2 hS_2 => ?_)
  have hH_2 : HT g Ty_1 u_2.2 H_2 := by rw [← ht_2, ← hp_2.1]; exact hB_2
  have hF_2 := hp_2.2.1
  have hI_2 : OI g (B + 3000) u_2.2 := OI.up hp_2.2.2 (by omega)
  have hE_2 : EQ5 g u_2.2 := hE_1.r hF_2 (by decide) ⟨hLD 141 (by decide) 124 (by decide) (by decide), trivial⟩
  refine lv_pop hx hb dL_law_850 rfl ?_
  refine lv_goto (tgt := 1481) hx hb dL_law_851 (by decide) ?_
  exact W.widen (k := cells + 160) (n := slots + 3160) (by omega) (by omega) (kk Ty_1 u_2.2 H_2 locs_2 _ ⟨hH_2, hI_2, hE_2, k1_1, k2_1, k3_1, hN_1⟩ hS_2 hl)
set_option maxHeartbeats 4000000 in
set_option maxRecDepth 100000 in
theorem lc_20 {B : Int} {Ty : TyM} {G : Gh} (hX : LcX p l s m meth c b L xs g i B cells slots) (hl : lv_has ls 8 (lvL s b i)) (hW : LW g s.heap.size B Ty G H) (hS : va_S (fun q => s.heap.size ≤ q) s.heap H locs) (kk : LcT p l e s m below meth c b g i B cells slots 1481 Q) : W p l e room_1 s m #[Value.ref b] below meth c H locs cells slots Q (F0 m 854 ls []) := by
  obtain ⟨hst, hL, C0, E0, hi, hBd, hc, hs⟩ := hX
  obtain ⟨hx, hb, hr, hml, hown, hts, hXs, hbl, hlocks, hgv⟩ := id C0
  obtain ⟨hK, hO, hXO, hLD, h51⟩ := id E0
  have hown : s.vm.findClass "MountPeersLaw" = some m.cls := hown
  have hts2 := lw_g2 hts
  obtain ⟨hH, hI, hE, k1, k2, k3, hN⟩ := id hW
  refine lv_aload_n hx hb dL_law_854 rfl (lv_at hl 3 rfl) ?_
  refine lw_arg (k := 1) hx hb hXs hbl hS hl hi hL (by decide) (by decide +kernel) dL_law_855 dL_law_856 dL_law_858 dL_law_859 dL_law_860 ?_
  obtain ⟨_, ⟨dr_, rfl, -⟩, o_x⟩ := hH s.heap.size _ k1
  refine va_calli (va_runV (As := [.int (xs (i + 1))]) (rest := []) ⟨hx, hb, hml, hown, hts2⟩ (c_X11_inside l g Ty G H.size s.heap.size (xs (i + 1)) k1) (cwV 1 hts2 (gwV mw_953 mw_954 mw_955 mw_76 mw_956) rfl rfl rfl hv_X11_inside ⟨Nat.le_of_ble_eq_true rfl, Nat.le_of_ble_eq_true rfl⟩) ⟨PcT_blind, hg_recv hK o_x rfl, PcT_pre hK hH⟩ rfl rfl hl.1 rfl (lv_room (Nat.le_of_ble_eq_true rfl)) dL_law_861 ⟨by show _ ≤ 1157971; omega, by show _ ≤ 5622190; omega⟩) hS (fun q _ h => af_in hN hS.1 q h) (fun q h => af_in hN hS.1 q h) (fun r_1 u_1 t_1 H_1 locs_1 ht_1 hv_1 hp_1 hB_1 hz_1 hk_1 hS_1 => ?_)
  obtain ⟨Ty_1, eT_⟩ : ∃ z, z = u_1.1 := ⟨_, rfl⟩
  obtain ⟨G_1, eG_⟩ : ∃ z, z = u_1.2 := ⟨_, rfl⟩
  have hH_1 : HT g Ty_1 G_1 H_1 := by rw [← ht_1, eT_, eG_]; exact hB_1
  have eT : Ty_1 = Ty := by rw [eT_, hp_1]
  have eG : G_1 = G := by rw [eG_, hp_1]
  have k1_1 := k1
  have k2_1 := k2
  have k3_1 := k3
  have hN_1 := hN
  rw [← eT] at k1_1 k2_1 k3_1 hN_1
  have hI_1 : OI g B G_1 := hI.ce (CE.of eG) h51
  have hE_1 : EQ5 g G_1 := by rw [eG]; exact hE
  refine lv_pop hx hb dL_law_864 rfl ?_
  refine lv_aload_n hx hb dL_law_865 rfl (lv_at hl 2 rfl) ?_
  refine lw_arg (k := 1) hx hb hXs hbl hS_1 hl hi hL (by decide) (by decide +kernel) dL_law_866 dL_law_867 dL_law_869 dL_law_870 dL_law_871 ?_
  obtain ⟨_, ⟨rfl, tm_, mk_⟩, o_m⟩ := hH_1 _ _ k2_1
  refine va_calli (va_runV (As := [.int (xs (i + 1))]) (rest := []) ⟨hx, hb, hml, hown, hts2⟩ (c_X12_inside l g Ty_1 G_1 _ (s.heap.size + 40) (xs (i + 1)) k2_1 B hI_1 (by omega) hLD) (cwV 1 hts2 (gwV mw_1730 mw_1731 mw_1732 mw_88 mw_1733) rfl rfl rfl hv_X12_inside ⟨Nat.le_of_ble_eq_true rfl, Nat.le_of_ble_eq_true rfl⟩) ⟨PcT_blind, hg_recv hK o_m rfl, PcT_pre hK hH_1⟩ rfl rfl hl.1 rfl (lv_room (Nat.le_of_ble_eq_true rfl)) dL_law_872 ⟨by show _ ≤ 1157971; omega, by show _ ≤ 5622190; omega⟩) hS_1 (fun q _ h => af_in hN_1 hS_1.1 q h) (fun q h => af_in hN_1 hS_1.1 q h) (fun r_2 u_2 t_2 H_2 locs_2 ht_2 hv_2 hp_2 hB_2 hz_2 hk_2 hS_2 => ?_)
  have hH_2 : HT g Ty_1 u_2.2 H_2 := by rw [← ht_2, ← hp_2.1]; exact hB_2
  have hF_2 := hp_2.2.1
  have hI_2 : OI g (B + 3000) u_2.2 := OI.up hp_2.2.2 (by omega)
  have hE_2 : EQ5 g u_2.2 := hE_1.r hF_2 (by decide) trivial
  refine lv_pop hx hb dL_law_875 rfl ?_
  refine lv_goto (tgt := 1481) hx hb dL_law_876 (by decide) ?_
  exact W.widen (k := cells + 160) (n := slots + 3160) (by omega) (by omega) (kk Ty_1 u_2.2 H_2 locs_2 _ ⟨hH_2, hI_2, hE_2, k1_1, k2_1, k3_1, hN_1⟩ hS_2 hl)
set_option maxHeartbeats 4000000 in
set_option maxRecDepth 100000 in
theorem lc_21 {B : Int} {Ty : TyM} {G : Gh} (hX : LcX p l s m meth c b L xs g i B cells slots) (hl : lv_has ls 8 (lvL s b i)) (hW : LW g s.heap.size B Ty G H) (hS : va_S (fun q => s.heap.size ≤ q) s.heap H locs) (kk : LcT p l e s m below meth c b g i B cells slots 1481 Q) : W p l e room_1 s m #[Value.ref b] below meth c H locs cells slots Q (F0 m 879 ls []) := by
  obtain ⟨hst, hL, C0, E0, hi, hBd, hc, hs⟩ := hX
  obtain ⟨hx, hb, hr, hml, hown, hts, hXs, hbl, hlocks, hgv⟩ := id C0
  obtain ⟨hK, hO, hXO, hLD, h51⟩ := id E0
  have hown : s.vm.findClass "MountPeersLaw" = some m.cls := hown
  have hts2 := lw_g2 hts
  obtain ⟨hH, hI, hE, k1, k2, k3, hN⟩ := id hW
  refine lv_aload_n hx hb dL_law_879 rfl (lv_at hl 3 rfl) ?_
  refine lw_arg (k := 1) hx hb hXs hbl hS hl hi hL (by decide) (by decide +kernel) dL_law_880 dL_law_881 dL_law_883 dL_law_884 dL_law_885 ?_
  obtain ⟨_, ⟨dr_, rfl, -⟩, o_x⟩ := hH s.heap.size _ k1
  refine va_calli (va_runV (As := [.int (xs (i + 1))]) (rest := []) ⟨hx, hb, hml, hown, hts2⟩ (c_X11_path l g Ty G H.size s.heap.size (xs (i + 1)) k1) (cwV 1 hts2 (gwV mw_964 mw_965 mw_966 mw_76 mw_967) rfl rfl rfl hv_X11_path ⟨Nat.le_of_ble_eq_true rfl, Nat.le_of_ble_eq_true rfl⟩) ⟨PcT_blind, hg_recv hK o_x rfl, PcT_pre hK hH⟩ rfl rfl hl.1 rfl (lv_room (Nat.le_of_ble_eq_true rfl)) dL_law_886 ⟨by show _ ≤ 1157971; omega, by show _ ≤ 5622190; omega⟩) hS (fun q _ h => af_in hN hS.1 q h) (fun q h => af_in hN hS.1 q h) (fun r_1 u_1 t_1 H_1 locs_1 ht_1 hv_1 hp_1 hB_1 hz_1 hk_1 hS_1 => ?_)
  obtain ⟨Ty_1, eT_⟩ : ∃ z, z = u_1.1 := ⟨_, rfl⟩
  obtain ⟨G_1, eG_⟩ : ∃ z, z = u_1.2 := ⟨_, rfl⟩
  have hH_1 : HT g Ty_1 G_1 H_1 := by rw [← ht_1, eT_, eG_]; exact hB_1
  have eT : Ty_1 = Ty := by rw [eT_, hp_1]
  have eG : G_1 = G := by rw [eG_, hp_1]
  have k1_1 := k1
  have k2_1 := k2
  have k3_1 := k3
  have hN_1 := hN
  rw [← eT] at k1_1 k2_1 k3_1 hN_1
  have hI_1 : OI g B G_1 := hI.ce (CE.of eG) h51
  have hE_1 : EQ5 g G_1 := by rw [eG]; exact hE
  refine lv_pop hx hb dL_law_889 rfl ?_
  refine lv_aload_n hx hb dL_law_890 rfl (lv_at hl 2 rfl) ?_
  refine lw_arg (k := 1) hx hb hXs hbl hS_1 hl hi hL (by decide) (by decide +kernel) dL_law_891 dL_law_892 dL_law_894 dL_law_895 dL_law_896 ?_
  obtain ⟨_, ⟨rfl, tm_, mk_⟩, o_m⟩ := hH_1 _ _ k2_1
  refine va_calli (va_runV (As := [.int (xs (i + 1))]) (rest := []) ⟨hx, hb, hml, hown, hts2⟩ (c_X12_path l g Ty_1 G_1 _ (s.heap.size + 40) (xs (i + 1)) k2_1 B hI_1 (by omega) hLD) (cwV 1 hts2 (gwV mw_1738 mw_1739 mw_1740 mw_88 mw_1741) rfl rfl rfl hv_X12_path ⟨Nat.le_of_ble_eq_true rfl, Nat.le_of_ble_eq_true rfl⟩) ⟨PcT_blind, hg_recv hK o_m rfl, PcT_pre hK hH_1⟩ rfl rfl hl.1 rfl (lv_room (Nat.le_of_ble_eq_true rfl)) dL_law_897 ⟨by show _ ≤ 1157971; omega, by show _ ≤ 5622190; omega⟩) hS_1 (fun q _ h => af_in hN_1 hS_1.1 q h) (fun q h => af_in hN_1 hS_1.1 q h) (fun r_2 u_2 t_2 H_2 locs_2 ht_2 hv_2 hp_2 hB_2 hz_2 hk_2 hS_2 => ?_)
  have hH_2 : HT g Ty_1 u_2.2 H_2 := by rw [← ht_2, ← hp_2.1]; exact hB_2
  have hF_2 := hp_2.2.1
  have hI_2 : OI g (B + 3000) u_2.2 := OI.up hp_2.2.2 (by omega)
  have hE_2 : EQ5 g u_2.2 := hE_1.r hF_2 (by decide) trivial
  refine lv_pop hx hb dL_law_900 rfl ?_
  refine lv_goto (tgt := 1481) hx hb dL_law_901 (by decide) ?_
  exact W.widen (k := cells + 160) (n := slots + 3160) (by omega) (by omega) (kk Ty_1 u_2.2 H_2 locs_2 _ ⟨hH_2, hI_2, hE_2, k1_1, k2_1, k3_1, hN_1⟩ hS_2 hl)
set_option maxHeartbeats 4000000 in
set_option maxRecDepth 100000 in
theorem lc_22 {B : Int} {Ty : TyM} {G : Gh} (hX : LcX p l s m meth c b L xs g i B cells slots) (hl : lv_has ls 8 (lvL s b i)) (hW : LW g s.heap.size B Ty G H) (hS : va_S (fun q => s.heap.size ≤ q) s.heap H locs) (kk : LcT p l e s m below meth c b g i B cells slots 1481 Q) : W p l e room_1 s m #[Value.ref b] below meth c H locs cells slots Q (F0 m 904 ls []) := by
  obtain ⟨hst, hL, C0, E0, hi, hBd, hc, hs⟩ := hX
  obtain ⟨hx, hb, hr, hml, hown, hts, hXs, hbl, hlocks, hgv⟩ := id C0
  obtain ⟨hK, hO, hXO, hLD, h51⟩ := id E0
  have hown : s.vm.findClass "MountPeersLaw" = some m.cls := hown
  have hts2 := lw_g2 hts
  obtain ⟨hH, hI, hE, k1, k2, k3, hN⟩ := id hW
  refine lv_aload_n hx hb dL_law_904 rfl (lv_at hl 3 rfl) ?_
  refine lw_arg (k := 1) hx hb hXs hbl hS hl hi hL (by decide) (by decide +kernel) dL_law_905 dL_law_906 dL_law_908 dL_law_909 dL_law_910 ?_
  refine lw_arg (k := 2) hx hb hXs hbl hS hl hi hL (by decide) (by decide +kernel) dL_law_911 dL_law_912 dL_law_914 dL_law_915 dL_law_916 ?_
  obtain ⟨_, ⟨dr_, rfl, -⟩, o_x⟩ := hH s.heap.size _ k1
  refine va_calli (va_runV (As := [.int (xs (i + 1)), .int (xs (i + 2))]) (rest := []) ⟨hx, hb, hml, hown, hts2⟩ (c_X11_alike l g Ty G H.size s.heap.size (xs (i + 1)) (xs (i + 2)) k1) (cwV 2 hts2 (gwV mw_974 mw_975 mw_976 mw_76 mw_977) rfl rfl rfl hv_X11_alike ⟨Nat.le_of_ble_eq_true rfl, Nat.le_of_ble_eq_true rfl⟩) ⟨PcT_blind, hg_recv hK o_x rfl, PcT_pre hK hH⟩ rfl rfl hl.1 rfl (lv_room (Nat.le_of_ble_eq_true rfl)) dL_law_917 ⟨by show _ ≤ 1157971; omega, by show _ ≤ 5622190; omega⟩) hS (fun q _ h => af_in hN hS.1 q h) (fun q h => af_in hN hS.1 q h) (fun r_1 u_1 t_1 H_1 locs_1 ht_1 hv_1 hp_1 hB_1 hz_1 hk_1 hS_1 => ?_)
  obtain ⟨Ty_1, eT_⟩ : ∃ z, z = u_1.1 := ⟨_, rfl⟩
  obtain ⟨G_1, eG_⟩ : ∃ z, z = u_1.2 := ⟨_, rfl⟩
  have hH_1 : HT g Ty_1 G_1 H_1 := by rw [← ht_1, eT_, eG_]; exact hB_1
  have eT : Ty_1 = Ty := by rw [eT_, hp_1]
  have eG : G_1 = G := by rw [eG_, hp_1]
  have k1_1 := k1
  have k2_1 := k2
  have k3_1 := k3
  have hN_1 := hN
  rw [← eT] at k1_1 k2_1 k3_1 hN_1
  have hI_1 : OI g B G_1 := hI.ce (CE.of eG) h51
  have hE_1 : EQ5 g G_1 := by rw [eG]; exact hE
  refine lv_pop hx hb dL_law_920 rfl ?_
  refine lv_aload_n hx hb dL_law_921 rfl (lv_at hl 2 rfl) ?_
  refine lw_arg (k := 1) hx hb hXs hbl hS_1 hl hi hL (by decide) (by decide +kernel) dL_law_922 dL_law_923 dL_law_925 dL_law_926 dL_law_927 ?_
  refine lw_arg (k := 2) hx hb hXs hbl hS_1 hl hi hL (by decide) (by decide +kernel) dL_law_928 dL_law_929 dL_law_931 dL_law_932 dL_law_933 ?_
  obtain ⟨_, ⟨rfl, tm_, mk_⟩, o_m⟩ := hH_1 _ _ k2_1
  refine va_calli (va_runV (As := [.int (xs (i + 1)), .int (xs (i + 2))]) (rest := []) ⟨hx, hb, hml, hown, hts2⟩ (c_X12_alike l g Ty_1 G_1 _ (s.heap.size + 40) (xs (i + 1)) (xs (i + 2)) k2_1 B hI_1 (by omega) hLD) (cwV 2 hts2 (gwV mw_1742 mw_1743 mw_1744 mw_88 mw_1745) rfl rfl rfl hv_X12_alike ⟨Nat.le_of_ble_eq_true rfl, Nat.le_of_ble_eq_true rfl⟩) ⟨PcT_blind, hg_recv hK o_m rfl, PcT_pre hK hH_1⟩ rfl rfl hl.1 rfl (lv_room (Nat.le_of_ble_eq_true rfl)) dL_law_934 ⟨by show _ ≤ 1157971; omega, by show _ ≤ 5622190; omega⟩) hS_1 (fun q _ h => af_in hN_1 hS_1.1 q h) (fun q h => af_in hN_1 hS_1.1 q h) (fun r_2 u_2 t_2 H_2 locs_2 ht_2 hv_2 hp_2 hB_2 hz_2 hk_2 hS_2 => ?_)
  have hH_2 : HT g Ty_1 u_2.2 H_2 := by rw [← ht_2, ← hp_2.1]; exact hB_2
  have hF_2 := hp_2.2.1
  have hI_2 : OI g (B + 3000) u_2.2 := OI.up hp_2.2.2 (by omega)
  have hE_2 : EQ5 g u_2.2 := hE_1.r hF_2 (by decide) trivial
  refine lv_pop hx hb dL_law_937 rfl ?_
  refine lv_goto (tgt := 1481) hx hb dL_law_938 (by decide) ?_
  exact W.widen (k := cells + 160) (n := slots + 3160) (by omega) (by omega) (kk Ty_1 u_2.2 H_2 locs_2 _ ⟨hH_2, hI_2, hE_2, k1_1, k2_1, k3_1, hN_1⟩ hS_2 hl)
set_option maxHeartbeats 4000000 in
set_option maxRecDepth 100000 in
theorem lc_23 {B : Int} {Ty : TyM} {G : Gh} (hX : LcX p l s m meth c b L xs g i B cells slots) (hl : lv_has ls 8 (lvL s b i)) (hW : LW g s.heap.size B Ty G H) (hS : va_S (fun q => s.heap.size ≤ q) s.heap H locs) (kk : LcT p l e s m below meth c b g i B cells slots 1481 Q) : W p l e room_1 s m #[Value.ref b] below meth c H locs cells slots Q (F0 m 941 ls []) := by
  obtain ⟨hst, hL, C0, E0, hi, hBd, hc, hs⟩ := hX
  obtain ⟨hx, hb, hr, hml, hown, hts, hXs, hbl, hlocks, hgv⟩ := id C0
  obtain ⟨hK, hO, hXO, hLD, h51⟩ := id E0
  have hown : s.vm.findClass "MountPeersLaw" = some m.cls := hown
  have hts2 := lw_g2 hts
  obtain ⟨hH, hI, hE, k1, k2, k3, hN⟩ := id hW
  refine lv_aload_n hx hb dL_law_941 rfl (lv_at hl 3 rfl) ?_
  obtain ⟨_, ⟨dr_, rfl, -⟩, o_x⟩ := hH s.heap.size _ k1
  refine va_calli (va_runV (As := []) (rest := []) ⟨hx, hb, hml, hown, hts2⟩ (c_X11_largest l g Ty G H.size s.heap.size  k1) (cwV 0 hts2 (gwV mw_986 mw_987 mw_988 mw_76 mw_989) rfl rfl rfl hv_X11_largest ⟨Nat.le_of_ble_eq_true rfl, Nat.le_of_ble_eq_true rfl⟩) ⟨PcT_blind, hg_recv hK o_x rfl, PcT_pre hK hH⟩ rfl rfl hl.1 rfl (lv_room (Nat.le_of_ble_eq_true rfl)) dL_law_942 ⟨by show _ ≤ 1157971; omega, by show _ ≤ 5622190; omega⟩) hS (fun q _ h => af_in hN hS.1 q h) (fun q h => af_in hN hS.1 q h) (fun r_1 u_1 t_1 H_1 locs_1 ht_1 hv_1 hp_1 hB_1 hz_1 hk_1 hS_1 => ?_)
  obtain ⟨Ty_1, eT_⟩ : ∃ z, z = u_1.1 := ⟨_, rfl⟩
  obtain ⟨G_1, eG_⟩ : ∃ z, z = u_1.2 := ⟨_, rfl⟩
  have hH_1 : HT g Ty_1 G_1 H_1 := by rw [← ht_1, eT_, eG_]; exact hB_1
  have eT : Ty_1 = Ty := by rw [eT_, hp_1]
  have eG : G_1 = G := by rw [eG_, hp_1]
  have k1_1 := k1
  have k2_1 := k2
  have k3_1 := k3
  have hN_1 := hN
  rw [← eT] at k1_1 k2_1 k3_1 hN_1
  have hI_1 : OI g B G_1 := hI.ce (CE.of eG) h51
  have hE_1 : EQ5 g G_1 := by rw [eG]; exact hE
  refine lv_pop hx hb dL_law_945 rfl ?_
  refine lv_aload_n hx hb dL_law_946 rfl (lv_at hl 2 rfl) ?_
  obtain ⟨_, ⟨rfl, tm_, mk_⟩, o_m⟩ := hH_1 _ _ k2_1
  refine va_calli (va_runV (As := []) (rest := []) ⟨hx, hb, hml, hown, hts2⟩ (c_X12_largest l g Ty_1 G_1 _ (s.heap.size + 40)  k2_1 B hI_1 (by omega) hLD) (cwV 0 hts2 (gwV mw_1750 mw_1751 mw_1752 mw_88 mw_1753) rfl rfl rfl hv_X12_largest ⟨Nat.le_of_ble_eq_true rfl, Nat.le_of_ble_eq_true rfl⟩) ⟨PcT_blind, hg_recv hK o_m rfl, PcT_pre hK hH_1⟩ rfl rfl hl.1 rfl (lv_room (Nat.le_of_ble_eq_true rfl)) dL_law_947 ⟨by show _ ≤ 1157971; omega, by show _ ≤ 5622190; omega⟩) hS_1 (fun q _ h => af_in hN_1 hS_1.1 q h) (fun q h => af_in hN_1 hS_1.1 q h) (fun r_2 u_2 t_2 H_2 locs_2 ht_2 hv_2 hp_2 hB_2 hz_2 hk_2 hS_2 => ?_)
  have hH_2 : HT g Ty_1 u_2.2 H_2 := by rw [← ht_2, ← hp_2.1]; exact hB_2
  have hF_2 := hp_2.2.1
  have hI_2 : OI g (B + 3000) u_2.2 := OI.up hp_2.2.2 (by omega)
  have hE_2 : EQ5 g u_2.2 := hE_1.r hF_2 (by decide) trivial
  refine lv_pop hx hb dL_law_950 rfl ?_
  refine lv_goto (tgt := 1481) hx hb dL_law_951 (by decide) ?_
  exact W.widen (k := cells + 160) (n := slots + 3160) (by omega) (by omega) (kk Ty_1 u_2.2 H_2 locs_2 _ ⟨hH_2, hI_2, hE_2, k1_1, k2_1, k3_1, hN_1⟩ hS_2 hl)
set_option maxHeartbeats 4000000 in
set_option maxRecDepth 100000 in
theorem lc_24 {B : Int} {Ty : TyM} {G : Gh} (hX : LcX p l s m meth c b L xs g i B cells slots) (hl : lv_has ls 8 (lvL s b i)) (hW : LW g s.heap.size B Ty G H) (hS : va_S (fun q => s.heap.size ≤ q) s.heap H locs) (kk : LcT p l e s m below meth c b g i B cells slots 1481 Q) : W p l e room_1 s m #[Value.ref b] below meth c H locs cells slots Q (F0 m 954 ls []) := by
  obtain ⟨hst, hL, C0, E0, hi, hBd, hc, hs⟩ := hX
  obtain ⟨hx, hb, hr, hml, hown, hts, hXs, hbl, hlocks, hgv⟩ := id C0
  obtain ⟨hK, hO, hXO, hLD, h51⟩ := id E0
  have hown : s.vm.findClass "MountPeersLaw" = some m.cls := hown
  have hts2 := lw_g2 hts
  obtain ⟨hH, hI, hE, k1, k2, k3, hN⟩ := id hW
  refine lv_aload_n hx hb dL_law_954 rfl (lv_at hl 3 rfl) ?_
  refine lw_arg (k := 1) hx hb hXs hbl hS hl hi hL (by decide) (by decide +kernel) dL_law_955 dL_law_956 dL_law_958 dL_law_959 dL_law_960 ?_
  refine lw_arg (k := 2) hx hb hXs hbl hS hl hi hL (by decide) (by decide +kernel) dL_law_961 dL_law_962 dL_law_964 dL_law_965 dL_law_966 ?_
  obtain ⟨_, ⟨dr_, rfl, -⟩, o_x⟩ := hH s.heap.size _ k1
  refine va_calli (va_runV (As := [.int (xs (i + 1)), .int (xs (i + 2))]) (rest := []) ⟨hx, hb, hml, hown, hts2⟩ (c_X11_would l g Ty G H.size s.heap.size (xs (i + 1)) (xs (i + 2)) k1) (cwV 2 hts2 (gwV mw_990 mw_991 mw_992 mw_76 mw_993) rfl rfl rfl hv_X11_would ⟨Nat.le_of_ble_eq_true rfl, Nat.le_of_ble_eq_true rfl⟩) ⟨PcT_blind, hg_recv hK o_x rfl, PcT_pre hK hH⟩ rfl rfl hl.1 rfl (lv_room (Nat.le_of_ble_eq_true rfl)) dL_law_967 ⟨by show _ ≤ 1157971; omega, by show _ ≤ 5622190; omega⟩) hS (fun q _ h => af_in hN hS.1 q h) (fun q h => af_in hN hS.1 q h) (fun r_1 u_1 t_1 H_1 locs_1 ht_1 hv_1 hp_1 hB_1 hz_1 hk_1 hS_1 => ?_)
  obtain ⟨Ty_1, eT_⟩ : ∃ z, z = u_1.1 := ⟨_, rfl⟩
  obtain ⟨G_1, eG_⟩ : ∃ z, z = u_1.2 := ⟨_, rfl⟩
  have hH_1 : HT g Ty_1 G_1 H_1 := by rw [← ht_1, eT_, eG_]; exact hB_1
  have eT : Ty_1 = Ty := by rw [eT_, hp_1]
  have eG : G_1 = G := by rw [eG_, hp_1]
  have k1_1 := k1
  have k2_1 := k2
  have k3_1 := k3
  have hN_1 := hN
  rw [← eT] at k1_1 k2_1 k3_1 hN_1
  have hI_1 : OI g B G_1 := hI.ce (CE.of eG) h51
  have hE_1 : EQ5 g G_1 := by rw [eG]; exact hE
  refine lv_pop hx hb dL_law_970 rfl ?_
  refine lv_aload_n hx hb dL_law_971 rfl (lv_at hl 2 rfl) ?_
  refine lw_arg (k := 1) hx hb hXs hbl hS_1 hl hi hL (by decide) (by decide +kernel) dL_law_972 dL_law_973 dL_law_975 dL_law_976 dL_law_977 ?_
  refine lw_arg (k := 2) hx hb hXs hbl hS_1 hl hi hL (by decide) (by decide +kernel) dL_law_978 dL_law_979 dL_law_981 dL_law_982 dL_law_983 ?_
  obtain ⟨_, ⟨rfl, tm_, mk_⟩, o_m⟩ := hH_1 _ _ k2_1
  refine va_calli (va_runV (As := [.int (xs (i + 1)), .int (xs (i + 2))]) (rest := []) ⟨hx, hb, hml, hown, hts2⟩ (c_X12_would l g Ty_1 G_1 _ (s.heap.size + 40) (xs (i + 1)) (xs (i + 2)) k2_1 B hI_1 (by omega) hLD) (cwV 2 hts2 (gwV mw_1754 mw_1755 mw_1756 mw_88 mw_1757) rfl rfl rfl hv_X12_would ⟨Nat.le_of_ble_eq_true rfl, Nat.le_of_ble_eq_true rfl⟩) ⟨PcT_blind, hg_recv hK o_m rfl, PcT_pre hK hH_1⟩ rfl rfl hl.1 rfl (lv_room (Nat.le_of_ble_eq_true rfl)) dL_law_984 ⟨by show _ ≤ 1157971; omega, by show _ ≤ 5622190; omega⟩) hS_1 (fun q _ h => af_in hN_1 hS_1.1 q h) (fun q h => af_in hN_1 hS_1.1 q h) (fun r_2 u_2 t_2 H_2 locs_2 ht_2 hv_2 hp_2 hB_2 hz_2 hk_2 hS_2 => ?_)
  have hH_2 : HT g Ty_1 u_2.2 H_2 := by rw [← ht_2, ← hp_2.1]; exact hB_2
  have hF_2 := hp_2.2.1
  have hI_2 : OI g (B + 3000) u_2.2 := OI.up hp_2.2.2 (by omega)
  have hE_2 : EQ5 g u_2.2 := hE_1.r hF_2 (by decide) ⟨hLD 141 (by decide) 115 (by decide) (by decide), trivial⟩
  refine lv_pop hx hb dL_law_987 rfl ?_
  refine lv_goto (tgt := 1481) hx hb dL_law_988 (by decide) ?_
  exact W.widen (k := cells + 160) (n := slots + 3160) (by omega) (by omega) (kk Ty_1 u_2.2 H_2 locs_2 _ ⟨hH_2, hI_2, hE_2, k1_1, k2_1, k3_1, hN_1⟩ hS_2 hl)
set_option maxHeartbeats 4000000 in
set_option maxRecDepth 100000 in
theorem lc_25 {B : Int} {Ty : TyM} {G : Gh} (hX : LcX p l s m meth c b L xs g i B cells slots) (hl : lv_has ls 8 (lvL s b i)) (hW : LW g s.heap.size B Ty G H) (hS : va_S (fun q => s.heap.size ≤ q) s.heap H locs) (kk : LcT p l e s m below meth c b g i B cells slots 1481 Q) : W p l e room_1 s m #[Value.ref b] below meth c H locs cells slots Q (F0 m 991 ls []) := by
  obtain ⟨hst, hL, C0, E0, hi, hBd, hc, hs⟩ := hX
  obtain ⟨hx, hb, hr, hml, hown, hts, hXs, hbl, hlocks, hgv⟩ := id C0
  obtain ⟨hK, hO, hXO, hLD, h51⟩ := id E0
  have hown : s.vm.findClass "MountPeersLaw" = some m.cls := hown
  have hts2 := lw_g2 hts
  obtain ⟨hH, hI, hE, k1, k2, k3, hN⟩ := id hW
  refine lv_aload_n hx hb dL_law_991 rfl (lv_at hl 3 rfl) ?_
  refine lw_arg (k := 1) hx hb hXs hbl hS hl hi hL (by decide) (by decide +kernel) dL_law_992 dL_law_993 dL_law_995 dL_law_996 dL_law_997 ?_
  refine lw_arg (k := 2) hx hb hXs hbl hS hl hi hL (by decide) (by decide +kernel) dL_law_998 dL_law_999 dL_law_1001 dL_law_1002 dL_law_1003 ?_
  obtain ⟨_, ⟨dr_, rfl, -⟩, o_x⟩ := hH s.heap.size _ k1
  refine va_calli (va_runV (As := [.int (xs (i + 1)), .int (xs (i + 2))]) (rest := []) ⟨hx, hb, hml, hown, hts2⟩ (c_X11_lost l g Ty G H.size s.heap.size (xs (i + 1)) (xs (i + 2)) k1) (cwV 2 hts2 (gwV mw_995 mw_996 mw_997 mw_76 mw_998) rfl rfl rfl hv_X11_lost ⟨Nat.le_of_ble_eq_true rfl, Nat.le_of_ble_eq_true rfl⟩) ⟨PcT_blind, hg_recv hK o_x rfl, PcT_pre hK hH⟩ rfl rfl hl.1 rfl (lv_room (Nat.le_of_ble_eq_true rfl)) dL_law_1004 ⟨by show _ ≤ 1157971; omega, by show _ ≤ 5622190; omega⟩) hS (fun q _ h => af_in hN hS.1 q h) (fun q h => af_in hN hS.1 q h) (fun r_1 u_1 t_1 H_1 locs_1 ht_1 hv_1 hp_1 hB_1 hz_1 hk_1 hS_1 => ?_)
  obtain ⟨Ty_1, eT_⟩ : ∃ z, z = u_1.1 := ⟨_, rfl⟩
  obtain ⟨G_1, eG_⟩ : ∃ z, z = u_1.2 := ⟨_, rfl⟩
  have hH_1 : HT g Ty_1 G_1 H_1 := by rw [← ht_1, eT_, eG_]; exact hB_1
  have eT : Ty_1 = Ty := by rw [eT_, hp_1]
  have eG : G_1 = G := by rw [eG_, hp_1]
  have k1_1 := k1
  have k2_1 := k2
  have k3_1 := k3
  have hN_1 := hN
  rw [← eT] at k1_1 k2_1 k3_1 hN_1
  have hI_1 : OI g B G_1 := hI.ce (CE.of eG) h51
  have hE_1 : EQ5 g G_1 := by rw [eG]; exact hE
  refine lv_pop hx hb dL_law_1007 rfl ?_
  refine lv_aload_n hx hb dL_law_1008 rfl (lv_at hl 2 rfl) ?_
  refine lw_arg (k := 1) hx hb hXs hbl hS_1 hl hi hL (by decide) (by decide +kernel) dL_law_1009 dL_law_1010 dL_law_1012 dL_law_1013 dL_law_1014 ?_
  refine lw_arg (k := 2) hx hb hXs hbl hS_1 hl hi hL (by decide) (by decide +kernel) dL_law_1015 dL_law_1016 dL_law_1018 dL_law_1019 dL_law_1020 ?_
  obtain ⟨_, ⟨rfl, tm_, mk_⟩, o_m⟩ := hH_1 _ _ k2_1
  refine va_calli (va_runV (As := [.int (xs (i + 1)), .int (xs (i + 2))]) (rest := []) ⟨hx, hb, hml, hown, hts2⟩ (c_X12_lost_ l g Ty_1 G_1 _ (s.heap.size + 40) (xs (i + 1)) (xs (i + 2)) k2_1 B hI_1 (by omega) hLD) (cwV 2 hts2 (gwV mw_1758 mw_1759 mw_1760 mw_88 mw_1761) rfl rfl rfl hv_X12_lost_ ⟨Nat.le_of_ble_eq_true rfl, Nat.le_of_ble_eq_true rfl⟩) ⟨PcT_blind, hg_recv hK o_m rfl, PcT_pre hK hH_1⟩ rfl rfl hl.1 rfl (lv_room (Nat.le_of_ble_eq_true rfl)) dL_law_1021 ⟨by show _ ≤ 1157971; omega, by show _ ≤ 5622190; omega⟩) hS_1 (fun q _ h => af_in hN_1 hS_1.1 q h) (fun q h => af_in hN_1 hS_1.1 q h) (fun r_2 u_2 t_2 H_2 locs_2 ht_2 hv_2 hp_2 hB_2 hz_2 hk_2 hS_2 => ?_)
  have hH_2 : HT g Ty_1 u_2.2 H_2 := by rw [← ht_2, ← hp_2.1]; exact hB_2
  have hF_2 := hp_2.2.1
  have hI_2 : OI g (B + 3000) u_2.2 := OI.up hp_2.2.2 (by omega)
  have hE_2 : EQ5 g u_2.2 := hE_1.r hF_2 (by decide) ⟨hLD 141 (by decide) 115 (by decide) (by decide), trivial⟩
  refine lv_pop hx hb dL_law_1024 rfl ?_
  refine lv_goto (tgt := 1481) hx hb dL_law_1025 (by decide) ?_
  exact W.widen (k := cells + 160) (n := slots + 3160) (by omega) (by omega) (kk Ty_1 u_2.2 H_2 locs_2 _ ⟨hH_2, hI_2, hE_2, k1_1, k2_1, k3_1, hN_1⟩ hS_2 hl)
set_option maxHeartbeats 4000000 in
set_option maxRecDepth 100000 in
theorem lc_26 {B : Int} {Ty : TyM} {G : Gh} (hX : LcX p l s m meth c b L xs g i B cells slots) (hl : lv_has ls 8 (lvL s b i)) (hW : LW g s.heap.size B Ty G H) (hS : va_S (fun q => s.heap.size ≤ q) s.heap H locs) (kk : LcT p l e s m below meth c b g i B cells slots 1481 Q) : W p l e room_1 s m #[Value.ref b] below meth c H locs cells slots Q (F0 m 1028 ls []) := by
  obtain ⟨hst, hL, C0, E0, hi, hBd, hc, hs⟩ := hX
  obtain ⟨hx, hb, hr, hml, hown, hts, hXs, hbl, hlocks, hgv⟩ := id C0
  obtain ⟨hK, hO, hXO, hLD, h51⟩ := id E0
  have hown : s.vm.findClass "MountPeersLaw" = some m.cls := hown
  have hts2 := lw_g2 hts
  obtain ⟨hH, hI, hE, k1, k2, k3, hN⟩ := id hW
  refine lv_aload_n hx hb dL_law_1028 rfl (lv_at hl 3 rfl) ?_
  obtain ⟨_, ⟨dr_, rfl, -⟩, o_x⟩ := hH s.heap.size _ k1
  refine va_calli (va_runV (As := []) (rest := []) ⟨hx, hb, hml, hown, hts2⟩ (c_X11_widest l g Ty G H.size s.heap.size  k1) (cwV 0 hts2 (gwV mw_1000 mw_1001 mw_1002 mw_76 mw_1003) rfl rfl rfl hv_X11_widest ⟨Nat.le_of_ble_eq_true rfl, Nat.le_of_ble_eq_true rfl⟩) ⟨PcT_blind, hg_recv hK o_x rfl, PcT_pre hK hH⟩ rfl rfl hl.1 rfl (lv_room (Nat.le_of_ble_eq_true rfl)) dL_law_1029 ⟨by show _ ≤ 1157971; omega, by show _ ≤ 5622190; omega⟩) hS (fun q _ h => af_in hN hS.1 q h) (fun q h => af_in hN hS.1 q h) (fun r_1 u_1 t_1 H_1 locs_1 ht_1 hv_1 hp_1 hB_1 hz_1 hk_1 hS_1 => ?_)
  obtain ⟨Ty_1, eT_⟩ : ∃ z, z = u_1.1 := ⟨_, rfl⟩
  obtain ⟨G_1, eG_⟩ : ∃ z, z = u_1.2 := ⟨_, rfl⟩
  have hH_1 : HT g Ty_1 G_1 H_1 := by rw [← ht_1, eT_, eG_]; exact hB_1
  have eT : Ty_1 = Ty := by rw [eT_, hp_1]
  have eG : G_1 = G := by rw [eG_, hp_1]
  have k1_1 := k1
  have k2_1 := k2
  have k3_1 := k3
  have hN_1 := hN
  rw [← eT] at k1_1 k2_1 k3_1 hN_1
  have hI_1 : OI g B G_1 := hI.ce (CE.of eG) h51
  have hE_1 : EQ5 g G_1 := by rw [eG]; exact hE
  refine lv_pop hx hb dL_law_1032 rfl ?_
  refine lv_aload_n hx hb dL_law_1033 rfl (lv_at hl 2 rfl) ?_
  obtain ⟨_, ⟨rfl, tm_, mk_⟩, o_m⟩ := hH_1 _ _ k2_1
  refine va_calli (va_runV (As := []) (rest := []) ⟨hx, hb, hml, hown, hts2⟩ (c_X12_widest l g Ty_1 G_1 _ (s.heap.size + 40)  k2_1 B hI_1 (by omega) hLD) (cwV 0 hts2 (gwV mw_1762 mw_1763 mw_1764 mw_88 mw_1765) rfl rfl rfl hv_X12_widest ⟨Nat.le_of_ble_eq_true rfl, Nat.le_of_ble_eq_true rfl⟩) ⟨PcT_blind, hg_recv hK o_m rfl, PcT_pre hK hH_1⟩ rfl rfl hl.1 rfl (lv_room (Nat.le_of_ble_eq_true rfl)) dL_law_1034 ⟨by show _ ≤ 1157971; omega, by show _ ≤ 5622190; omega⟩) hS_1 (fun q _ h => af_in hN_1 hS_1.1 q h) (fun q h => af_in hN_1 hS_1.1 q h) (fun r_2 u_2 t_2 H_2 locs_2 ht_2 hv_2 hp_2 hB_2 hz_2 hk_2 hS_2 => ?_)
  have hH_2 : HT g Ty_1 u_2.2 H_2 := by rw [← ht_2, ← hp_2.1]; exact hB_2
  have hF_2 := hp_2.2.1
  have hI_2 : OI g (B + 3000) u_2.2 := OI.up hp_2.2.2 (by omega)
  have hE_2 : EQ5 g u_2.2 := hE_1.r hF_2 (by decide) ⟨hLD 141 (by decide) 115 (by decide) (by decide), trivial⟩
  refine lv_pop hx hb dL_law_1037 rfl ?_
  refine lv_goto (tgt := 1481) hx hb dL_law_1038 (by decide) ?_
  exact W.widen (k := cells + 160) (n := slots + 3160) (by omega) (by omega) (kk Ty_1 u_2.2 H_2 locs_2 _ ⟨hH_2, hI_2, hE_2, k1_1, k2_1, k3_1, hN_1⟩ hS_2 hl)
set_option maxHeartbeats 4000000 in
set_option maxRecDepth 100000 in
theorem lc_27 {B : Int} {Ty : TyM} {G : Gh} (hX : LcX p l s m meth c b L xs g i B cells slots) (hl : lv_has ls 8 (lvL s b i)) (hW : LW g s.heap.size B Ty G H) (hS : va_S (fun q => s.heap.size ≤ q) s.heap H locs) (kk : LcT p l e s m below meth c b g i B cells slots 1481 Q) : W p l e room_1 s m #[Value.ref b] below meth c H locs cells slots Q (F0 m 1041 ls []) := by
  obtain ⟨hst, hL, C0, E0, hi, hBd, hc, hs⟩ := hX
  obtain ⟨hx, hb, hr, hml, hown, hts, hXs, hbl, hlocks, hgv⟩ := id C0
  obtain ⟨hK, hO, hXO, hLD, h51⟩ := id E0
  have hown : s.vm.findClass "MountPeersLaw" = some m.cls := hown
  have hts2 := lw_g2 hts
  obtain ⟨hH, hI, hE, k1, k2, k3, hN⟩ := id hW
  refine lv_aload_n hx hb dL_law_1041 rfl (lv_at hl 3 rfl) ?_
  refine lw_arg (k := 1) hx hb hXs hbl hS hl hi hL (by decide) (by decide +kernel) dL_law_1042 dL_law_1043 dL_law_1045 dL_law_1046 dL_law_1047 ?_
  refine lw_arg (k := 2) hx hb hXs hbl hS hl hi hL (by decide) (by decide +kernel) dL_law_1048 dL_law_1049 dL_law_1051 dL_law_1052 dL_law_1053 ?_
  obtain ⟨_, ⟨dr_, rfl, -⟩, o_x⟩ := hH s.heap.size _ k1
  refine va_calli (va_runV (As := [.int (xs (i + 1)), .int (xs (i + 2))]) (rest := []) ⟨hx, hb, hml, hown, hts2⟩ (c_X11_heard l g Ty G H.size s.heap.size (xs (i + 1)) (xs (i + 2)) k1) (cwV 2 hts2 (gwV mw_1006 mw_1007 mw_1008 mw_76 mw_1009) rfl rfl rfl hv_X11_heard ⟨Nat.le_of_ble_eq_true rfl, Nat.le_of_ble_eq_true rfl⟩) ⟨PcO_blind, hg_recv hK o_x rfl, PcO_pre hK hH (hO.narrow (af_in hN (Nat.le_refl _))) (vaS_af hS)⟩ rfl rfl hl.1 rfl (lv_room (Nat.le_of_ble_eq_true rfl)) dL_law_1054 ⟨by show _ ≤ 1157971; omega, by show _ ≤ 5622190; omega⟩) hS (fun q _ h => af_in hN hS.1 q h) (fun q h => af_in hN hS.1 q h) (fun r_1 u_1 t_1 H_1 locs_1 ht_1 hv_1 hp_1 hB_1 hz_1 hk_1 hS_1 => ?_)
  obtain ⟨Ty_1, eT_⟩ : ∃ z, z = u_1.1 := ⟨_, rfl⟩
  obtain ⟨G_1, eG_⟩ : ∃ z, z = u_1.2 := ⟨_, rfl⟩
  have hH_1 : HT g Ty_1 G_1 H_1 := by rw [← ht_1, eT_, eG_]; exact hB_1
  have eT : Ty_1 = Ty := by rw [eT_]; exact hp_1.1
  have hrel := hp_1.2
  rw [← eG_] at hrel
  have k1_1 := k1
  have k2_1 := k2
  have k3_1 := k3
  have hN_1 := hN
  rw [← eT] at k1_1 k2_1 k3_1 hN_1
  have hI_1 : OI g B G_1 := hI.ce (CE.heard hrel) h51
  refine lv_pop hx hb dL_law_1057 rfl ?_
  refine lv_aload_n hx hb dL_law_1058 rfl (lv_at hl 2 rfl) ?_
  refine lw_arg (k := 1) hx hb hXs hbl hS_1 hl hi hL (by decide) (by decide +kernel) dL_law_1059 dL_law_1060 dL_law_1062 dL_law_1063 dL_law_1064 ?_
  refine lw_arg (k := 2) hx hb hXs hbl hS_1 hl hi hL (by decide) (by decide +kernel) dL_law_1065 dL_law_1066 dL_law_1068 dL_law_1069 dL_law_1070 ?_
  obtain ⟨_, ⟨rfl, tm_, mk_⟩, o_m⟩ := hH_1 _ _ k2_1
  refine va_calli (va_runV (As := [.int (xs (i + 1)), .int (xs (i + 2))]) (rest := []) ⟨hx, hb, hml, hown, hts2⟩ (c_X12_heard l g Ty_1 G_1 _ (s.heap.size + 40) (xs (i + 1)) (xs (i + 2)) k2_1 B hI_1 (by omega) hLD) (cwV 2 hts2 (gwV mw_1766 mw_1767 mw_1768 mw_88 mw_1769) rfl rfl rfl hv_X12_heard ⟨Nat.le_of_ble_eq_true rfl, Nat.le_of_ble_eq_true rfl⟩) ⟨PcT_blind, hg_recv hK o_m rfl, PcT_pre hK hH_1⟩ rfl rfl hl.1 rfl (lv_room (Nat.le_of_ble_eq_true rfl)) dL_law_1071 ⟨by show _ ≤ 1157971; omega, by show _ ≤ 5622190; omega⟩) hS_1 (fun q _ h => af_in hN_1 hS_1.1 q h) (fun q h => af_in hN_1 hS_1.1 q h) (fun r_2 u_2 t_2 H_2 locs_2 ht_2 hv_2 hp_2 hB_2 hz_2 hk_2 hS_2 => ?_)
  have hH_2 : HT g Ty_1 u_2.2 H_2 := by rw [← ht_2, ← hp_2.1]; exact hB_2
  have hF_2 := hp_2.2.1
  have hI_2 : OI g (B + 3000) u_2.2 := OI.up hp_2.2.2.1 (by omega)
  have hm_2 := hp_2.2.2.2
  obtain ⟨hr_2, hE_2⟩ := EQ5.heard hE hrel hF_2 hm_2
  refine lv_pop hx hb dL_law_1074 rfl ?_
  refine lv_goto (tgt := 1481) hx hb dL_law_1075 (by decide) ?_
  exact W.widen (k := cells + 160) (n := slots + 3160) (by omega) (by omega) (kk Ty_1 u_2.2 H_2 locs_2 _ ⟨hH_2, hI_2, hE_2, k1_1, k2_1, k3_1, hN_1⟩ hS_2 hl)
set_option maxHeartbeats 4000000 in
set_option maxRecDepth 100000 in
theorem lc_28 {B : Int} {Ty : TyM} {G : Gh} (hX : LcX p l s m meth c b L xs g i B cells slots) (hl : lv_has ls 8 (lvL s b i)) (hW : LW g s.heap.size B Ty G H) (hS : va_S (fun q => s.heap.size ≤ q) s.heap H locs) (kk : LcT p l e s m below meth c b g i B cells slots 1481 Q) : W p l e room_1 s m #[Value.ref b] below meth c H locs cells slots Q (F0 m 1078 ls []) := by
  obtain ⟨hst, hL, C0, E0, hi, hBd, hc, hs⟩ := hX
  obtain ⟨hx, hb, hr, hml, hown, hts, hXs, hbl, hlocks, hgv⟩ := id C0
  obtain ⟨hK, hO, hXO, hLD, h51⟩ := id E0
  have hown : s.vm.findClass "MountPeersLaw" = some m.cls := hown
  have hts2 := lw_g2 hts
  obtain ⟨hH, hI, hE, k1, k2, k3, hN⟩ := id hW
  refine lv_aload_n hx hb dL_law_1078 rfl (lv_at hl 3 rfl) ?_
  obtain ⟨_, ⟨dr_, rfl, -⟩, o_x⟩ := hH s.heap.size _ k1
  refine va_calli (va_runV (As := []) (rest := []) ⟨hx, hb, hml, hown, hts2⟩ (c_X11_forget l g Ty G H.size s.heap.size  k1) (cwV 0 hts2 (gwV mw_1016 mw_1017 mw_1018 mw_76 mw_1019) rfl rfl rfl hv_X11_forget ⟨Nat.le_of_ble_eq_true rfl, Nat.le_of_ble_eq_true rfl⟩) ⟨PcT_blind, hg_recv hK o_x rfl, PcT_pre hK hH⟩ rfl rfl hl.1 rfl (lv_room (Nat.le_of_ble_eq_true rfl)) dL_law_1079 ⟨by show _ ≤ 1157971; omega, by show _ ≤ 5622190; omega⟩) hS (fun q _ h => af_in hN hS.1 q h) (fun q h => af_in hN hS.1 q h) (fun r_1 u_1 t_1 H_1 locs_1 ht_1 hv_1 hp_1 hB_1 hz_1 hk_1 hS_1 => ?_)
  obtain ⟨Ty_1, eT_⟩ : ∃ z, z = u_1.1 := ⟨_, rfl⟩
  obtain ⟨G_1, eG_⟩ : ∃ z, z = u_1.2 := ⟨_, rfl⟩
  have hH_1 : HT g Ty_1 G_1 H_1 := by rw [← ht_1, eT_, eG_]; exact hB_1
  have eT : Ty_1 = Ty := by rw [eT_]; exact hp_1.1
  have hrel := hp_1.2
  rw [← eG_] at hrel
  have k1_1 := k1
  have k2_1 := k2
  have k3_1 := k3
  have hN_1 := hN
  rw [← eT] at k1_1 k2_1 k3_1 hN_1
  have hI_1 : OI g B G_1 := hI.ce (CE.gs hrel.2 (by decide)) h51
  refine lv_pop hx hb dL_law_1082 rfl ?_
  refine lv_aload_n hx hb dL_law_1083 rfl (lv_at hl 2 rfl) ?_
  obtain ⟨_, ⟨rfl, tm_, mk_⟩, o_m⟩ := hH_1 _ _ k2_1
  refine va_calli (va_runV (As := []) (rest := []) ⟨hx, hb, hml, hown, hts2⟩ (c_X12_forget l g Ty_1 G_1 _ (s.heap.size + 40)  k2_1) (cwV 0 hts2 (gwV mw_1773 mw_1774 mw_1775 mw_88 mw_1776) rfl rfl rfl hv_X12_forget ⟨Nat.le_of_ble_eq_true rfl, Nat.le_of_ble_eq_true rfl⟩) ⟨PcT_blind, hg_recv hK o_m rfl, PcT_pre hK hH_1⟩ rfl rfl hl.1 rfl (lv_room (Nat.le_of_ble_eq_true rfl)) dL_law_1084 ⟨by show _ ≤ 1157971; omega, by show _ ≤ 5622190; omega⟩) hS_1 (fun q _ h => af_in hN_1 hS_1.1 q h) (fun q h => af_in hN_1 hS_1.1 q h) (fun r_2 u_2 t_2 H_2 locs_2 ht_2 hv_2 hp_2 hB_2 hz_2 hk_2 hS_2 => ?_)
  have hH_2 : HT g Ty_1 u_2.2 H_2 := by rw [← ht_2, ← hp_2.1]; exact hB_2
  have hI_2 : OI g (B + 3000) u_2.2 := OI.up (hI_1.fg hp_2.2.2) (by omega)
  obtain ⟨hr_2, hE_2⟩ := EQ5.fg hE hrel hp_2.2
  refine lv_pop hx hb dL_law_1087 rfl ?_
  refine lv_goto (tgt := 1481) hx hb dL_law_1088 (by decide) ?_
  exact W.widen (k := cells + 160) (n := slots + 3160) (by omega) (by omega) (kk Ty_1 u_2.2 H_2 locs_2 _ ⟨hH_2, hI_2, hE_2, k1_1, k2_1, k3_1, hN_1⟩ hS_2 hl)
set_option maxHeartbeats 4000000 in
set_option maxRecDepth 100000 in
theorem lc_29 {B : Int} {Ty : TyM} {G : Gh} (hX : LcX p l s m meth c b L xs g i B cells slots) (hl : lv_has ls 8 (lvL s b i)) (hW : LW g s.heap.size B Ty G H) (hS : va_S (fun q => s.heap.size ≤ q) s.heap H locs) (kk : LcT p l e s m below meth c b g i B cells slots 1481 Q) : W p l e room_1 s m #[Value.ref b] below meth c H locs cells slots Q (F0 m 1091 ls []) := by
  obtain ⟨hst, hL, C0, E0, hi, hBd, hc, hs⟩ := hX
  obtain ⟨hx, hb, hr, hml, hown, hts, hXs, hbl, hlocks, hgv⟩ := id C0
  obtain ⟨hK, hO, hXO, hLD, h51⟩ := id E0
  have hown : s.vm.findClass "MountPeersLaw" = some m.cls := hown
  have hts2 := lw_g2 hts
  obtain ⟨hH, hI, hE, k1, k2, k3, hN⟩ := id hW
  refine lv_aload_n hx hb dL_law_1091 rfl (lv_at hl 3 rfl) ?_
  obtain ⟨_, ⟨dr_, rfl, -⟩, o_x⟩ := hH s.heap.size _ k1
  refine va_calli (va_runV (As := []) (rest := []) ⟨hx, hb, hml, hown, hts2⟩ (c_X11_fits l g Ty G H.size s.heap.size  k1) (cwV 0 hts2 (gwV mw_1020 mw_1021 mw_1022 mw_76 mw_1023) rfl rfl rfl hv_X11_fits ⟨Nat.le_of_ble_eq_true rfl, Nat.le_of_ble_eq_true rfl⟩) ⟨PcT_blind, hg_recv hK o_x rfl, PcT_pre hK hH⟩ rfl rfl hl.1 rfl (lv_room (Nat.le_of_ble_eq_true rfl)) dL_law_1092 ⟨by show _ ≤ 1157971; omega, by show _ ≤ 5622190; omega⟩) hS (fun q _ h => af_in hN hS.1 q h) (fun q h => af_in hN hS.1 q h) (fun r_1 u_1 t_1 H_1 locs_1 ht_1 hv_1 hp_1 hB_1 hz_1 hk_1 hS_1 => ?_)
  obtain ⟨Ty_1, eT_⟩ : ∃ z, z = u_1.1 := ⟨_, rfl⟩
  obtain ⟨G_1, eG_⟩ : ∃ z, z = u_1.2 := ⟨_, rfl⟩
  have hH_1 : HT g Ty_1 G_1 H_1 := by rw [← ht_1, eT_, eG_]; exact hB_1
  have eT : Ty_1 = Ty := by rw [eT_, hp_1]
  have eG : G_1 = G := by rw [eG_, hp_1]
  have k1_1 := k1
  have k2_1 := k2
  have k3_1 := k3
  have hN_1 := hN
  rw [← eT] at k1_1 k2_1 k3_1 hN_1
  have hI_1 : OI g B G_1 := hI.ce (CE.of eG) h51
  have hE_1 : EQ5 g G_1 := by rw [eG]; exact hE
  refine lv_pop hx hb dL_law_1095 rfl ?_
  refine lv_aload_n hx hb dL_law_1096 rfl (lv_at hl 2 rfl) ?_
  obtain ⟨_, ⟨rfl, tm_, mk_⟩, o_m⟩ := hH_1 _ _ k2_1
  refine va_calli (va_runV (As := []) (rest := []) ⟨hx, hb, hml, hown, hts2⟩ (c_X12_fits l g Ty_1 G_1 _ (s.heap.size + 40)  k2_1 B hI_1 (by omega) hLD) (cwV 0 hts2 (gwV mw_1777 mw_1778 mw_1779 mw_88 mw_1780) rfl rfl rfl hv_X12_fits ⟨Nat.le_of_ble_eq_true rfl, Nat.le_of_ble_eq_true rfl⟩) ⟨PcT_blind, hg_recv hK o_m rfl, PcT_pre hK hH_1⟩ rfl rfl hl.1 rfl (lv_room (Nat.le_of_ble_eq_true rfl)) dL_law_1097 ⟨by show _ ≤ 1157971; omega, by show _ ≤ 5622190; omega⟩) hS_1 (fun q _ h => af_in hN_1 hS_1.1 q h) (fun q h => af_in hN_1 hS_1.1 q h) (fun r_2 u_2 t_2 H_2 locs_2 ht_2 hv_2 hp_2 hB_2 hz_2 hk_2 hS_2 => ?_)
  have hH_2 : HT g Ty_1 u_2.2 H_2 := by rw [← ht_2, ← hp_2.1]; exact hB_2
  have hF_2 := hp_2.2.1
  have hI_2 : OI g (B + 3000) u_2.2 := OI.up hp_2.2.2 (by omega)
  have hE_2 : EQ5 g u_2.2 := hE_1.r hF_2 (by decide) trivial
  refine lv_pop hx hb dL_law_1100 rfl ?_
  refine lv_goto (tgt := 1481) hx hb dL_law_1101 (by decide) ?_
  exact W.widen (k := cells + 160) (n := slots + 3160) (by omega) (by omega) (kk Ty_1 u_2.2 H_2 locs_2 _ ⟨hH_2, hI_2, hE_2, k1_1, k2_1, k3_1, hN_1⟩ hS_2 hl)
set_option maxHeartbeats 4000000 in
set_option maxRecDepth 100000 in
theorem lc_30 {B : Int} {Ty : TyM} {G : Gh} (hX : LcX p l s m meth c b L xs g i B cells slots) (hl : lv_has ls 8 (lvL s b i)) (hW : LW g s.heap.size B Ty G H) (hS : va_S (fun q => s.heap.size ≤ q) s.heap H locs) (kk : LcT p l e s m below meth c b g i B cells slots 1481 Q) : W p l e room_1 s m #[Value.ref b] below meth c H locs cells slots Q (F0 m 1104 ls []) := by
  obtain ⟨hst, hL, C0, E0, hi, hBd, hc, hs⟩ := hX
  obtain ⟨hx, hb, hr, hml, hown, hts, hXs, hbl, hlocks, hgv⟩ := id C0
  obtain ⟨hK, hO, hXO, hLD, h51⟩ := id E0
  have hown : s.vm.findClass "MountPeersLaw" = some m.cls := hown
  have hts2 := lw_g2 hts
  obtain ⟨hH, hI, hE, k1, k2, k3, hN⟩ := id hW
  refine lv_aload_n hx hb dL_law_1104 rfl (lv_at hl 3 rfl) ?_
  obtain ⟨_, ⟨dr_, rfl, -⟩, o_x⟩ := hH s.heap.size _ k1
  refine va_calli (va_runV (As := []) (rest := []) ⟨hx, hb, hml, hown, hts2⟩ (c_X11_asks l g Ty G H.size s.heap.size  k1) (cwV 0 hts2 (gwV mw_1047 mw_1048 mw_1049 mw_76 mw_1050) rfl rfl rfl hv_X11_asks ⟨Nat.le_of_ble_eq_true rfl, Nat.le_of_ble_eq_true rfl⟩) ⟨PcO_blind, hg_recv hK o_x rfl, PcO_pre hK hH (hO.narrow (af_in hN (Nat.le_refl _))) (vaS_af hS)⟩ rfl rfl hl.1 rfl (lv_room (Nat.le_of_ble_eq_true rfl)) dL_law_1105 ⟨by show _ ≤ 1157971; omega, by show _ ≤ 5622190; omega⟩) hS (fun q _ h => af_in hN hS.1 q h) (fun q h => af_in hN hS.1 q h) (fun r_1 u_1 t_1 H_1 locs_1 ht_1 hv_1 hp_1 hB_1 hz_1 hk_1 hS_1 => ?_)
  obtain ⟨Ty_1, eT_⟩ : ∃ z, z = u_1.1 := ⟨_, rfl⟩
  obtain ⟨G_1, eG_⟩ : ∃ z, z = u_1.2 := ⟨_, rfl⟩
  have hH_1 : HT g Ty_1 G_1 H_1 := by rw [← ht_1, eT_, eG_]; exact hB_1
  have eT : Ty_1 = Ty := by rw [eT_, hp_1]
  have eG : G_1 = G := by rw [eG_, hp_1]
  have k1_1 := k1
  have k2_1 := k2
  have k3_1 := k3
  have hN_1 := hN
  rw [← eT] at k1_1 k2_1 k3_1 hN_1
  have hI_1 : OI g B G_1 := hI.ce (CE.of eG) h51
  have hE_1 : EQ5 g G_1 := by rw [eG]; exact hE
  refine lv_pop hx hb dL_law_1108 rfl ?_
  refine lv_aload_n hx hb dL_law_1109 rfl (lv_at hl 2 rfl) ?_
  obtain ⟨_, ⟨rfl, tm_, mk_⟩, o_m⟩ := hH_1 _ _ k2_1
  refine va_calli (va_runV (As := []) (rest := []) ⟨hx, hb, hml, hown, hts2⟩ (c_X12_asks l g Ty_1 G_1 _ (s.heap.size + 40)  k2_1 B hI_1 (by omega) hLD) (cwV 0 hts2 (gwV mw_1789 mw_1790 mw_1791 mw_88 mw_1792) rfl rfl rfl hv_X12_asks ⟨Nat.le_of_ble_eq_true rfl, Nat.le_of_ble_eq_true rfl⟩) ⟨PcT_blind, hg_recv hK o_m rfl, PcT_pre hK hH_1⟩ rfl rfl hl.1 rfl (lv_room (Nat.le_of_ble_eq_true rfl)) dL_law_1110 ⟨by show _ ≤ 1157971; omega, by show _ ≤ 5622190; omega⟩) hS_1 (fun q _ h => af_in hN_1 hS_1.1 q h) (fun q h => af_in hN_1 hS_1.1 q h) (fun r_2 u_2 t_2 H_2 locs_2 ht_2 hv_2 hp_2 hB_2 hz_2 hk_2 hS_2 => ?_)
  have hH_2 : HT g Ty_1 u_2.2 H_2 := by rw [← ht_2, ← hp_2.1]; exact hB_2
  have hF_2 := hp_2.2.1
  have hI_2 : OI g (B + 3000) u_2.2 := OI.up hp_2.2.2 (by omega)
  have hE_2 : EQ5 g u_2.2 := hE_1.r hF_2 (by decide) trivial
  refine lv_pop hx hb dL_law_1113 rfl ?_
  refine lv_goto (tgt := 1481) hx hb dL_law_1114 (by decide) ?_
  exact W.widen (k := cells + 160) (n := slots + 3160) (by omega) (by omega) (kk Ty_1 u_2.2 H_2 locs_2 _ ⟨hH_2, hI_2, hE_2, k1_1, k2_1, k3_1, hN_1⟩ hS_2 hl)
set_option maxHeartbeats 4000000 in
set_option maxRecDepth 100000 in
theorem lc_31 {B : Int} {Ty : TyM} {G : Gh} (hX : LcX p l s m meth c b L xs g i B cells slots) (hl : lv_has ls 8 (lvL s b i)) (hW : LW g s.heap.size B Ty G H) (hS : va_S (fun q => s.heap.size ≤ q) s.heap H locs) (kk : LcT p l e s m below meth c b g i B cells slots 1481 Q) : W p l e room_1 s m #[Value.ref b] below meth c H locs cells slots Q (F0 m 1117 ls []) := by
  obtain ⟨hst, hL, C0, E0, hi, hBd, hc, hs⟩ := hX
  obtain ⟨hx, hb, hr, hml, hown, hts, hXs, hbl, hlocks, hgv⟩ := id C0
  obtain ⟨hK, hO, hXO, hLD, h51⟩ := id E0
  have hown : s.vm.findClass "MountPeersLaw" = some m.cls := hown
  have hts2 := lw_g2 hts
  obtain ⟨hH, hI, hE, k1, k2, k3, hN⟩ := id hW
  refine lv_aload_n hx hb dL_law_1117 rfl (lv_at hl 3 rfl) ?_
  refine lw_arg (k := 1) hx hb hXs hbl hS hl hi hL (by decide) (by decide +kernel) dL_law_1118 dL_law_1119 dL_law_1121 dL_law_1122 dL_law_1123 ?_
  refine lw_arg (k := 2) hx hb hXs hbl hS hl hi hL (by decide) (by decide +kernel) dL_law_1124 dL_law_1125 dL_law_1127 dL_law_1128 dL_law_1129 ?_
  refine lw_arg (k := 3) hx hb hXs hbl hS hl hi hL (by decide) (by decide +kernel) dL_law_1130 dL_law_1131 dL_law_1133 dL_law_1134 dL_law_1135 ?_
  obtain ⟨_, ⟨dr_, rfl, -⟩, o_x⟩ := hH s.heap.size _ k1
  refine va_calli (va_runV (As := [.int (xs (i + 1)), .int (xs (i + 2)), .int (xs (i + 3))]) (rest := []) ⟨hx, hb, hml, hown, hts2⟩ (c_X11_saw l g Ty G H.size s.heap.size (xs (i + 1)) (xs (i + 2)) (xs (i + 3)) k1) (cwV 3 hts2 (gwV mw_1057 mw_1058 mw_1059 mw_76 mw_1060) rfl rfl rfl hv_X11_saw ⟨Nat.le_of_ble_eq_true rfl, Nat.le_of_ble_eq_true rfl⟩) ⟨PcT_blind, hg_recv hK o_x rfl, PcT_pre hK hH⟩ rfl rfl hl.1 rfl (lv_room (Nat.le_of_ble_eq_true rfl)) dL_law_1136 ⟨by show _ ≤ 1157971; omega, by show _ ≤ 5622190; omega⟩) hS (fun q _ h => af_in hN hS.1 q h) (fun q h => af_in hN hS.1 q h) (fun r_1 u_1 t_1 H_1 locs_1 ht_1 hv_1 hp_1 hB_1 hz_1 hk_1 hS_1 => ?_)
  obtain ⟨Ty_1, eT_⟩ : ∃ z, z = u_1.1 := ⟨_, rfl⟩
  obtain ⟨G_1, eG_⟩ : ∃ z, z = u_1.2 := ⟨_, rfl⟩
  have hH_1 : HT g Ty_1 G_1 H_1 := by rw [← ht_1, eT_, eG_]; exact hB_1
  have eT : Ty_1 = Ty := by rw [eT_]; exact hp_1.1
  have hrel := hp_1.2
  rw [← eG_] at hrel
  have k1_1 := k1
  have k2_1 := k2
  have k3_1 := k3
  have hN_1 := hN
  rw [← eT] at k1_1 k2_1 k3_1 hN_1
  have hI_1 : OI g B G_1 := hI.ce (CE.saw hrel) h51
  refine lv_pop hx hb dL_law_1139 rfl ?_
  refine lv_aload_n hx hb dL_law_1140 rfl (lv_at hl 2 rfl) ?_
  refine lw_arg (k := 1) hx hb hXs hbl hS_1 hl hi hL (by decide) (by decide +kernel) dL_law_1141 dL_law_1142 dL_law_1144 dL_law_1145 dL_law_1146 ?_
  refine lw_arg (k := 2) hx hb hXs hbl hS_1 hl hi hL (by decide) (by decide +kernel) dL_law_1147 dL_law_1148 dL_law_1150 dL_law_1151 dL_law_1152 ?_
  refine lw_arg (k := 3) hx hb hXs hbl hS_1 hl hi hL (by decide) (by decide +kernel) dL_law_1153 dL_law_1154 dL_law_1156 dL_law_1157 dL_law_1158 ?_
  obtain ⟨_, ⟨rfl, tm_, mk_⟩, o_m⟩ := hH_1 _ _ k2_1
  refine va_calli (va_runV (As := [.int (xs (i + 1)), .int (xs (i + 2)), .int (xs (i + 3))]) (rest := []) ⟨hx, hb, hml, hown, hts2⟩ (c_X12_saw l g Ty_1 G_1 _ (s.heap.size + 40) (xs (i + 1)) (xs (i + 2)) (xs (i + 3)) k2_1 B hI_1 (by omega) hLD) (cwV 3 hts2 (gwV mw_1794 mw_1795 mw_1796 mw_88 mw_1797) rfl rfl rfl hv_X12_saw ⟨Nat.le_of_ble_eq_true rfl, Nat.le_of_ble_eq_true rfl⟩) ⟨PcT_blind, hg_recv hK o_m rfl, PcT_pre hK hH_1⟩ rfl rfl hl.1 rfl (lv_room (Nat.le_of_ble_eq_true rfl)) dL_law_1159 ⟨by show _ ≤ 1157971; omega, by show _ ≤ 5622190; omega⟩) hS_1 (fun q _ h => af_in hN_1 hS_1.1 q h) (fun q h => af_in hN_1 hS_1.1 q h) (fun r_2 u_2 t_2 H_2 locs_2 ht_2 hv_2 hp_2 hB_2 hz_2 hk_2 hS_2 => ?_)
  have hH_2 : HT g Ty_1 u_2.2 H_2 := by rw [← ht_2, ← hp_2.1]; exact hB_2
  have hF_2 := hp_2.2.1
  have hI_2 : OI g (B + 3000) u_2.2 := OI.up hp_2.2.2.1 (by omega)
  have hm_2 := hp_2.2.2.2
  obtain ⟨hr_2, hE_2⟩ := EQ5.saw hE hrel hF_2 hm_2
  refine lv_pop hx hb dL_law_1162 rfl ?_
  refine lv_goto (tgt := 1481) hx hb dL_law_1163 (by decide) ?_
  exact W.widen (k := cells + 160) (n := slots + 3160) (by omega) (by omega) (kk Ty_1 u_2.2 H_2 locs_2 _ ⟨hH_2, hI_2, hE_2, k1_1, k2_1, k3_1, hN_1⟩ hS_2 hl)
set_option maxHeartbeats 4000000 in
set_option maxRecDepth 100000 in
theorem lc_32 {B : Int} {Ty : TyM} {G : Gh} (hX : LcX p l s m meth c b L xs g i B cells slots) (hl : lv_has ls 8 (lvL s b i)) (hW : LW g s.heap.size B Ty G H) (hS : va_S (fun q => s.heap.size ≤ q) s.heap H locs) (kk : LcT p l e s m below meth c b g i B cells slots 1481 Q) : W p l e room_1 s m #[Value.ref b] below meth c H locs cells slots Q (F0 m 1166 ls []) := by
  obtain ⟨hst, hL, C0, E0, hi, hBd, hc, hs⟩ := hX
  obtain ⟨hx, hb, hr, hml, hown, hts, hXs, hbl, hlocks, hgv⟩ := id C0
  obtain ⟨hK, hO, hXO, hLD, h51⟩ := id E0
  have hown : s.vm.findClass "MountPeersLaw" = some m.cls := hown
  have hts2 := lw_g2 hts
  obtain ⟨hH, hI, hE, k1, k2, k3, hN⟩ := id hW
  refine lv_aload_n hx hb dL_law_1166 rfl (lv_at hl 3 rfl) ?_
  obtain ⟨_, ⟨dr_, rfl, -⟩, o_x⟩ := hH s.heap.size _ k1
  refine va_calli (va_runV (As := []) (rest := []) ⟨hx, hb, hml, hown, hts2⟩ (c_X11_denies l g Ty G H.size s.heap.size  k1) (cwV 0 hts2 (gwV mw_1065 mw_1066 mw_1067 mw_76 mw_1068) rfl rfl rfl hv_X11_denies ⟨Nat.le_of_ble_eq_true rfl, Nat.le_of_ble_eq_true rfl⟩) ⟨PcT_blind, hg_recv hK o_x rfl, PcT_pre hK hH⟩ rfl rfl hl.1 rfl (lv_room (Nat.le_of_ble_eq_true rfl)) dL_law_1167 ⟨by show _ ≤ 1157971; omega, by show _ ≤ 5622190; omega⟩) hS (fun q _ h => af_in hN hS.1 q h) (fun q h => af_in hN hS.1 q h) (fun r_1 u_1 t_1 H_1 locs_1 ht_1 hv_1 hp_1 hB_1 hz_1 hk_1 hS_1 => ?_)
  obtain ⟨Ty_1, eT_⟩ : ∃ z, z = u_1.1 := ⟨_, rfl⟩
  obtain ⟨G_1, eG_⟩ : ∃ z, z = u_1.2 := ⟨_, rfl⟩
  have hH_1 : HT g Ty_1 G_1 H_1 := by rw [← ht_1, eT_, eG_]; exact hB_1
  have eT : Ty_1 = Ty := by rw [eT_]; exact hp_1.1
  have hrel := hp_1.2
  rw [← eG_] at hrel
  have k1_1 := k1
  have k2_1 := k2
  have k3_1 := k3
  have hN_1 := hN
  rw [← eT] at k1_1 k2_1 k3_1 hN_1
  have hI_1 : OI g B G_1 := hI.ce (CE.gs hrel.2 (by decide)) h51
  refine lv_pop hx hb dL_law_1170 rfl ?_
  refine lv_aload_n hx hb dL_law_1171 rfl (lv_at hl 2 rfl) ?_
  obtain ⟨_, ⟨rfl, tm_, mk_⟩, o_m⟩ := hH_1 _ _ k2_1
  refine va_calli (va_runV (As := []) (rest := []) ⟨hx, hb, hml, hown, hts2⟩ (c_X12_denies l g Ty_1 G_1 _ (s.heap.size + 40)  k2_1) (cwV 0 hts2 (gwV mw_1798 mw_1799 mw_1800 mw_88 mw_1801) rfl rfl rfl hv_X12_denies ⟨Nat.le_of_ble_eq_true rfl, Nat.le_of_ble_eq_true rfl⟩) ⟨PcT_blind, hg_recv hK o_m rfl, PcT_pre hK hH_1⟩ rfl rfl hl.1 rfl (lv_room (Nat.le_of_ble_eq_true rfl)) dL_law_1172 ⟨by show _ ≤ 1157971; omega, by show _ ≤ 5622190; omega⟩) hS_1 (fun q _ h => af_in hN_1 hS_1.1 q h) (fun q h => af_in hN_1 hS_1.1 q h) (fun r_2 u_2 t_2 H_2 locs_2 ht_2 hv_2 hp_2 hB_2 hz_2 hk_2 hS_2 => ?_)
  have hH_2 : HT g Ty_1 u_2.2 H_2 := by rw [← ht_2, ← hp_2.1]; exact hB_2
  have hI_2 : OI g (B + 3000) u_2.2 := OI.up (hI_1.dn hp_2.2.2) (by omega)
  obtain ⟨hr_2, hE_2⟩ := EQ5.dn hE hrel hp_2.2
  refine lv_pop hx hb dL_law_1175 rfl ?_
  refine lv_goto (tgt := 1481) hx hb dL_law_1176 (by decide) ?_
  exact W.widen (k := cells + 160) (n := slots + 3160) (by omega) (by omega) (kk Ty_1 u_2.2 H_2 locs_2 _ ⟨hH_2, hI_2, hE_2, k1_1, k2_1, k3_1, hN_1⟩ hS_2 hl)
set_option maxHeartbeats 4000000 in
set_option maxRecDepth 100000 in
theorem lc_33 {B : Int} {Ty : TyM} {G : Gh} (hX : LcX p l s m meth c b L xs g i B cells slots) (hl : lv_has ls 8 (lvL s b i)) (hW : LW g s.heap.size B Ty G H) (hS : va_S (fun q => s.heap.size ≤ q) s.heap H locs) (kk : LcT p l e s m below meth c b g i B cells slots 1481 Q) : W p l e room_1 s m #[Value.ref b] below meth c H locs cells slots Q (F0 m 1179 ls []) := by
  obtain ⟨hst, hL, C0, E0, hi, hBd, hc, hs⟩ := hX
  obtain ⟨hx, hb, hr, hml, hown, hts, hXs, hbl, hlocks, hgv⟩ := id C0
  obtain ⟨hK, hO, hXO, hLD, h51⟩ := id E0
  have hown : s.vm.findClass "MountPeersLaw" = some m.cls := hown
  have hts2 := lw_g2 hts
  obtain ⟨hH, hI, hE, k1, k2, k3, hN⟩ := id hW
  refine lv_aload_n hx hb dL_law_1179 rfl (lv_at hl 3 rfl) ?_
  obtain ⟨_, ⟨dr_, rfl, -⟩, o_x⟩ := hH s.heap.size _ k1
  refine va_calli (va_runV (As := []) (rest := []) ⟨hx, hb, hml, hown, hts2⟩ (c_X11_laws l g Ty G H.size s.heap.size  k1) (cwV 0 hts2 (gwV mw_1069 mw_1070 mw_1071 mw_76 mw_1072) rfl rfl rfl hv_X11_laws ⟨Nat.le_of_ble_eq_true rfl, Nat.le_of_ble_eq_true rfl⟩) ⟨PcT_blind, hg_recv hK o_x rfl, PcT_pre hK hH⟩ rfl rfl hl.1 rfl (lv_room (Nat.le_of_ble_eq_true rfl)) dL_law_1180 ⟨by show _ ≤ 1157971; omega, by show _ ≤ 5622190; omega⟩) hS (fun q _ h => af_in hN hS.1 q h) (fun q h => af_in hN hS.1 q h) (fun r_1 u_1 t_1 H_1 locs_1 ht_1 hv_1 hp_1 hB_1 hz_1 hk_1 hS_1 => ?_)
  obtain ⟨Ty_1, eT_⟩ : ∃ z, z = u_1.1 := ⟨_, rfl⟩
  obtain ⟨G_1, eG_⟩ : ∃ z, z = u_1.2 := ⟨_, rfl⟩
  have hH_1 : HT g Ty_1 G_1 H_1 := by rw [← ht_1, eT_, eG_]; exact hB_1
  have eT : Ty_1 = Ty := by rw [eT_, hp_1]
  have eG : G_1 = G := by rw [eG_, hp_1]
  have k1_1 := k1
  have k2_1 := k2
  have k3_1 := k3
  have hN_1 := hN
  rw [← eT] at k1_1 k2_1 k3_1 hN_1
  have hI_1 : OI g B G_1 := hI.ce (CE.of eG) h51
  have hE_1 : EQ5 g G_1 := by rw [eG]; exact hE
  refine lv_pop hx hb dL_law_1183 rfl ?_
  refine lv_aload_n hx hb dL_law_1184 rfl (lv_at hl 2 rfl) ?_
  obtain ⟨_, ⟨rfl, tm_, mk_⟩, o_m⟩ := hH_1 _ _ k2_1
  refine va_calli (va_runV (As := []) (rest := []) ⟨hx, hb, hml, hown, hts2⟩ (c_X12_laws l g Ty_1 G_1 _ (s.heap.size + 40)  k2_1 B hI_1 (by omega) hLD) (cwV 0 hts2 (gwV mw_1802 mw_1803 mw_1804 mw_88 mw_1805) rfl rfl rfl hv_X12_laws ⟨Nat.le_of_ble_eq_true rfl, Nat.le_of_ble_eq_true rfl⟩) ⟨PcT_blind, hg_recv hK o_m rfl, PcT_pre hK hH_1⟩ rfl rfl hl.1 rfl (lv_room (Nat.le_of_ble_eq_true rfl)) dL_law_1185 ⟨by show _ ≤ 1157971; omega, by show _ ≤ 5622190; omega⟩) hS_1 (fun q _ h => af_in hN_1 hS_1.1 q h) (fun q h => af_in hN_1 hS_1.1 q h) (fun r_2 u_2 t_2 H_2 locs_2 ht_2 hv_2 hp_2 hB_2 hz_2 hk_2 hS_2 => ?_)
  have hH_2 : HT g Ty_1 u_2.2 H_2 := by rw [← ht_2, ← hp_2.1]; exact hB_2
  have hF_2 := hp_2.2.1
  have hI_2 : OI g (B + 3000) u_2.2 := OI.up hp_2.2.2 (by omega)
  have hE_2 : EQ5 g u_2.2 := hE_1.r hF_2 (by decide) trivial
  refine lv_pop hx hb dL_law_1188 rfl ?_
  refine lv_goto (tgt := 1481) hx hb dL_law_1189 (by decide) ?_
  exact W.widen (k := cells + 160) (n := slots + 3160) (by omega) (by omega) (kk Ty_1 u_2.2 H_2 locs_2 _ ⟨hH_2, hI_2, hE_2, k1_1, k2_1, k3_1, hN_1⟩ hS_2 hl)
set_option maxHeartbeats 4000000 in
set_option maxRecDepth 100000 in
theorem lc_34 {B : Int} {Ty : TyM} {G : Gh} (hX : LcX p l s m meth c b L xs g i B cells slots) (hl : lv_has ls 8 (lvL s b i)) (hW : LW g s.heap.size B Ty G H) (hS : va_S (fun q => s.heap.size ≤ q) s.heap H locs) (kk : LcT p l e s m below meth c b g i B cells slots 1481 Q) : W p l e room_1 s m #[Value.ref b] below meth c H locs cells slots Q (F0 m 1192 ls []) := by
  obtain ⟨hst, hL, C0, E0, hi, hBd, hc, hs⟩ := hX
  obtain ⟨hx, hb, hr, hml, hown, hts, hXs, hbl, hlocks, hgv⟩ := id C0
  obtain ⟨hK, hO, hXO, hLD, h51⟩ := id E0
  have hown : s.vm.findClass "MountPeersLaw" = some m.cls := hown
  have hts2 := lw_g2 hts
  obtain ⟨hH, hI, hE, k1, k2, k3, hN⟩ := id hW
  refine lv_aload_n hx hb dL_law_1192 rfl (lv_at hl 3 rfl) ?_
  obtain ⟨_, ⟨dr_, rfl, -⟩, o_x⟩ := hH s.heap.size _ k1
  refine va_calli (va_runV (As := []) (rest := []) ⟨hx, hb, hml, hown, hts2⟩ (c_X11_looks l g Ty G H.size s.heap.size  k1) (cwV 0 hts2 (gwV mw_1096 mw_1097 mw_1098 mw_76 mw_1099) rfl rfl rfl hv_X11_looks ⟨Nat.le_of_ble_eq_true rfl, Nat.le_of_ble_eq_true rfl⟩) ⟨PcT_blind, hg_recv hK o_x rfl, PcT_pre hK hH⟩ rfl rfl hl.1 rfl (lv_room (Nat.le_of_ble_eq_true rfl)) dL_law_1193 ⟨by show _ ≤ 1157971; omega, by show _ ≤ 5622190; omega⟩) hS (fun q _ h => af_in hN hS.1 q h) (fun q h => af_in hN hS.1 q h) (fun r_1 u_1 t_1 H_1 locs_1 ht_1 hv_1 hp_1 hB_1 hz_1 hk_1 hS_1 => ?_)
  obtain ⟨Ty_1, eT_⟩ : ∃ z, z = u_1.1 := ⟨_, rfl⟩
  obtain ⟨G_1, eG_⟩ : ∃ z, z = u_1.2 := ⟨_, rfl⟩
  have hH_1 : HT g Ty_1 G_1 H_1 := by rw [← ht_1, eT_, eG_]; exact hB_1
  have eT : Ty_1 = Ty := by rw [eT_, hp_1]
  have eG : G_1 = G := by rw [eG_, hp_1]
  have k1_1 := k1
  have k2_1 := k2
  have k3_1 := k3
  have hN_1 := hN
  rw [← eT] at k1_1 k2_1 k3_1 hN_1
  have hI_1 : OI g B G_1 := hI.ce (CE.of eG) h51
  have hE_1 : EQ5 g G_1 := by rw [eG]; exact hE
  refine lv_pop hx hb dL_law_1196 rfl ?_
  refine lv_aload_n hx hb dL_law_1197 rfl (lv_at hl 2 rfl) ?_
  obtain ⟨_, ⟨rfl, tm_, mk_⟩, o_m⟩ := hH_1 _ _ k2_1
  refine va_calli (va_runV (As := []) (rest := []) ⟨hx, hb, hml, hown, hts2⟩ (c_X12_looks l g Ty_1 G_1 _ (s.heap.size + 40)  k2_1 B hI_1 (by omega) hLD) (cwV 0 hts2 (gwV mw_1813 mw_1814 mw_1815 mw_88 mw_1816) rfl rfl rfl hv_X12_looks ⟨Nat.le_of_ble_eq_true rfl, Nat.le_of_ble_eq_true rfl⟩) ⟨PcT_blind, hg_recv hK o_m rfl, PcT_pre hK hH_1⟩ rfl rfl hl.1 rfl (lv_room (Nat.le_of_ble_eq_true rfl)) dL_law_1198 ⟨by show _ ≤ 1157971; omega, by show _ ≤ 5622190; omega⟩) hS_1 (fun q _ h => af_in hN_1 hS_1.1 q h) (fun q h => af_in hN_1 hS_1.1 q h) (fun r_2 u_2 t_2 H_2 locs_2 ht_2 hv_2 hp_2 hB_2 hz_2 hk_2 hS_2 => ?_)
  have hH_2 : HT g Ty_1 u_2.2 H_2 := by rw [← ht_2, ← hp_2.1]; exact hB_2
  have hF_2 := hp_2.2.1
  have hI_2 : OI g (B + 3000) u_2.2 := OI.up hp_2.2.2 (by omega)
  have hE_2 : EQ5 g u_2.2 := hE_1.r hF_2 (by decide) trivial
  refine lv_pop hx hb dL_law_1201 rfl ?_
  refine lv_goto (tgt := 1481) hx hb dL_law_1202 (by decide) ?_
  exact W.widen (k := cells + 160) (n := slots + 3160) (by omega) (by omega) (kk Ty_1 u_2.2 H_2 locs_2 _ ⟨hH_2, hI_2, hE_2, k1_1, k2_1, k3_1, hN_1⟩ hS_2 hl)
set_option maxHeartbeats 4000000 in
set_option maxRecDepth 100000 in
theorem lc_35 {B : Int} {Ty : TyM} {G : Gh} (hX : LcX p l s m meth c b L xs g i B cells slots) (hl : lv_has ls 8 (lvL s b i)) (hW : LW g s.heap.size B Ty G H) (hS : va_S (fun q => s.heap.size ≤ q) s.heap H locs) (kk : LcT p l e s m below meth c b g i B cells slots 1481 Q) : W p l e room_1 s m #[Value.ref b] below meth c H locs cells slots Q (F0 m 1205 ls []) := by
  obtain ⟨hst, hL, C0, E0, hi, hBd, hc, hs⟩ := hX
  obtain ⟨hx, hb, hr, hml, hown, hts, hXs, hbl, hlocks, hgv⟩ := id C0
  obtain ⟨hK, hO, hXO, hLD, h51⟩ := id E0
  have hown : s.vm.findClass "MountPeersLaw" = some m.cls := hown
  have hts2 := lw_g2 hts
  obtain ⟨hH, hI, hE, k1, k2, k3, hN⟩ := id hW
  refine lv_aload_n hx hb dL_law_1205 rfl (lv_at hl 3 rfl) ?_
  refine lw_arg (k := 1) hx hb hXs hbl hS hl hi hL (by decide) (by decide +kernel) dL_law_1206 dL_law_1207 dL_law_1209 dL_law_1210 dL_law_1211 ?_
  refine lw_arg (k := 2) hx hb hXs hbl hS hl hi hL (by decide) (by decide +kernel) dL_law_1212 dL_law_1213 dL_law_1215 dL_law_1216 dL_law_1217 ?_
  refine lw_arg (k := 3) hx hb hXs hbl hS hl hi hL (by decide) (by decide +kernel) dL_law_1218 dL_law_1219 dL_law_1221 dL_law_1222 dL_law_1223 ?_
  obtain ⟨_, ⟨dr_, rfl, -⟩, o_x⟩ := hH s.heap.size _ k1
  refine va_calli (va_runV (As := [.int (xs (i + 1)), .int (xs (i + 2)), .int (xs (i + 3))]) (rest := []) ⟨hx, hb, hml, hown, hts2⟩ (c_X11_odds l g Ty G H.size s.heap.size (xs (i + 1)) (xs (i + 2)) (xs (i + 3)) k1) (cwV 3 hts2 (gwV mw_1107 mw_1108 mw_1109 mw_76 mw_1110) rfl rfl rfl hv_X11_odds ⟨Nat.le_of_ble_eq_true rfl, Nat.le_of_ble_eq_true rfl⟩) ⟨PcT_blind, hg_recv hK o_x rfl, PcT_pre hK hH⟩ rfl rfl hl.1 rfl (lv_room (Nat.le_of_ble_eq_true rfl)) dL_law_1224 ⟨by show _ ≤ 1157971; omega, by show _ ≤ 5622190; omega⟩) hS (fun q _ h => af_in hN hS.1 q h) (fun q h => af_in hN hS.1 q h) (fun r_1 u_1 t_1 H_1 locs_1 ht_1 hv_1 hp_1 hB_1 hz_1 hk_1 hS_1 => ?_)
  obtain ⟨Ty_1, eT_⟩ : ∃ z, z = u_1.1 := ⟨_, rfl⟩
  obtain ⟨G_1, eG_⟩ : ∃ z, z = u_1.2 := ⟨_, rfl⟩
  have hH_1 : HT g Ty_1 G_1 H_1 := by rw [← ht_1, eT_, eG_]; exact hB_1
  have eT : Ty_1 = Ty := by rw [eT_, hp_1]
  have eG : G_1 = G := by rw [eG_, hp_1]
  have k1_1 := k1
  have k2_1 := k2
  have k3_1 := k3
  have hN_1 := hN
  rw [← eT] at k1_1 k2_1 k3_1 hN_1
  have hI_1 : OI g B G_1 := hI.ce (CE.of eG) h51
  have hE_1 : EQ5 g G_1 := by rw [eG]; exact hE
  refine lv_pop hx hb dL_law_1227 rfl ?_
  refine lv_aload_n hx hb dL_law_1228 rfl (lv_at hl 2 rfl) ?_
  refine lw_arg (k := 1) hx hb hXs hbl hS_1 hl hi hL (by decide) (by decide +kernel) dL_law_1229 dL_law_1230 dL_law_1232 dL_law_1233 dL_law_1234 ?_
  refine lw_arg (k := 2) hx hb hXs hbl hS_1 hl hi hL (by decide) (by decide +kernel) dL_law_1235 dL_law_1236 dL_law_1238 dL_law_1239 dL_law_1240 ?_
  refine lw_arg (k := 3) hx hb hXs hbl hS_1 hl hi hL (by decide) (by decide +kernel) dL_law_1241 dL_law_1242 dL_law_1244 dL_law_1245 dL_law_1246 ?_
  obtain ⟨_, ⟨rfl, tm_, mk_⟩, o_m⟩ := hH_1 _ _ k2_1
  refine va_calli (va_runV (As := [.int (xs (i + 1)), .int (xs (i + 2)), .int (xs (i + 3))]) (rest := []) ⟨hx, hb, hml, hown, hts2⟩ (c_X12_odds l g Ty_1 G_1 _ (s.heap.size + 40) (xs (i + 1)) (xs (i + 2)) (xs (i + 3)) k2_1 B hI_1 (by omega) hLD) (cwV 3 hts2 (gwV mw_1817 mw_1818 mw_1819 mw_88 mw_1820) rfl rfl rfl hv_X12_odds ⟨Nat.le_of_ble_eq_true rfl, Nat.le_of_ble_eq_true rfl⟩) ⟨PcT_blind, hg_recv hK o_m rfl, PcT_pre hK hH_1⟩ rfl rfl hl.1 rfl (lv_room (Nat.le_of_ble_eq_true rfl)) dL_law_1247 ⟨by show _ ≤ 1157971; omega, by show _ ≤ 5622190; omega⟩) hS_1 (fun q _ h => af_in hN_1 hS_1.1 q h) (fun q h => af_in hN_1 hS_1.1 q h) (fun r_2 u_2 t_2 H_2 locs_2 ht_2 hv_2 hp_2 hB_2 hz_2 hk_2 hS_2 => ?_)
  have hH_2 : HT g Ty_1 u_2.2 H_2 := by rw [← ht_2, ← hp_2.1]; exact hB_2
  have hF_2 := hp_2.2.1
  have hI_2 : OI g (B + 3000) u_2.2 := OI.up hp_2.2.2 (by omega)
  have hE_2 : EQ5 g u_2.2 := hE_1.r hF_2 (by decide) trivial
  refine lv_pop hx hb dL_law_1250 rfl ?_
  refine lv_goto (tgt := 1481) hx hb dL_law_1251 (by decide) ?_
  exact W.widen (k := cells + 160) (n := slots + 3160) (by omega) (by omega) (kk Ty_1 u_2.2 H_2 locs_2 _ ⟨hH_2, hI_2, hE_2, k1_1, k2_1, k3_1, hN_1⟩ hS_2 hl)
set_option maxHeartbeats 4000000 in
set_option maxRecDepth 100000 in
theorem lc_36 {B : Int} {Ty : TyM} {G : Gh} (hX : LcX p l s m meth c b L xs g i B cells slots) (hl : lv_has ls 8 (lvL s b i)) (hW : LW g s.heap.size B Ty G H) (hS : va_S (fun q => s.heap.size ≤ q) s.heap H locs) (kk : LcT p l e s m below meth c b g i B cells slots 1481 Q) : W p l e room_1 s m #[Value.ref b] below meth c H locs cells slots Q (F0 m 1254 ls []) := by
  obtain ⟨hst, hL, C0, E0, hi, hBd, hc, hs⟩ := hX
  obtain ⟨hx, hb, hr, hml, hown, hts, hXs, hbl, hlocks, hgv⟩ := id C0
  obtain ⟨hK, hO, hXO, hLD, h51⟩ := id E0
  have hown : s.vm.findClass "MountPeersLaw" = some m.cls := hown
  have hts2 := lw_g2 hts
  obtain ⟨hH, hI, hE, k1, k2, k3, hN⟩ := id hW
  refine lv_aload_n hx hb dL_law_1254 rfl (lv_at hl 3 rfl) ?_
  refine lw_arg (k := 1) hx hb hXs hbl hS hl hi hL (by decide) (by decide +kernel) dL_law_1255 dL_law_1256 dL_law_1258 dL_law_1259 dL_law_1260 ?_
  obtain ⟨_, ⟨dr_, rfl, -⟩, o_x⟩ := hH s.heap.size _ k1
  refine va_calli (va_runV (As := [.int (xs (i + 1))]) (rest := []) ⟨hx, hb, hml, hown, hts2⟩ (c_X11_hacks l g Ty G H.size s.heap.size (xs (i + 1)) k1) (cwV 1 hts2 (gwV mw_1124 mw_1125 mw_1126 mw_76 mw_1127) rfl rfl rfl hv_X11_hacks ⟨Nat.le_of_ble_eq_true rfl, Nat.le_of_ble_eq_true rfl⟩) ⟨PcT_blind, hg_recv hK o_x rfl, PcT_pre hK hH⟩ rfl rfl hl.1 rfl (lv_room (Nat.le_of_ble_eq_true rfl)) dL_law_1261 ⟨by show _ ≤ 1157971; omega, by show _ ≤ 5622190; omega⟩) hS (fun q _ h => af_in hN hS.1 q h) (fun q h => af_in hN hS.1 q h) (fun r_1 u_1 t_1 H_1 locs_1 ht_1 hv_1 hp_1 hB_1 hz_1 hk_1 hS_1 => ?_)
  obtain ⟨Ty_1, eT_⟩ : ∃ z, z = u_1.1 := ⟨_, rfl⟩
  obtain ⟨G_1, eG_⟩ : ∃ z, z = u_1.2 := ⟨_, rfl⟩
  have hH_1 : HT g Ty_1 G_1 H_1 := by rw [← ht_1, eT_, eG_]; exact hB_1
  have eT : Ty_1 = Ty := by rw [eT_, hp_1]
  have eG : G_1 = G := by rw [eG_, hp_1]
  have k1_1 := k1
  have k2_1 := k2
  have k3_1 := k3
  have hN_1 := hN
  rw [← eT] at k1_1 k2_1 k3_1 hN_1
  have hI_1 : OI g B G_1 := hI.ce (CE.of eG) h51
  have hE_1 : EQ5 g G_1 := by rw [eG]; exact hE
  refine lv_pop hx hb dL_law_1264 rfl ?_
  refine lv_aload_n hx hb dL_law_1265 rfl (lv_at hl 2 rfl) ?_
  refine lw_arg (k := 1) hx hb hXs hbl hS_1 hl hi hL (by decide) (by decide +kernel) dL_law_1266 dL_law_1267 dL_law_1269 dL_law_1270 dL_law_1271 ?_
  obtain ⟨_, ⟨rfl, tm_, mk_⟩, o_m⟩ := hH_1 _ _ k2_1
  refine va_calli (va_runV (As := [.int (xs (i + 1))]) (rest := []) ⟨hx, hb, hml, hown, hts2⟩ (c_X12_hacks l g Ty_1 G_1 _ (s.heap.size + 40) (xs (i + 1)) k2_1 B hI_1 (by omega) hLD) (cwV 1 hts2 (gwV mw_1825 mw_1826 mw_1827 mw_88 mw_1828) rfl rfl rfl hv_X12_hacks ⟨Nat.le_of_ble_eq_true rfl, Nat.le_of_ble_eq_true rfl⟩) ⟨PcT_blind, hg_recv hK o_m rfl, PcT_pre hK hH_1⟩ rfl rfl hl.1 rfl (lv_room (Nat.le_of_ble_eq_true rfl)) dL_law_1272 ⟨by show _ ≤ 1157971; omega, by show _ ≤ 5622190; omega⟩) hS_1 (fun q _ h => af_in hN_1 hS_1.1 q h) (fun q h => af_in hN_1 hS_1.1 q h) (fun r_2 u_2 t_2 H_2 locs_2 ht_2 hv_2 hp_2 hB_2 hz_2 hk_2 hS_2 => ?_)
  have hH_2 : HT g Ty_1 u_2.2 H_2 := by rw [← ht_2, ← hp_2.1]; exact hB_2
  have hF_2 := hp_2.2.1
  have hI_2 : OI g (B + 3000) u_2.2 := OI.up hp_2.2.2 (by omega)
  have hE_2 : EQ5 g u_2.2 := hE_1.r hF_2 (by decide) ⟨hLD 141 (by decide) 124 (by decide) (by decide), trivial⟩
  refine lv_pop hx hb dL_law_1275 rfl ?_
  refine lv_goto (tgt := 1481) hx hb dL_law_1276 (by decide) ?_
  exact W.widen (k := cells + 160) (n := slots + 3160) (by omega) (by omega) (kk Ty_1 u_2.2 H_2 locs_2 _ ⟨hH_2, hI_2, hE_2, k1_1, k2_1, k3_1, hN_1⟩ hS_2 hl)
set_option maxHeartbeats 4000000 in
set_option maxRecDepth 100000 in
theorem lc_37 {B : Int} {Ty : TyM} {G : Gh} (hX : LcX p l s m meth c b L xs g i B cells slots) (hl : lv_has ls 8 (lvL s b i)) (hW : LW g s.heap.size B Ty G H) (hS : va_S (fun q => s.heap.size ≤ q) s.heap H locs) (kk : LcT p l e s m below meth c b g i B cells slots 1481 Q) : W p l e room_1 s m #[Value.ref b] below meth c H locs cells slots Q (F0 m 1279 ls []) := by
  obtain ⟨hst, hL, C0, E0, hi, hBd, hc, hs⟩ := hX
  obtain ⟨hx, hb, hr, hml, hown, hts, hXs, hbl, hlocks, hgv⟩ := id C0
  obtain ⟨hK, hO, hXO, hLD, h51⟩ := id E0
  have hown : s.vm.findClass "MountPeersLaw" = some m.cls := hown
  have hts2 := lw_g2 hts
  obtain ⟨hH, hI, hE, k1, k2, k3, hN⟩ := id hW
  refine lv_aload_n hx hb dL_law_1279 rfl (lv_at hl 3 rfl) ?_
  refine lw_arg (k := 1) hx hb hXs hbl hS hl hi hL (by decide) (by decide +kernel) dL_law_1280 dL_law_1281 dL_law_1283 dL_law_1284 dL_law_1285 ?_
  obtain ⟨_, ⟨dr_, rfl, -⟩, o_x⟩ := hH s.heap.size _ k1
  refine va_calli (va_runV (As := [.int (xs (i + 1))]) (rest := []) ⟨hx, hb, hml, hown, hts2⟩ (c_X11_rests l g Ty G H.size s.heap.size (xs (i + 1)) k1) (cwV 1 hts2 (gwV mw_1131 mw_1132 mw_1133 mw_76 mw_1134) rfl rfl rfl hv_X11_rests ⟨Nat.le_of_ble_eq_true rfl, Nat.le_of_ble_eq_true rfl⟩) ⟨PcT_blind, hg_recv hK o_x rfl, PcT_pre hK hH⟩ rfl rfl hl.1 rfl (lv_room (Nat.le_of_ble_eq_true rfl)) dL_law_1286 ⟨by show _ ≤ 1157971; omega, by show _ ≤ 5622190; omega⟩) hS (fun q _ h => af_in hN hS.1 q h) (fun q h => af_in hN hS.1 q h) (fun r_1 u_1 t_1 H_1 locs_1 ht_1 hv_1 hp_1 hB_1 hz_1 hk_1 hS_1 => ?_)
  obtain ⟨Ty_1, eT_⟩ : ∃ z, z = u_1.1 := ⟨_, rfl⟩
  obtain ⟨G_1, eG_⟩ : ∃ z, z = u_1.2 := ⟨_, rfl⟩
  have hH_1 : HT g Ty_1 G_1 H_1 := by rw [← ht_1, eT_, eG_]; exact hB_1
  have eT : Ty_1 = Ty := by rw [eT_, hp_1]
  have eG : G_1 = G := by rw [eG_, hp_1]
  have k1_1 := k1
  have k2_1 := k2
  have k3_1 := k3
  have hN_1 := hN
  rw [← eT] at k1_1 k2_1 k3_1 hN_1
  have hI_1 : OI g B G_1 := hI.ce (CE.of eG) h51
  have hE_1 : EQ5 g G_1 := by rw [eG]; exact hE
  refine lv_pop hx hb dL_law_1289 rfl ?_
  refine lv_aload_n hx hb dL_law_1290 rfl (lv_at hl 2 rfl) ?_
  refine lw_arg (k := 1) hx hb hXs hbl hS_1 hl hi hL (by decide) (by decide +kernel) dL_law_1291 dL_law_1292 dL_law_1294 dL_law_1295 dL_law_1296 ?_
  obtain ⟨_, ⟨rfl, tm_, mk_⟩, o_m⟩ := hH_1 _ _ k2_1
  refine va_calli (va_runV (As := [.int (xs (i + 1))]) (rest := []) ⟨hx, hb, hml, hown, hts2⟩ (c_X12_rests l g Ty_1 G_1 _ (s.heap.size + 40) (xs (i + 1)) k2_1 B hI_1 (by omega) hLD) (cwV 1 hts2 (gwV mw_1835 mw_1836 mw_1837 mw_88 mw_1838) rfl rfl rfl hv_X12_rests ⟨Nat.le_of_ble_eq_true rfl, Nat.le_of_ble_eq_true rfl⟩) ⟨PcT_blind, hg_recv hK o_m rfl, PcT_pre hK hH_1⟩ rfl rfl hl.1 rfl (lv_room (Nat.le_of_ble_eq_true rfl)) dL_law_1297 ⟨by show _ ≤ 1157971; omega, by show _ ≤ 5622190; omega⟩) hS_1 (fun q _ h => af_in hN_1 hS_1.1 q h) (fun q h => af_in hN_1 hS_1.1 q h) (fun r_2 u_2 t_2 H_2 locs_2 ht_2 hv_2 hp_2 hB_2 hz_2 hk_2 hS_2 => ?_)
  have hH_2 : HT g Ty_1 u_2.2 H_2 := by rw [← ht_2, ← hp_2.1]; exact hB_2
  have hF_2 := hp_2.2.1
  have hI_2 : OI g (B + 3000) u_2.2 := OI.up hp_2.2.2 (by omega)
  have hE_2 : EQ5 g u_2.2 := hE_1.r hF_2 (by decide) trivial
  refine lv_pop hx hb dL_law_1300 rfl ?_
  refine lv_goto (tgt := 1481) hx hb dL_law_1301 (by decide) ?_
  exact W.widen (k := cells + 160) (n := slots + 3160) (by omega) (by omega) (kk Ty_1 u_2.2 H_2 locs_2 _ ⟨hH_2, hI_2, hE_2, k1_1, k2_1, k3_1, hN_1⟩ hS_2 hl)
set_option maxHeartbeats 4000000 in
set_option maxRecDepth 100000 in
theorem lc_38 {B : Int} {Ty : TyM} {G : Gh} (hX : LcX p l s m meth c b L xs g i B cells slots) (hl : lv_has ls 8 (lvL s b i)) (hW : LW g s.heap.size B Ty G H) (hS : va_S (fun q => s.heap.size ≤ q) s.heap H locs) (kk : LcT p l e s m below meth c b g i B cells slots 1481 Q) : W p l e room_1 s m #[Value.ref b] below meth c H locs cells slots Q (F0 m 1304 ls []) := by
  obtain ⟨hst, hL, C0, E0, hi, hBd, hc, hs⟩ := hX
  obtain ⟨hx, hb, hr, hml, hown, hts, hXs, hbl, hlocks, hgv⟩ := id C0
  obtain ⟨hK, hO, hXO, hLD, h51⟩ := id E0
  have hown : s.vm.findClass "MountPeersLaw" = some m.cls := hown
  have hts2 := lw_g2 hts
  obtain ⟨hH, hI, hE, k1, k2, k3, hN⟩ := id hW
  refine lv_aload_n hx hb dL_law_1304 rfl (lv_at hl 3 rfl) ?_
  refine lw_arg (k := 1) hx hb hXs hbl hS hl hi hL (by decide) (by decide +kernel) dL_law_1305 dL_law_1306 dL_law_1308 dL_law_1309 dL_law_1310 ?_
  refine lw_arg (k := 2) hx hb hXs hbl hS hl hi hL (by decide) (by decide +kernel) dL_law_1311 dL_law_1312 dL_law_1314 dL_law_1315 dL_law_1316 ?_
  obtain ⟨_, ⟨dr_, rfl, -⟩, o_x⟩ := hH s.heap.size _ k1
  refine va_calli (va_runV (As := [.int (xs (i + 1)), .int (xs (i + 2))]) (rest := []) ⟨hx, hb, hml, hown, hts2⟩ (c_X11_law l g Ty G H.size s.heap.size (xs (i + 1)) (xs (i + 2)) k1) (cwV 2 hts2 (gwV mw_1141 mw_1142 mw_1143 mw_76 mw_1144) rfl rfl rfl hv_X11_law ⟨Nat.le_of_ble_eq_true rfl, Nat.le_of_ble_eq_true rfl⟩) ⟨PcO_blind, hg_recv hK o_x rfl, PcO_pre hK hH (hO.narrow (af_in hN (Nat.le_refl _))) (vaS_af hS)⟩ rfl rfl hl.1 rfl (lv_room (Nat.le_of_ble_eq_true rfl)) dL_law_1317 ⟨by show _ ≤ 1157971; omega, by show _ ≤ 5622190; omega⟩) hS (fun q _ h => af_in hN hS.1 q h) (fun q h => af_in hN hS.1 q h) (fun r_1 u_1 t_1 H_1 locs_1 ht_1 hv_1 hp_1 hB_1 hz_1 hk_1 hS_1 => ?_)
  obtain ⟨Ty_1, eT_⟩ : ∃ z, z = u_1.1 := ⟨_, rfl⟩
  obtain ⟨G_1, eG_⟩ : ∃ z, z = u_1.2 := ⟨_, rfl⟩
  have hH_1 : HT g Ty_1 G_1 H_1 := by rw [← ht_1, eT_, eG_]; exact hB_1
  have eT : Ty_1 = Ty := by rw [eT_]; exact hp_1.1
  have hrel := hp_1.2
  rw [← eG_] at hrel
  have k1_1 := k1
  have k2_1 := k2
  have k3_1 := k3
  have hN_1 := hN
  rw [← eT] at k1_1 k2_1 k3_1 hN_1
  have hI_1 : OI g B G_1 := hI.ce (CE.tx hrel) h51
  refine lv_pop hx hb dL_law_1320 rfl ?_
  refine lv_aload_n hx hb dL_law_1321 rfl (lv_at hl 2 rfl) ?_
  refine lw_arg (k := 1) hx hb hXs hbl hS_1 hl hi hL (by decide) (by decide +kernel) dL_law_1322 dL_law_1323 dL_law_1325 dL_law_1326 dL_law_1327 ?_
  refine lw_arg (k := 2) hx hb hXs hbl hS_1 hl hi hL (by decide) (by decide +kernel) dL_law_1328 dL_law_1329 dL_law_1331 dL_law_1332 dL_law_1333 ?_
  obtain ⟨_, ⟨rfl, tm_, mk_⟩, o_m⟩ := hH_1 _ _ k2_1
  refine va_calli (va_runV (As := [.int (xs (i + 1)), .int (xs (i + 2))]) (rest := []) ⟨hx, hb, hml, hown, hts2⟩ (c_X12_law l g Ty_1 G_1 _ (s.heap.size + 40) (xs (i + 1)) (xs (i + 2)) k2_1 B hI_1 (by omega) hLD) (cwV 2 hts2 (gwV mw_1845 mw_1846 mw_1847 mw_88 mw_1848) rfl rfl rfl hv_X12_law ⟨Nat.le_of_ble_eq_true rfl, Nat.le_of_ble_eq_true rfl⟩) ⟨PcT_blind, hg_recv hK o_m rfl, PcT_pre hK hH_1⟩ rfl rfl hl.1 rfl (lv_room (Nat.le_of_ble_eq_true rfl)) dL_law_1334 ⟨by show _ ≤ 1157971; omega, by show _ ≤ 5622190; omega⟩) hS_1 (fun q _ h => af_in hN_1 hS_1.1 q h) (fun q h => af_in hN_1 hS_1.1 q h) (fun r_2 u_2 t_2 H_2 locs_2 ht_2 hv_2 hp_2 hB_2 hz_2 hk_2 hS_2 => ?_)
  have hH_2 : HT g Ty_1 u_2.2 H_2 := by rw [← ht_2, ← hp_2.1]; exact hB_2
  have hF_2 := hp_2.2.1
  have hI_2 : OI g (B + 3000) u_2.2 := OI.up hp_2.2.2.1 (by omega)
  have hm_2 := hp_2.2.2.2
  have hE_2 : EQ5 g u_2.2 := hE.tx hrel hF_2 hm_2 (by decide) ⟨hLD 141 (by decide) 115 (by decide) (by decide), hLD 141 (by decide) 112 (by decide) (by decide), trivial⟩ h51
  refine lv_pop hx hb dL_law_1337 rfl ?_
  refine lv_goto (tgt := 1481) hx hb dL_law_1338 (by decide) ?_
  exact W.widen (k := cells + 160) (n := slots + 3160) (by omega) (by omega) (kk Ty_1 u_2.2 H_2 locs_2 _ ⟨hH_2, hI_2, hE_2, k1_1, k2_1, k3_1, hN_1⟩ hS_2 hl)
set_option maxHeartbeats 4000000 in
set_option maxRecDepth 100000 in
theorem lc_39 {B : Int} {Ty : TyM} {G : Gh} (hX : LcX p l s m meth c b L xs g i B cells slots) (hl : lv_has ls 8 (lvL s b i)) (hW : LW g s.heap.size B Ty G H) (hS : va_S (fun q => s.heap.size ≤ q) s.heap H locs) (kk : LcT p l e s m below meth c b g i B cells slots 1481 Q) : W p l e room_1 s m #[Value.ref b] below meth c H locs cells slots Q (F0 m 1341 ls []) := by
  obtain ⟨hst, hL, C0, E0, hi, hBd, hc, hs⟩ := hX
  obtain ⟨hx, hb, hr, hml, hown, hts, hXs, hbl, hlocks, hgv⟩ := id C0
  obtain ⟨hK, hO, hXO, hLD, h51⟩ := id E0
  have hown : s.vm.findClass "MountPeersLaw" = some m.cls := hown
  have hts2 := lw_g2 hts
  obtain ⟨hH, hI, hE, k1, k2, k3, hN⟩ := id hW
  refine lv_aload_n hx hb dL_law_1341 rfl (lv_at hl 3 rfl) ?_
  refine lw_arg (k := 1) hx hb hXs hbl hS hl hi hL (by decide) (by decide +kernel) dL_law_1342 dL_law_1343 dL_law_1345 dL_law_1346 dL_law_1347 ?_
  refine lw_arg (k := 2) hx hb hXs hbl hS hl hi hL (by decide) (by decide +kernel) dL_law_1348 dL_law_1349 dL_law_1351 dL_law_1352 dL_law_1353 ?_
  obtain ⟨_, ⟨dr_, rfl, -⟩, o_x⟩ := hH s.heap.size _ k1
  refine va_calli (va_runV (As := [.int (xs (i + 1)), .int (xs (i + 2))]) (rest := []) ⟨hx, hb, hml, hown, hts2⟩ (c_X11_years l g Ty G H.size s.heap.size (xs (i + 1)) (xs (i + 2)) k1) (cwV 2 hts2 (gwV mw_1150 mw_1151 mw_1152 mw_76 mw_1153) rfl rfl rfl hv_X11_years ⟨Nat.le_of_ble_eq_true rfl, Nat.le_of_ble_eq_true rfl⟩) ⟨PcT_blind, hg_recv hK o_x rfl, PcT_pre hK hH⟩ rfl rfl hl.1 rfl (lv_room (Nat.le_of_ble_eq_true rfl)) dL_law_1354 ⟨by show _ ≤ 1157971; omega, by show _ ≤ 5622190; omega⟩) hS (fun q _ h => af_in hN hS.1 q h) (fun q h => af_in hN hS.1 q h) (fun r_1 u_1 t_1 H_1 locs_1 ht_1 hv_1 hp_1 hB_1 hz_1 hk_1 hS_1 => ?_)
  obtain ⟨Ty_1, eT_⟩ : ∃ z, z = u_1.1 := ⟨_, rfl⟩
  obtain ⟨G_1, eG_⟩ : ∃ z, z = u_1.2 := ⟨_, rfl⟩
  have hH_1 : HT g Ty_1 G_1 H_1 := by rw [← ht_1, eT_, eG_]; exact hB_1
  have hX_1 : Ext H.size Ty Ty_1 := by rw [eT_]; exact hp_1.1
  have eG : G_1 = G := by rw [eG_]; exact hp_1.2
  have k1_1 := hX_1.1 _ _ k1
  have k2_1 := hX_1.1 _ _ k2
  have k3_1 := hX_1.1 _ _ k3
  have hN_1 := ext_in hX_1 hN hS.1
  have hI_1 : OI g B G_1 := hI.ce (CE.of eG) h51
  have hE_1 : EQ5 g G_1 := by rw [eG]; exact hE
  refine lv_pop hx hb dL_law_1357 rfl ?_
  refine lv_aload_n hx hb dL_law_1358 rfl (lv_at hl 2 rfl) ?_
  refine lw_arg (k := 1) hx hb hXs hbl hS_1 hl hi hL (by decide) (by decide +kernel) dL_law_1359 dL_law_1360 dL_law_1362 dL_law_1363 dL_law_1364 ?_
  refine lw_arg (k := 2) hx hb hXs hbl hS_1 hl hi hL (by decide) (by decide +kernel) dL_law_1365 dL_law_1366 dL_law_1368 dL_law_1369 dL_law_1370 ?_
  obtain ⟨_, ⟨rfl, tm_, mk_⟩, o_m⟩ := hH_1 _ _ k2_1
  refine va_calli (va_runV (As := [.int (xs (i + 1)), .int (xs (i + 2))]) (rest := []) ⟨hx, hb, hml, hown, hts2⟩ (c_X12_years l g Ty_1 G_1 _ (s.heap.size + 40) (xs (i + 1)) (xs (i + 2)) k2_1 B hI_1 (by omega) hLD) (cwV 2 hts2 (gwV mw_1853 mw_1854 mw_1855 mw_88 mw_1856) rfl rfl rfl hv_X12_years ⟨Nat.le_of_ble_eq_true rfl, Nat.le_of_ble_eq_true rfl⟩) ⟨PcT_blind, hg_recv hK o_m rfl, PcT_pre hK hH_1⟩ rfl rfl hl.1 rfl (lv_room (Nat.le_of_ble_eq_true rfl)) dL_law_1371 ⟨by show _ ≤ 1157971; omega, by show _ ≤ 5622190; omega⟩) hS_1 (fun q _ h => af_in hN_1 hS_1.1 q h) (fun q h => af_in hN_1 hS_1.1 q h) (fun r_2 u_2 t_2 H_2 locs_2 ht_2 hv_2 hp_2 hB_2 hz_2 hk_2 hS_2 => ?_)
  have hH_2 : HT g Ty_1 u_2.2 H_2 := by rw [← ht_2, ← hp_2.1]; exact hB_2
  have hF_2 := hp_2.2.1
  have hI_2 : OI g (B + 3000) u_2.2 := OI.up hp_2.2.2 (by omega)
  have hE_2 : EQ5 g u_2.2 := hE_1.r hF_2 (by decide) ⟨hLD 141 (by decide) 124 (by decide) (by decide), hLD 141 (by decide) 115 (by decide) (by decide), hLD 141 (by decide) 125 (by decide) (by decide), hLD 141 (by decide) 126 (by decide) (by decide), trivial⟩
  refine lv_pop hx hb dL_law_1374 rfl ?_
  refine lv_goto (tgt := 1481) hx hb dL_law_1375 (by decide) ?_
  exact W.widen (k := cells + 160) (n := slots + 3160) (by omega) (by omega) (kk Ty_1 u_2.2 H_2 locs_2 _ ⟨hH_2, hI_2, hE_2, k1_1, k2_1, k3_1, hN_1⟩ hS_2 hl)
set_option maxHeartbeats 4000000 in
set_option maxRecDepth 100000 in
theorem lc_40 {B : Int} {Ty : TyM} {G : Gh} (hX : LcX p l s m meth c b L xs g i B cells slots) (hl : lv_has ls 8 (lvL s b i)) (hW : LW g s.heap.size B Ty G H) (hS : va_S (fun q => s.heap.size ≤ q) s.heap H locs) (kk : LcT p l e s m below meth c b g i B cells slots 1481 Q) : W p l e room_1 s m #[Value.ref b] below meth c H locs cells slots Q (F0 m 1378 ls []) := by
  obtain ⟨hst, hL, C0, E0, hi, hBd, hc, hs⟩ := hX
  obtain ⟨hx, hb, hr, hml, hown, hts, hXs, hbl, hlocks, hgv⟩ := id C0
  obtain ⟨hK, hO, hXO, hLD, h51⟩ := id E0
  have hown : s.vm.findClass "MountPeersLaw" = some m.cls := hown
  have hts2 := lw_g2 hts
  obtain ⟨hH, hI, hE, k1, k2, k3, hN⟩ := id hW
  refine lv_aload_n hx hb dL_law_1378 rfl (lv_at hl 3 rfl) ?_
  refine lw_arg (k := 1) hx hb hXs hbl hS hl hi hL (by decide) (by decide +kernel) dL_law_1379 dL_law_1380 dL_law_1382 dL_law_1383 dL_law_1384 ?_
  obtain ⟨_, ⟨dr_, rfl, -⟩, o_x⟩ := hH s.heap.size _ k1
  refine va_calli (va_runV (As := [.int (xs (i + 1))]) (rest := []) ⟨hx, hb, hml, hown, hts2⟩ (c_X11_keep l g Ty G H.size s.heap.size (xs (i + 1)) k1) (cwV 1 hts2 (gwV mw_1163 mw_1164 mw_1165 mw_76 mw_1166) rfl rfl rfl hv_X11_keep ⟨Nat.le_of_ble_eq_true rfl, Nat.le_of_ble_eq_true rfl⟩) ⟨PcT_blind, hg_recv hK o_x rfl, PcT_pre hK hH⟩ rfl rfl hl.1 rfl (lv_room (Nat.le_of_ble_eq_true rfl)) dL_law_1385 ⟨by show _ ≤ 1157971; omega, by show _ ≤ 5622190; omega⟩) hS (fun q _ h => af_in hN hS.1 q h) (fun q h => af_in hN hS.1 q h) (fun r_1 u_1 t_1 H_1 locs_1 ht_1 hv_1 hp_1 hB_1 hz_1 hk_1 hS_1 => ?_)
  obtain ⟨Ty_1, eT_⟩ : ∃ z, z = u_1.1 := ⟨_, rfl⟩
  obtain ⟨G_1, eG_⟩ : ∃ z, z = u_1.2 := ⟨_, rfl⟩
  have hH_1 : HT g Ty_1 G_1 H_1 := by rw [← ht_1, eT_, eG_]; exact hB_1
  have hp_1 := hp_1.2
  have hX_1 : Ext H.size Ty Ty_1 := by rw [eT_]; exact hp_1.1
  have hrel := hp_1.2
  rw [← eG_] at hrel
  have k1_1 := hX_1.1 _ _ k1
  have k2_1 := hX_1.1 _ _ k2
  have k3_1 := hX_1.1 _ _ k3
  have hN_1 := ext_in hX_1 hN hS.1
  have hI_1 : OI g B G_1 := hI.ce (CE.keep hrel) h51
  refine lv_pop hx hb dL_law_1388 rfl ?_
  refine lv_aload_n hx hb dL_law_1389 rfl (lv_at hl 2 rfl) ?_
  refine lw_arg (k := 1) hx hb hXs hbl hS_1 hl hi hL (by decide) (by decide +kernel) dL_law_1390 dL_law_1391 dL_law_1393 dL_law_1394 dL_law_1395 ?_
  obtain ⟨_, ⟨rfl, tm_, mk_⟩, o_m⟩ := hH_1 _ _ k2_1
  refine va_calli (va_runV (As := [.int (xs (i + 1))]) (rest := []) ⟨hx, hb, hml, hown, hts2⟩ (c_X12_keep l g Ty_1 G_1 _ (s.heap.size + 40) (xs (i + 1)) k2_1 B hI_1 (by omega) hLD) (cwV 1 hts2 (gwV mw_1862 mw_1863 mw_1864 mw_88 mw_1865) rfl rfl rfl hv_X12_keep ⟨Nat.le_of_ble_eq_true rfl, Nat.le_of_ble_eq_true rfl⟩) ⟨PcT_blind, hg_recv hK o_m rfl, PcT_pre hK hH_1⟩ rfl rfl hl.1 rfl (lv_room (Nat.le_of_ble_eq_true rfl)) dL_law_1396 ⟨by show _ ≤ 1157971; omega, by show _ ≤ 5622190; omega⟩) hS_1 (fun q _ h => af_in hN_1 hS_1.1 q h) (fun q h => af_in hN_1 hS_1.1 q h) (fun r_2 u_2 t_2 H_2 locs_2 ht_2 hv_2 hp_2 hB_2 hz_2 hk_2 hS_2 => ?_)
  have hp_2 := hp_2.2
  have hH_2 : HT g Ty_1 u_2.2 H_2 := by rw [← ht_2, ← hp_2.1]; exact hB_2
  have hF_2 := hp_2.2.1
  have hI_2 : OI g (B + 3000) u_2.2 := OI.up hp_2.2.2.1 (by omega)
  have hm_2 := hp_2.2.2.2
  obtain ⟨hr_2, hE_2⟩ := EQ5.keep hE hrel hF_2 hm_2
  refine lv_pop hx hb dL_law_1399 rfl ?_
  refine lv_goto (tgt := 1481) hx hb dL_law_1400 (by decide) ?_
  exact W.widen (k := cells + 160) (n := slots + 3160) (by omega) (by omega) (kk Ty_1 u_2.2 H_2 locs_2 _ ⟨hH_2, hI_2, hE_2, k1_1, k2_1, k3_1, hN_1⟩ hS_2 hl)
set_option maxHeartbeats 4000000 in
set_option maxRecDepth 100000 in
theorem lc_41 {B : Int} {Ty : TyM} {G : Gh} (hX : LcX p l s m meth c b L xs g i B cells slots) (hl : lv_has ls 8 (lvL s b i)) (hW : LW g s.heap.size B Ty G H) (hS : va_S (fun q => s.heap.size ≤ q) s.heap H locs) (kk : LcT p l e s m below meth c b g i B cells slots 1481 Q) : W p l e room_1 s m #[Value.ref b] below meth c H locs cells slots Q (F0 m 1403 ls []) := by
  obtain ⟨hst, hL, C0, E0, hi, hBd, hc, hs⟩ := hX
  obtain ⟨hx, hb, hr, hml, hown, hts, hXs, hbl, hlocks, hgv⟩ := id C0
  obtain ⟨hK, hO, hXO, hLD, h51⟩ := id E0
  have hown : s.vm.findClass "MountPeersLaw" = some m.cls := hown
  have hts2 := lw_g2 hts
  obtain ⟨hH, hI, hE, k1, k2, k3, hN⟩ := id hW
  refine lv_aload_n hx hb dL_law_1403 rfl (lv_at hl 3 rfl) ?_
  refine lw_arg (k := 1) hx hb hXs hbl hS hl hi hL (by decide) (by decide +kernel) dL_law_1404 dL_law_1405 dL_law_1407 dL_law_1408 dL_law_1409 ?_
  obtain ⟨_, ⟨dr_, rfl, -⟩, o_x⟩ := hH s.heap.size _ k1
  refine va_calli (va_runV (As := [.int (xs (i + 1))]) (rest := []) ⟨hx, hb, hml, hown, hts2⟩ (c_X11_again l g Ty G H.size s.heap.size (xs (i + 1)) k1) (cwV 1 hts2 (gwV mw_1167 mw_1168 mw_1169 mw_76 mw_1170) rfl rfl rfl hv_X11_again ⟨Nat.le_of_ble_eq_true rfl, Nat.le_of_ble_eq_true rfl⟩) ⟨PcT_blind, hg_recv hK o_x rfl, PcT_pre hK hH⟩ rfl rfl hl.1 rfl (lv_room (Nat.le_of_ble_eq_true rfl)) dL_law_1410 ⟨by show _ ≤ 1157971; omega, by show _ ≤ 5622190; omega⟩) hS (fun q _ h => af_in hN hS.1 q h) (fun q h => af_in hN hS.1 q h) (fun r_1 u_1 t_1 H_1 locs_1 ht_1 hv_1 hp_1 hB_1 hz_1 hk_1 hS_1 => ?_)
  obtain ⟨Ty_1, eT_⟩ : ∃ z, z = u_1.1 := ⟨_, rfl⟩
  obtain ⟨G_1, eG_⟩ : ∃ z, z = u_1.2 := ⟨_, rfl⟩
  have hH_1 : HT g Ty_1 G_1 H_1 := by rw [← ht_1, eT_, eG_]; exact hB_1
  have hr_1 := hp_1.1
  have eT : Ty_1 = Ty := by rw [eT_, hp_1.2]
  have eG : G_1 = G := by rw [eG_, hp_1.2]
  have k1_1 := k1
  have k2_1 := k2
  have k3_1 := k3
  have hN_1 := hN
  rw [← eT] at k1_1 k2_1 k3_1 hN_1
  have hI_1 : OI g B G_1 := hI.ce (CE.of eG) h51
  have hE_1 : EQ5 g G_1 := by rw [eG]; exact hE
  refine lv_aload_n hx hb dL_law_1413 rfl (lv_at hl 2 rfl) ?_
  refine lw_arg (k := 1) hx hb hXs hbl hS_1 hl hi hL (by decide) (by decide +kernel) dL_law_1414 dL_law_1415 dL_law_1417 dL_law_1418 dL_law_1419 ?_
  obtain ⟨_, ⟨rfl, tm_, mk_⟩, o_m⟩ := hH_1 _ _ k2_1
  refine va_calli (va_runV (As := [.int (xs (i + 1))]) (rest := [.int r_1]) ⟨hx, hb, hml, hown, hts2⟩ (c_X12_again l g Ty_1 G_1 _ (s.heap.size + 40) (xs (i + 1)) k2_1 B hI_1 (by omega) hLD) (cwV 1 hts2 (gwV mw_1866 mw_1867 mw_1868 mw_88 mw_1869) rfl rfl rfl hv_X12_again ⟨Nat.le_of_ble_eq_true rfl, Nat.le_of_ble_eq_true rfl⟩) ⟨PcT_blind, hg_recv hK o_m rfl, PcT_pre hK hH_1⟩ rfl rfl hl.1 rfl (lv_room (Nat.le_of_ble_eq_true rfl)) dL_law_1420 ⟨by show _ ≤ 1157971; omega, by show _ ≤ 5622190; omega⟩) hS_1 (fun q _ h => af_in hN_1 hS_1.1 q h) (fun q h => af_in hN_1 hS_1.1 q h) (fun r_2 u_2 t_2 H_2 locs_2 ht_2 hv_2 hp_2 hB_2 hz_2 hk_2 hS_2 => ?_)
  have hp_2 := hp_2.2
  have hH_2 : HT g Ty_1 u_2.2 H_2 := by rw [← ht_2, ← hp_2.1]; exact hB_2
  have hF_2 := hp_2.2.1
  have hI_2 : OI g (B + 3000) u_2.2 := OI.up hp_2.2.2.1 (by omega)
  have hm_2 := hp_2.2.2.2
  obtain ⟨hr_2, hE_2⟩ := EQ5.again hLD hE_1 (by rw [eG]; exact hr_1) hF_2 hm_2.1
  refine lv_icmp_eq (tgt := 1481) hx hb dL_law_1423 (by decide) (fun _ => ?_) (fun q_ => absurd hr_2 q_)
  exact W.widen (k := cells + 160) (n := slots + 3160) (by omega) (by omega) (kk Ty_1 u_2.2 H_2 locs_2 _ ⟨hH_2, hI_2, hE_2, k1_1, k2_1, k3_1, hN_1⟩ hS_2 hl)
set_option maxHeartbeats 4000000 in
set_option maxRecDepth 100000 in
theorem lc_42 {B : Int} {Ty : TyM} {G : Gh} (hX : LcX p l s m meth c b L xs g i B cells slots) (hl : lv_has ls 8 (lvL s b i)) (hW : LW g s.heap.size B Ty G H) (hS : va_S (fun q => s.heap.size ≤ q) s.heap H locs) (kk : LcT p l e s m below meth c b g i B cells slots 1481 Q) : W p l e room_1 s m #[Value.ref b] below meth c H locs cells slots Q (F0 m 1428 ls []) := by
  obtain ⟨hst, hL, C0, E0, hi, hBd, hc, hs⟩ := hX
  obtain ⟨hx, hb, hr, hml, hown, hts, hXs, hbl, hlocks, hgv⟩ := id C0
  obtain ⟨hK, hO, hXO, hLD, h51⟩ := id E0
  have hown : s.vm.findClass "MountPeersLaw" = some m.cls := hown
  have hts2 := lw_g2 hts
  obtain ⟨hH, hI, hE, k1, k2, k3, hN⟩ := id hW
  refine lv_aload_n hx hb dL_law_1428 rfl (lv_at hl 3 rfl) ?_
  refine lw_arg (k := 1) hx hb hXs hbl hS hl hi hL (by decide) (by decide +kernel) dL_law_1429 dL_law_1430 dL_law_1432 dL_law_1433 dL_law_1434 ?_
  obtain ⟨_, ⟨dr_, rfl, -⟩, o_x⟩ := hH s.heap.size _ k1
  refine vp_callSi (W.runV (As := [.int (xs (i + 1))]) (rest := []) ⟨hx, hb, hml, hown, hts2⟩ (c_X11_count l g Ty G s.heap.size (xs (i + 1)) k1) (cwV 1 hts2 (gwV mw_1171 mw_1172 mw_1173 mw_76 mw_1174) rfl rfl rfl hv_X11_count ⟨Nat.le_of_ble_eq_true rfl, Nat.le_of_ble_eq_true rfl⟩) ⟨PcH_blind, hg_recv hK o_x rfl, PcH_pre hK hH⟩ rfl rfl hl.1 rfl (lv_room (Nat.le_of_ble_eq_true rfl)) dL_law_1435 ⟨by show _ ≤ 1157971; omega, by show _ ≤ 5622190; omega⟩) (fun r_1 hp_1 => ?_)
  have hS_1 := hS
  have hH_1 := hH
  obtain ⟨Ty_1, eT⟩ : ∃ z, z = Ty := ⟨_, rfl⟩
  obtain ⟨G_1, eG⟩ : ∃ z, z = G := ⟨_, rfl⟩
  rw [← eT, ← eG] at hH_1
  have k1_1 := k1
  have k2_1 := k2
  have k3_1 := k3
  have hN_1 := hN
  rw [← eT] at k1_1 k2_1 k3_1 hN_1
  have hI_1 : OI g B G_1 := hI.ce (CE.of eG) h51
  have hE_1 : EQ5 g G_1 := by rw [eG]; exact hE
  refine lv_pop hx hb dL_law_1438 rfl ?_
  refine lv_aload_n hx hb dL_law_1439 rfl (lv_at hl 2 rfl) ?_
  refine lw_arg (k := 1) hx hb hXs hbl hS_1 hl hi hL (by decide) (by decide +kernel) dL_law_1440 dL_law_1441 dL_law_1443 dL_law_1444 dL_law_1445 ?_
  obtain ⟨_, ⟨rfl, tm_, mk_⟩, o_m⟩ := hH_1 _ _ k2_1
  refine va_calli (va_runV (As := [.int (xs (i + 1))]) (rest := []) ⟨hx, hb, hml, hown, hts2⟩ (c_X12_count l g Ty_1 G_1 _ (s.heap.size + 40) (xs (i + 1)) k2_1 B hI_1 (by omega) hLD) (cwV 1 hts2 (gwV mw_1870 mw_1871 mw_1872 mw_88 mw_1873) rfl rfl rfl hv_X12_count ⟨Nat.le_of_ble_eq_true rfl, Nat.le_of_ble_eq_true rfl⟩) ⟨PcT_blind, hg_recv hK o_m rfl, PcT_pre hK hH_1⟩ rfl rfl hl.1 rfl (lv_room (Nat.le_of_ble_eq_true rfl)) dL_law_1446 ⟨by show _ ≤ 1157971; omega, by show _ ≤ 5622190; omega⟩) hS_1 (fun q _ h => af_in hN_1 hS_1.1 q h) (fun q h => af_in hN_1 hS_1.1 q h) (fun r_2 u_2 t_2 H_2 locs_2 ht_2 hv_2 hp_2 hB_2 hz_2 hk_2 hS_2 => ?_)
  have hH_2 : HT g Ty_1 u_2.2 H_2 := by rw [← ht_2, ← hp_2.1]; exact hB_2
  have hF_2 := hp_2.2.1
  have hI_2 : OI g (B + 3000) u_2.2 := OI.up hp_2.2.2 (by omega)
  have hE_2 : EQ5 g u_2.2 := hE_1.r hF_2 (by decide) trivial
  refine lv_pop hx hb dL_law_1449 rfl ?_
  refine lv_goto (tgt := 1481) hx hb dL_law_1450 (by decide) ?_
  exact W.widen (k := cells + 160) (n := slots + 3160) (by omega) (by omega) (kk Ty_1 u_2.2 H_2 locs_2 _ ⟨hH_2, hI_2, hE_2, k1_1, k2_1, k3_1, hN_1⟩ hS_2 hl)
set_option maxHeartbeats 4000000 in
set_option maxRecDepth 100000 in
theorem lc_43 {B : Int} {Ty : TyM} {G : Gh} (hX : LcX p l s m meth c b L xs g i B cells slots) (hl : lv_has ls 8 (lvL s b i)) (hW : LW g s.heap.size B Ty G H) (hS : va_S (fun q => s.heap.size ≤ q) s.heap H locs) (kk : LcT p l e s m below meth c b g i B cells slots 1481 Q) : W p l e room_1 s m #[Value.ref b] below meth c H locs cells slots Q (F0 m 1453 ls []) := by
  obtain ⟨hst, hL, C0, E0, hi, hBd, hc, hs⟩ := hX
  obtain ⟨hx, hb, hr, hml, hown, hts, hXs, hbl, hlocks, hgv⟩ := id C0
  obtain ⟨hK, hO, hXO, hLD, h51⟩ := id E0
  have hown : s.vm.findClass "MountPeersLaw" = some m.cls := hown
  have hts2 := lw_g2 hts
  obtain ⟨hH, hI, hE, k1, k2, k3, hN⟩ := id hW
  refine lv_aload_n hx hb dL_law_1453 rfl (lv_at hl 3 rfl) ?_
  refine lw_arg (k := 1) hx hb hXs hbl hS hl hi hL (by decide) (by decide +kernel) dL_law_1454 dL_law_1455 dL_law_1457 dL_law_1458 dL_law_1459 ?_
  refine lv_aload_n hx hb dL_law_1460 rfl (lv_at hl 1 rfl) ?_
  refine va_calli (vx_noX (vx_runSX (As := [.ref s.heap.size, .int (xs (i + 1)), .ref (s.heap.size + 63)]) (rest := []) ⟨hx, hb, hml, hown, hts2⟩ (c_L_row l hst g Ty G H.size s.heap.size (s.heap.size + 63) (xs (i + 1)) k1 k3) (vx_cwSW 3 hts2 (gwSW mw_1266 mw_1267 mw_75 mwL_row) rfl rfl rfl ⟨by decide +kernel, by decide +kernel, by decide +kernel⟩ ⟨Nat.le_of_ble_eq_true rfl, Nat.le_of_ble_eq_true rfl⟩) ⟨PcX_blind, PcX_pre hK hH (hXO.narrow (af_in hN (Nat.le_refl _))) (vaS_af hS)⟩ rfl rfl hl.1 rfl (lv_room (Nat.le_of_ble_eq_true rfl)) dL_law_1461 ⟨by show _ ≤ 1157971; omega, by show _ ≤ 5622190; omega⟩)) hS (fun q _ h => af_in hN hS.1 q h) (fun q h => af_in hN hS.1 q h) (fun r_1 u_1 t_1 H_1 locs_1 ht_1 hv_1 hp_1 hB_1 hz_1 hk_1 hS_1 => ?_)
  obtain ⟨Ty_1, eT_⟩ : ∃ z, z = u_1.1 := ⟨_, rfl⟩
  obtain ⟨G_1, eG_⟩ : ∃ z, z = u_1.2 := ⟨_, rfl⟩
  have hH_1 : HT g Ty_1 G_1 H_1 := by rw [← ht_1, eT_, eG_]; exact hB_1
  have eT : Ty_1 = Ty := by rw [eT_, hp_1]
  have eG : G_1 = G := by rw [eG_, hp_1]
  have k1_1 := k1
  have k2_1 := k2
  have k3_1 := k3
  have hN_1 := hN
  rw [← eT] at k1_1 k2_1 k3_1 hN_1
  have hI_1 : OI g B G_1 := hI.ce (CE.of eG) h51
  have hE_1 : EQ5 g G_1 := by rw [eG]; exact hE
  refine lv_istore (lv' := (5, .int r_1) :: lvL s b i) hx hb dL_law_1464 hl (by decide) rfl (fun ls hl => ?_)
  have hl : lv_has ls 8 (lvL s b i) := lv_sub hl [1, 2, 3, 4, 5] rfl
  refine lv_aload_n hx hb dL_law_1466 rfl (lv_at hl 2 rfl) ?_
  refine lw_arg (k := 1) hx hb hXs hbl hS_1 hl hi hL (by decide) (by decide +kernel) dL_law_1467 dL_law_1468 dL_law_1470 dL_law_1471 dL_law_1472 ?_
  obtain ⟨_, ⟨rfl, tm_, mk_⟩, o_m⟩ := hH_1 _ _ k2_1
  refine va_calll (va_runV (As := [.int (xs (i + 1))]) (rest := []) ⟨hx, hb, hml, hown, hts2⟩ (c_X12_row l g Ty_1 G_1 _ (s.heap.size + 40) (xs (i + 1)) k2_1 B hI_1 (by omega) hLD) (cwV 1 hts2 (gwV mw_1878 mw_1879 mw_1880 mw_88 mw_1881) rfl rfl rfl hv_X12_row ⟨Nat.le_of_ble_eq_true rfl, Nat.le_of_ble_eq_true rfl⟩) ⟨PcT_blind, hg_recv hK o_m rfl, PcT_pre hK hH_1⟩ rfl rfl hl.1 rfl (lv_room (Nat.le_of_ble_eq_true rfl)) dL_law_1473 ⟨by show _ ≤ 1157971; omega, by show _ ≤ 5622190; omega⟩) hS_1 (fun q _ h => af_in hN_1 hS_1.1 q h) (fun q h => af_in hN_1 hS_1.1 q h) (fun r_2 u_2 t_2 H_2 locs_2 ht_2 hv_2 hp_2 hB_2 hz_2 hk_2 hS_2 => ?_)
  have hH_2 : HT g Ty_1 u_2.2 H_2 := by rw [← ht_2, ← hp_2.1]; exact hB_2
  have hF_2 := hp_2.2.1
  have hI_2 : OI g (B + 3000) u_2.2 := OI.up hp_2.2.2 (by omega)
  have hE_2 : EQ5 g u_2.2 := hE_1.r hF_2 (by decide) trivial
  refine lv_lstore (lv' := (6, .long r_2) :: lvL s b i) hx hb dL_law_1476 hl (by decide) rfl (fun ls hl => ?_)
  have hl : lv_has ls 8 (lvL s b i) := lv_sub hl [1, 2, 3, 4, 5] rfl
  refine lv_goto (tgt := 1481) hx hb dL_law_1478 (by decide) ?_
  exact W.widen (k := cells + 160) (n := slots + 3160) (by omega) (by omega) (kk Ty_1 u_2.2 H_2 locs_2 _ ⟨hH_2, hI_2, hE_2, k1_1, k2_1, k3_1, hN_1⟩ hS_2 hl)
end LCc
