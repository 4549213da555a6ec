theorem mwL_mount : Cond.codeWith yL_mount cL_mount 5 (some .int) [(0, 10, 13, 13)] ∈ GW := gwt5 150 (by decide +kernel) (by decide +kernel)
theorem mwL_at : Cond.codeWith yL_at cL_at 5 (some .int) [(0, 10, 13, 13)] ∈ GW := gwt5 225 (by decide +kernel) (by decide +kernel)
theorem mwL_row : Cond.codeWith yL_row cL_row 4 (some .int) [(0, 8, 11, 13)] ∈ GW := gwt5 233 (by decide +kernel) (by decide +kernel)
section LCc
variable {p : Program} {l : Launch} {e : Env} {s : State} {m : MethodId} {below : List Frame} {meth : Method} {c : Code} {b L : Nat} {xs : Nat → Int32} {g : Gx} {H : Heap} {locs : List Loc} {cells slots : Nat} {Q : State → Prop} {ls : Array Slot} {i : Nat}
set_option maxHeartbeats 4000000 in
set_option maxRecDepth 100000 in
theorem lc_0 {Ty : TyM} {G : Gh} (hX : LcX p l s m meth c b L xs g i cells slots) (hl : lv_has ls 8 (lvL s b i)) (hW : LW g s.heap.size Ty G H) (hS : va_S (fun q => s.heap.size ≤ q) s.heap H locs) (kk : LcT p l e s m below meth c b i cells slots 1564 Q) : W p l e room_1 s m #[Value.ref b] below meth c H locs cells slots Q (F0 m 228 ls []) := by
  obtain ⟨hst, hL, C0, E0, hi, hc, hs⟩ := hX
  obtain ⟨hx, hb, hr, hml, hown, hts, hXs, hbl, hlocks, hgv⟩ := id C0
  obtain ⟨hK, hO, hXO, hLD, h51, hLE, hD1⟩ := id E0
  have hown : s.vm.findClass "MountPeersLaw" = some m.cls := hown
  have hts2 := lw_g2 hts
  obtain ⟨hH, hI, ⟨hE, hR⟩, hFS, k1, k2, k3, ⟨fo, oo⟩, hN⟩ := id hW
  obtain ⟨⟨ro_70, ro_71, ro_72, ro_73, ro_74⟩, nu_, nu_20, nu_23, ro_100, ro_z⟩ := id hFS
  refine lv_aload_n hx hb dL_law_228 rfl (lv_at hl 3 rfl) ?_
  refine lw_arg (k := 1) hx hb hXs hbl hS hl hi hL (by decide) (by decide +kernel) dL_law_229 dL_law_230 dL_law_232 dL_law_233 dL_law_234 ?_
  obtain ⟨_, ⟨rfl, tc_, mc_⟩, o_x⟩ := hH s.heap.size _ k1
  refine va_calli (va_runV (As := [.int (xs (i + 1))]) (rest := []) ⟨hx, hb, hml, hown, hts2⟩ (c_X11_sign l g Ty G H.size s.heap.size (xs (i + 1)) k1 ) (cwV 1 hts2 (gwV mw_403 mw_404 mw_405 mw_76 mw_406) rfl rfl rfl hv_X11_sign ⟨Nat.le_of_ble_eq_true rfl, Nat.le_of_ble_eq_true rfl⟩) ⟨PcT_blind, hg_recv hK o_x rfl, PcT_pre hK hH⟩ rfl rfl hl.1 rfl (lv_room (Nat.le_of_ble_eq_true rfl)) dL_law_235 ⟨by show _ ≤ 600002; omega, by show _ ≤ 7302232; omega⟩) hS (fun q _ h => af_in hN hS.1 q h) (fun q h => af_in hN hS.1 q h) (fun r_1 u_1 t_1 H_1 locs_1 ht_1 hv_1 hp_1 hB_1 hz_1 hk_1 hS_1 => ?_)
  obtain ⟨Ty_1, eT_⟩ : ∃ z, z = u_1.1 := ⟨_, rfl⟩
  obtain ⟨G_1, eG_⟩ : ∃ z, z = u_1.2 := ⟨_, rfl⟩
  have hH_1 : HT g Ty_1 G_1 H_1 := by rw [← ht_1, eT_, eG_]; exact hB_1
  have eT : Ty_1 = Ty := by rw [eT_]; exact hp_1.1
  have hrel := hp_1.2
  rw [← eG_] at hrel
  have k2_1 := k2
  have hN_1 := hN
  rw [← eT] at k2_1 hN_1
  have hI_1 : OI g 1 G_1 := hI.ce (CE.sign hrel) h51
  refine lv_aload_n hx hb dL_law_238 rfl (lv_at hl 2 rfl) ?_
  refine lw_arg (k := 1) hx hb hXs hbl hS_1 hl hi hL (by decide) (by decide +kernel) dL_law_239 dL_law_240 dL_law_242 dL_law_243 dL_law_244 ?_
  obtain ⟨_, ⟨rfl, tm_, mk_⟩, o_m⟩ := hH_1 _ _ k2_1
  refine va_calli (va_runV (As := [.int (xs (i + 1))]) (rest := [.int r_1]) ⟨hx, hb, hml, hown, hts2⟩ (c_X12_sign l g Ty_1 G_1 _ (s.heap.size + 40) (xs (i + 1)) k2_1 1 hI_1 (by omega) hLD) (cwV 1 hts2 (gwV mw_1416 mw_1417 mw_1418 mw_88 mw_1419) rfl rfl rfl hv_X12_sign ⟨Nat.le_of_ble_eq_true rfl, Nat.le_of_ble_eq_true rfl⟩) ⟨PcT_blind, hg_recv hK o_m rfl, PcT_pre hK hH_1⟩ rfl rfl hl.1 rfl (lv_room (Nat.le_of_ble_eq_true rfl)) dL_law_245 ⟨by show _ ≤ 600002; omega, by show _ ≤ 7302232; omega⟩) hS_1 (fun q _ h => af_in hN_1 hS_1.1 q h) (fun q h => af_in hN_1 hS_1.1 q h) (fun r_2 u_2 t_2 H_2 locs_2 ht_2 hv_2 hp_2 hB_2 hz_2 hk_2 hS_2 => ?_)
  obtain ⟨hr_2, hE_2⟩ := EQ5.sign hLD hE hrel hp_2.2.1 hp_2.2.2.2
  refine lv_icmp_eq (tgt := 1564) hx hb dL_law_248 (by decide) (fun _ => ?_) (fun q_ => absurd hr_2 q_)
  exact W.widen (k := cells + 160) (n := slots + 3160) (by omega) (by omega) (kk _ _ _ hS_2 hl)
set_option maxHeartbeats 4000000 in
set_option maxRecDepth 100000 in
theorem lc_1 {Ty : TyM} {G : Gh} (hX : LcX p l s m meth c b L xs g i cells slots) (hl : lv_has ls 8 (lvL s b i)) (hW : LW g s.heap.size Ty G H) (hS : va_S (fun q => s.heap.size ≤ q) s.heap H locs) (kk : LcT p l e s m below meth c b i cells slots 1564 Q) : W p l e room_1 s m #[Value.ref b] below meth c H locs cells slots Q (F0 m 253 ls []) := by
  obtain ⟨hst, hL, C0, E0, hi, hc, hs⟩ := hX
  obtain ⟨hx, hb, hr, hml, hown, hts, hXs, hbl, hlocks, hgv⟩ := id C0
  obtain ⟨hK, hO, hXO, hLD, h51, hLE, hD1⟩ := id E0
  have hown : s.vm.findClass "MountPeersLaw" = some m.cls := hown
  have hts2 := lw_g2 hts
  obtain ⟨hH, hI, ⟨hE, hR⟩, hFS, k1, k2, k3, ⟨fo, oo⟩, hN⟩ := id hW
  obtain ⟨⟨ro_70, ro_71, ro_72, ro_73, ro_74⟩, nu_, nu_20, nu_23, ro_100, ro_z⟩ := id hFS
  refine lv_aload_n hx hb dL_law_253 rfl (lv_at hl 3 rfl) ?_
  refine lw_arg (k := 1) hx hb hXs hbl hS hl hi hL (by decide) (by decide +kernel) dL_law_254 dL_law_255 dL_law_257 dL_law_258 dL_law_259 ?_
  obtain ⟨_, ⟨rfl, tc_, mc_⟩, o_x⟩ := hH s.heap.size _ k1
  refine va_calli (va_runV (As := [.int (xs (i + 1))]) (rest := []) ⟨hx, hb, hml, hown, hts2⟩ (c_X11_end l g Ty G H.size s.heap.size (xs (i + 1)) k1 ) (cwV 1 hts2 (gwV mw_411 mw_412 mw_413 mw_76 mw_414) rfl rfl rfl hv_X11_end ⟨Nat.le_of_ble_eq_true rfl, Nat.le_of_ble_eq_true rfl⟩) ⟨PcT_blind, hg_recv hK o_x rfl, PcT_pre hK hH⟩ rfl rfl hl.1 rfl (lv_room (Nat.le_of_ble_eq_true rfl)) dL_law_260 ⟨by show _ ≤ 600002; omega, by show _ ≤ 7302232; omega⟩) hS (fun q _ h => af_in hN hS.1 q h) (fun q h => af_in hN hS.1 q h) (fun r_1 u_1 t_1 H_1 locs_1 ht_1 hv_1 hp_1 hB_1 hz_1 hk_1 hS_1 => ?_)
  obtain ⟨Ty_1, eT_⟩ : ∃ z, z = u_1.1 := ⟨_, rfl⟩
  obtain ⟨G_1, eG_⟩ : ∃ z, z = u_1.2 := ⟨_, rfl⟩
  have hH_1 : HT g Ty_1 G_1 H_1 := by rw [← ht_1, eT_, eG_]; exact hB_1
  have eT : Ty_1 = Ty := by rw [eT_]; exact hp_1.2.1
  have hrel := hp_1.2.2
  rw [← eG_] at hrel
  have k2_1 := k2
  have hN_1 := hN
  rw [← eT] at k2_1 hN_1
  have hI_1 : OI g 1 G_1 := hI.ce (CE.cut hrel) h51
  refine lv_aload_n hx hb dL_law_263 rfl (lv_at hl 2 rfl) ?_
  refine lw_arg (k := 1) hx hb hXs hbl hS_1 hl hi hL (by decide) (by decide +kernel) dL_law_264 dL_law_265 dL_law_267 dL_law_268 dL_law_269 ?_
  obtain ⟨_, ⟨rfl, tm_, mk_⟩, o_m⟩ := hH_1 _ _ k2_1
  refine va_calli (va_runV (As := [.int (xs (i + 1))]) (rest := [.int r_1]) ⟨hx, hb, hml, hown, hts2⟩ (c_X12_end l g Ty_1 G_1 _ (s.heap.size + 40) (xs (i + 1)) k2_1 1 hI_1 (by omega) hLD) (cwV 1 hts2 (gwV mw_1420 mw_1421 mw_1422 mw_88 mw_1423) rfl rfl rfl hv_X12_end ⟨Nat.le_of_ble_eq_true rfl, Nat.le_of_ble_eq_true rfl⟩) ⟨PcT_blind, hg_recv hK o_m rfl, PcT_pre hK hH_1⟩ rfl rfl hl.1 rfl (lv_room (Nat.le_of_ble_eq_true rfl)) dL_law_270 ⟨by show _ ≤ 600002; omega, by show _ ≤ 7302232; omega⟩) hS_1 (fun q _ h => af_in hN_1 hS_1.1 q h) (fun q h => af_in hN_1 hS_1.1 q h) (fun r_2 u_2 t_2 H_2 locs_2 ht_2 hv_2 hp_2 hB_2 hz_2 hk_2 hS_2 => ?_)
  obtain ⟨hr_2, hE_2⟩ := EQ5.cut hE hrel hp_2.2.2.1 hp_2.2.2.2.2
  refine lv_icmp_eq (tgt := 1564) hx hb dL_law_273 (by decide) (fun _ => ?_) (fun q_ => absurd hr_2 q_)
  exact W.widen (k := cells + 160) (n := slots + 3160) (by omega) (by omega) (kk _ _ _ hS_2 hl)
set_option maxHeartbeats 4000000 in
set_option maxRecDepth 100000 in
theorem lc_2 {Ty : TyM} {G : Gh} (hX : LcX p l s m meth c b L xs g i cells slots) (hl : lv_has ls 8 (lvL s b i)) (hW : LW g s.heap.size Ty G H) (hS : va_S (fun q => s.heap.size ≤ q) s.heap H locs) (kk : LcT p l e s m below meth c b i cells slots 1564 Q) : W p l e room_1 s m #[Value.ref b] below meth c H locs cells slots Q (F0 m 278 ls []) := by
  obtain ⟨hst, hL, C0, E0, hi, hc, hs⟩ := hX
  obtain ⟨hx, hb, hr, hml, hown, hts, hXs, hbl, hlocks, hgv⟩ := id C0
  obtain ⟨hK, hO, hXO, hLD, h51, hLE, hD1⟩ := id E0
  have hown : s.vm.findClass "MountPeersLaw" = some m.cls := hown
  have hts2 := lw_g2 hts
  obtain ⟨hH, hI, ⟨hE, hR⟩, hFS, k1, k2, k3, ⟨fo, oo⟩, hN⟩ := id hW
  obtain ⟨⟨ro_70, ro_71, ro_72, ro_73, ro_74⟩, nu_, nu_20, nu_23, ro_100, ro_z⟩ := id hFS
  refine lv_aload_n hx hb dL_law_278 rfl (lv_at hl 3 rfl) ?_
  obtain ⟨_, ⟨rfl, tc_, mc_⟩, o_x⟩ := hH s.heap.size _ k1
  refine va_calli (va_runV (As := []) (rest := []) ⟨hx, hb, hml, hown, hts2⟩ (c_X11_rule l g Ty G H.size s.heap.size  k1 hD1 (nu_ 0 (by decide))) (cwV 0 hts2 (gwV mw_419 mw_420 mw_421 mw_76 mw_422) rfl rfl rfl hv_X11_rule ⟨Nat.le_of_ble_eq_true rfl, Nat.le_of_ble_eq_true rfl⟩) ⟨PcO_blind, hg_recv hK o_x rfl, PcO_pre hK hH (hO.narrow (af_in hN (Nat.le_refl _))) (vaS_af hS)⟩ rfl rfl hl.1 rfl (lv_room (Nat.le_of_ble_eq_true rfl)) dL_law_279 ⟨by show _ ≤ 600002; omega, by show _ ≤ 7302232; omega⟩) hS (fun q _ h => af_in hN hS.1 q h) (fun q h => af_in hN hS.1 q h) (fun r_1 u_1 t_1 H_1 locs_1 ht_1 hv_1 hp_1 hB_1 hz_1 hk_1 hS_1 => ?_)
  obtain ⟨Ty_1, eT_⟩ : ∃ z, z = u_1.1 := ⟨_, rfl⟩
  obtain ⟨G_1, eG_⟩ : ∃ z, z = u_1.2 := ⟨_, rfl⟩
  have hH_1 : HT g Ty_1 G_1 H_1 := by rw [← ht_1, eT_, eG_]; exact hB_1
  have rg_1 := hp_1.1
  have eT : Ty_1 = Ty := by rw [eT_]; exact hp_1.2.1
  have hF_1 : FR [0, 5, 6, 24] [(g.2.2 51)] [] G G_1 := by rw [eG_]; exact hp_1.2.2
  have k2_1 := k2
  have hN_1 := hN
  rw [← eT] at k2_1 hN_1
  have hI_1 : OI g 1 G_1 := hI.frc hF_1 (by decide) rfl ⟨hD1 100 (by decide) 51 (by decide) (by decide), trivial⟩ ⟨hD1 121 (by decide) 51 (by decide) (by decide), trivial⟩ ⟨hD1 140 (by decide) 51 (by decide) (by decide), trivial⟩ ⟨hD1 141 (by decide) 51 (by decide) (by decide), trivial⟩
  refine lv_aload_n hx hb dL_law_282 rfl (lv_at hl 2 rfl) ?_
  obtain ⟨_, ⟨rfl, tm_, mk_⟩, o_m⟩ := hH_1 _ _ k2_1
  refine va_calli (va_runV (As := []) (rest := [.int r_1]) ⟨hx, hb, hml, hown, hts2⟩ (c_X12_rule_z l g Ty_1 G_1 _ (s.heap.size + 40)  k2_1 1 hI_1 (by omega) hLD ((hF_1.1 102 (by decide)).trans (nu_ 102 (by decide)))) (cwV 0 hts2 (gwV mw_1427 mw_1428 mw_1429 mw_88 mw_1430) rfl rfl rfl hv_X12_rule ⟨Nat.le_of_ble_eq_true rfl, Nat.le_of_ble_eq_true rfl⟩) ⟨PcT_blind, hg_recv hK o_m rfl, PcT_pre hK hH_1⟩ rfl rfl hl.1 rfl (lv_room (Nat.le_of_ble_eq_true rfl)) dL_law_283 ⟨by show _ ≤ 600002; omega, by show _ ≤ 7302232; omega⟩) hS_1 (fun q _ h => af_in hN_1 hS_1.1 q h) (fun q h => af_in hN_1 hS_1.1 q h) (fun r_2 u_2 t_2 H_2 locs_2 ht_2 hv_2 hp_2 hB_2 hz_2 hk_2 hS_2 => ?_)
  have hr_2 : r_1 = r_2 := rg_one rg_1 hp_2.1
  refine lv_icmp_eq (tgt := 1564) hx hb dL_law_286 (by decide) (fun _ => ?_) (fun q_ => absurd hr_2 q_)
  exact W.widen (k := cells + 160) (n := slots + 3160) (by omega) (by omega) (kk _ _ _ hS_2 hl)
set_option maxHeartbeats 4000000 in
set_option maxRecDepth 100000 in
theorem lc_3 {Ty : TyM} {G : Gh} (hX : LcX p l s m meth c b L xs g i cells slots) (hl : lv_has ls 8 (lvL s b i)) (hW : LW g s.heap.size Ty G H) (hS : va_S (fun q => s.heap.size ≤ q) s.heap H locs) (kk : LcT p l e s m below meth c b i cells slots 1564 Q) : W p l e room_1 s m #[Value.ref b] below meth c H locs cells slots Q (F0 m 291 ls []) := by
  obtain ⟨hst, hL, C0, E0, hi, hc, hs⟩ := hX
  obtain ⟨hx, hb, hr, hml, hown, hts, hXs, hbl, hlocks, hgv⟩ := id C0
  obtain ⟨hK, hO, hXO, hLD, h51, hLE, hD1⟩ := id E0
  have hown : s.vm.findClass "MountPeersLaw" = some m.cls := hown
  have hts2 := lw_g2 hts
  obtain ⟨hH, hI, ⟨hE, hR⟩, hFS, k1, k2, k3, ⟨fo, oo⟩, hN⟩ := id hW
  obtain ⟨⟨ro_70, ro_71, ro_72, ro_73, ro_74⟩, nu_, nu_20, nu_23, ro_100, ro_z⟩ := id hFS
  refine lv_aload_n hx hb dL_law_291 rfl (lv_at hl 3 rfl) ?_
  obtain ⟨_, ⟨rfl, tc_, mc_⟩, o_x⟩ := hH s.heap.size _ k1
  refine va_calli (va_runV (As := []) (rest := []) ⟨hx, hb, hml, hown, hts2⟩ (c_X11_place l g Ty G H.size s.heap.size  k1 hD1 (nu_ 0 (by decide))) (cwV 0 hts2 (gwV mw_565 mw_566 mw_567 mw_76 mw_568) rfl rfl rfl hv_X11_place ⟨Nat.le_of_ble_eq_true rfl, Nat.le_of_ble_eq_true rfl⟩) ⟨PcT_blind, hg_recv hK o_x rfl, PcT_pre hK hH⟩ rfl rfl hl.1 rfl (lv_room (Nat.le_of_ble_eq_true rfl)) dL_law_292 ⟨by show _ ≤ 600002; omega, by show _ ≤ 7302232; omega⟩) hS (fun q _ h => af_in hN hS.1 q h) (fun q h => af_in hN hS.1 q h) (fun r_1 u_1 t_1 H_1 locs_1 ht_1 hv_1 hp_1 hB_1 hz_1 hk_1 hS_1 => ?_)
  obtain ⟨Ty_1, eT_⟩ : ∃ z, z = u_1.1 := ⟨_, rfl⟩
  obtain ⟨G_1, eG_⟩ : ∃ z, z = u_1.2 := ⟨_, rfl⟩
  have hH_1 : HT g Ty_1 G_1 H_1 := by rw [← ht_1, eT_, eG_]; exact hB_1
  have rg_1 := hp_1.1
  have eT : Ty_1 = Ty := by rw [eT_]; exact hp_1.2.1
  have hF_1 : FR [0] [] [] G G_1 := by rw [eG_]; exact hp_1.2.2
  have k2_1 := k2
  have hN_1 := hN
  rw [← eT] at k2_1 hN_1
  have hI_1 : OI g 1 G_1 := hI.frc hF_1 (by decide) rfl trivial trivial trivial trivial
  refine lv_aload_n hx hb dL_law_295 rfl (lv_at hl 2 rfl) ?_
  obtain ⟨_, ⟨rfl, tm_, mk_⟩, o_m⟩ := hH_1 _ _ k2_1
  refine va_calli (va_runV (As := []) (rest := [.int r_1]) ⟨hx, hb, hml, hown, hts2⟩ (c_X12_place_z l g Ty_1 G_1 _ (s.heap.size + 40)  k2_1 1 hI_1 (by omega) hLD ((hF_1.1 102 (by decide)).trans (nu_ 102 (by decide)))) (cwV 0 hts2 (gwV mw_1494 mw_1495 mw_1496 mw_88 mw_1497) rfl rfl rfl hv_X12_place ⟨Nat.le_of_ble_eq_true rfl, Nat.le_of_ble_eq_true rfl⟩) ⟨PcT_blind, hg_recv hK o_m rfl, PcT_pre hK hH_1⟩ rfl rfl hl.1 rfl (lv_room (Nat.le_of_ble_eq_true rfl)) dL_law_296 ⟨by show _ ≤ 600002; omega, by show _ ≤ 7302232; omega⟩) hS_1 (fun q _ h => af_in hN_1 hS_1.1 q h) (fun q h => af_in hN_1 hS_1.1 q h) (fun r_2 u_2 t_2 H_2 locs_2 ht_2 hv_2 hp_2 hB_2 hz_2 hk_2 hS_2 => ?_)
  have hr_2 : r_1 = r_2 := rg_one rg_1 hp_2.1
  refine lv_icmp_eq (tgt := 1564) hx hb dL_law_299 (by decide) (fun _ => ?_) (fun q_ => absurd hr_2 q_)
  exact W.widen (k := cells + 160) (n := slots + 3160) (by omega) (by omega) (kk _ _ _ hS_2 hl)
set_option maxHeartbeats 4000000 in
set_option maxRecDepth 100000 in
theorem lc_4 {Ty : TyM} {G : Gh} (hX : LcX p l s m meth c b L xs g i cells slots) (hl : lv_has ls 8 (lvL s b i)) (hW : LW g s.heap.size Ty G H) (hS : va_S (fun q => s.heap.size ≤ q) s.heap H locs) (kk : LcT p l e s m below meth c b i cells slots 1564 Q) : W p l e room_1 s m #[Value.ref b] below meth c H locs cells slots Q (F0 m 304 ls []) := by
  obtain ⟨hst, hL, C0, E0, hi, hc, hs⟩ := hX
  obtain ⟨hx, hb, hr, hml, hown, hts, hXs, hbl, hlocks, hgv⟩ := id C0
  obtain ⟨hK, hO, hXO, hLD, h51, hLE, hD1⟩ := id E0
  have hown : s.vm.findClass "MountPeersLaw" = some m.cls := hown
  have hts2 := lw_g2 hts
  obtain ⟨hH, hI, ⟨hE, hR⟩, hFS, k1, k2, k3, ⟨fo, oo⟩, hN⟩ := id hW
  obtain ⟨⟨ro_70, ro_71, ro_72, ro_73, ro_74⟩, nu_, nu_20, nu_23, ro_100, ro_z⟩ := id hFS
  refine lv_aload_n hx hb dL_law_304 rfl (lv_at hl 3 rfl) ?_
  refine lw_arg (k := 1) hx hb hXs hbl hS hl hi hL (by decide) (by decide +kernel) dL_law_305 dL_law_306 dL_law_308 dL_law_309 dL_law_310 ?_
  refine lw_arg (k := 2) hx hb hXs hbl hS hl hi hL (by decide) (by decide +kernel) dL_law_311 dL_law_312 dL_law_314 dL_law_315 dL_law_316 ?_
  refine lv_aload_n hx hb dL_law_317 rfl (lv_at hl 1 rfl) ?_
  have af0 : ∀ q, (AF Ty H.size q ∨ q = s.heap.size + 63) → s.heap.size ≤ q := fun q h => h.elim (af_in hN hS.1 q) (fun w => by rw [w]; exact Nat.le_add_right _ _)
  refine va_calli (vx_noX (vx_runSX (As := [.ref s.heap.size, .int (xs (i + 1)), .int (xs (i + 2)), .ref (s.heap.size + 63)]) (rest := []) ⟨hx, hb, hml, hown, hts2⟩ (c_L_mount_z l hst g Ty G H.size s.heap.size (s.heap.size + 63) (xs (i + 1)) (xs (i + 2)) k1 k3 nu_20 (nu_ 21 (by decide)) ro_70 ro_71 ro_72) (vx_cwSW 4 hts2 (gwSW mw_1183 mw_1184 mw_75 mwL_mount) rfl rfl rfl ⟨by decide +kernel, by decide +kernel, by decide +kernel⟩ ⟨Nat.le_of_ble_eq_true rfl, Nat.le_of_ble_eq_true rfl⟩) ⟨PcY_blind, PcY_pre hK hH (hXO.narrow (af_in hN (Nat.le_refl _))) (vaS_af hS) oo⟩ rfl rfl hl.1 rfl (lv_room (Nat.le_of_ble_eq_true rfl)) dL_law_318 ⟨by show _ ≤ 600002; omega, by show _ ≤ 7302232; omega⟩)) hS (fun q _ h => af0 q h) (fun q h => af0 q h) (fun r_1 u_1 t_1 H_1 locs_1 ht_1 hv_1 hp_1 hB_1 hz_1 hk_1 hS_1 => ?_)
  obtain ⟨eT, eG, hP⟩ := hp_1
  obtain ⟨Ty_1, G_1, f_1⟩ := u_1
  have eT : Ty_1 = Ty := eT
  have eG : G_1 = G := eG
  subst eT eG
  obtain ⟨hH_1, o_1⟩ := hB_1
  rw [ht_1] at hH_1 o_1
  have hH_1 : HT g Ty_1 G_1 H_1 := hH_1
  have o_1 : va_at g.1 vwCl (s.heap.size + 63, .inl (g.2.1 2, 1, .inr (.inl f_1))) H_1 := o_1
  refine lv_istore (lv' := (5, .int r_1) :: lvL s b i) hx hb dL_law_321 hl (by decide) rfl (fun ls hl5 => ?_)
  have hl : lv_has ls 8 (lvL s b i) := lv_sub hl5 [1, 2, 3, 4, 5] rfl
  refine lv_aload_n hx hb dL_law_323 rfl (lv_at hl 2 rfl) ?_
  refine lw_arg (k := 1) hx hb hXs hbl hS_1 hl hi hL (by decide) (by decide +kernel) dL_law_324 dL_law_325 dL_law_327 dL_law_328 dL_law_329 ?_
  refine lw_arg (k := 2) hx hb hXs hbl hS_1 hl hi hL (by decide) (by decide +kernel) dL_law_330 dL_law_331 dL_law_333 dL_law_334 dL_law_335 ?_
  obtain ⟨_, ⟨rfl, tm_, mk_⟩, o_m⟩ := hH_1 _ _ k2
  have hI_1 := hI
  refine va_calli (va_runV (As := [.int (xs (i + 1)), .int (xs (i + 2))]) (rest := []) ⟨hx, hb, hml, hown, hts2⟩ (c_X12_mount_x l g Ty_1 G_1 _ (s.heap.size + 40) (xs (i + 1)) (xs (i + 2)) k2 1 hI_1 (by omega) hLD) (cwV 2 hts2 (gwV mw_1514 mw_1515 mw_1516 mw_88 mw_1517) rfl rfl rfl hv_X12_mount ⟨Nat.le_of_ble_eq_true rfl, Nat.le_of_ble_eq_true rfl⟩) ⟨PcT_blind, hg_recv hK o_m rfl, PcT_pre hK hH_1⟩ rfl rfl hl.1 rfl (lv_room (Nat.le_of_ble_eq_true rfl)) dL_law_336 ⟨by show _ ≤ 600002; omega, by show _ ≤ 7302232; omega⟩) hS_1 (fun q _ h => af_in hN hS_1.1 q h) (fun q h => af_in hN hS_1.1 q h) (fun r_2 u_2 t_2 H_2 locs_2 ht_2 hv_2 hp_2 hB_2 hz_2 hk_2 hS_2 => ?_)
  have hH_2 : HT g Ty_1 u_2.2 H_2 := by rw [← ht_2, ← hp_2.1]; exact hB_2
  have o_2 := ob_kept k3 rfl o_1 hk_2
  have q_2 := hp_2.2.2.2
  rw [ro_100, nu_ 105 (by decide)] at q_2
  have s_2 : (F_X12_mount_x nowF 0 (xs (i + 1)) (xs (i + 2))).2 = u_2.2.1 105 := congrArg Prod.snd q_2
  have t_2 : (F_X12_mount_x nowF 0 (xs (i + 1)) (xs (i + 2))).1 = r_2 := congrArg Prod.fst q_2
  refine lv_istore (lv' := (6, .int r_2) :: (5, .int r_1) :: lvL s b i) hx hb dL_law_339 hl5 (by decide) rfl (fun ls hl6 => ?_)
  have hl : lv_has ls 8 (lvL s b i) := lv_sub hl6 [2, 3, 4, 5, 6] rfl
  refine lv_aload_n hx hb dL_law_341 rfl (lv_at hl 2 rfl) ?_
  obtain ⟨_, ⟨rfl, tn_, mn_⟩, o_n⟩ := hH_2 _ _ k2
  refine vp_callSi (W.runV (As := []) (rest := []) ⟨hx, hb, hml, hown, hts2⟩ (c_X12_thrown_x l g Ty_1 u_2.2 (s.heap.size + 40) k2) (cwV 0 hts2 (gwV mw_1412 mw_1413 mw_1414 mw_88 mw_1415) rfl rfl rfl hv_X12_thrown ⟨Nat.le_of_ble_eq_true rfl, Nat.le_of_ble_eq_true rfl⟩) ⟨PcH_blind, hg_recv hK o_n rfl, PcH_pre hK hH_2⟩ rfl rfl hl.1 rfl (lv_room (Nat.le_of_ble_eq_true rfl)) dL_law_342 ⟨by show _ ≤ 600002; omega, by show _ ≤ 7302232; omega⟩) (fun r_3 hp_3 => ?_)
  have e_3 : r_3 = u_2.2.1 105 := hp_3
  refine lv_iload hx hb dL_law_345 (lv_at hl6 1 rfl) ?_
  have e5 : r_3 = r_1 := by
    rcases hP with ⟨ok, w, -⟩ | ⟨no, w⟩
    · rw [w, e_3, ← s_2, fr_mount1 ok]
    · rw [w, e_3, ← s_2]; exact fr_mount2 no
  refine lv_icmp_eq (tgt := 352) hx hb dL_law_347 (by decide) (fun _ => ?_) (fun q_ => absurd e5 q_)
  refine lv_iload hx hb dL_law_352 (lv_at hl6 1 rfl) ?_
  refine lv_if_ne (tgt := 369) hx hb dL_law_354 (by decide) (fun c_ => ?_) (fun c_ => ?_)
  · refine lv_goto (tgt := 1564) hx hb dL_law_369 (by decide) ?_
    exact W.widen (k := cells + 160) (n := slots + 3160) (by omega) (by omega) (kk _ _ _ hS_2 hl)
  · have ev : f_1 0 = r_2.toInt64 := by
      rcases hP with ⟨ok, -, w⟩ | ⟨-, w⟩
      · have w : f_1 0 = _ := w
        rw [w, ← t_2, fr_mount1 ok]
      · exact absurd (w.symm.trans c_) (by decide)
    refine lv_aload_n hx hb dL_law_357 rfl (lv_at hl6 3 rfl) ?_
    refine lv_iconst (v := 0) hx hb dL_law_358 (by decide) ?_
    refine hg_lald hx hb hK o_2 (rg_in (n := 1) (rl_0) (by decide) (by decide)) dL_law_359 ?_
    refine lv_iload hx hb dL_law_360 (lv_at hl6 0 rfl) ?_
    refine lv_i2l hx hb dL_law_362 rfl ?_
    rw [show f_1 (Int32.toNatClampNeg 0) = r_2.toInt64 from ev]
    refine W.lcmp hx hb dL_law_363 ?_
    refine lv_if_eq (tgt := 369) hx hb dL_law_364 (by decide) (fun _ => ?_) (fun q_ => absurd (lcmp_0 _) q_)
    refine lv_goto (tgt := 1564) hx hb dL_law_369 (by decide) ?_
    exact W.widen (k := cells + 160) (n := slots + 3160) (by omega) (by omega) (kk _ _ _ hS_2 hl)
set_option maxHeartbeats 4000000 in
set_option maxRecDepth 100000 in
theorem lc_5 {Ty : TyM} {G : Gh} (hX : LcX p l s m meth c b L xs g i cells slots) (hl : lv_has ls 8 (lvL s b i)) (hW : LW g s.heap.size Ty G H) (hS : va_S (fun q => s.heap.size ≤ q) s.heap H locs) (kk : LcT p l e s m below meth c b i cells slots 1564 Q) : W p l e room_1 s m #[Value.ref b] below meth c H locs cells slots Q (F0 m 372 ls []) := by
  obtain ⟨hst, hL, C0, E0, hi, hc, hs⟩ := hX
  obtain ⟨hx, hb, hr, hml, hown, hts, hXs, hbl, hlocks, hgv⟩ := id C0
  obtain ⟨hK, hO, hXO, hLD, h51, hLE, hD1⟩ := id E0
  have hown : s.vm.findClass "MountPeersLaw" = some m.cls := hown
  have hts2 := lw_g2 hts
  obtain ⟨hH, hI, ⟨hE, hR⟩, hFS, k1, k2, k3, ⟨fo, oo⟩, hN⟩ := id hW
  obtain ⟨⟨ro_70, ro_71, ro_72, ro_73, ro_74⟩, nu_, nu_20, nu_23, ro_100, ro_z⟩ := id hFS
  refine lv_aload_n hx hb dL_law_372 rfl (lv_at hl 3 rfl) ?_
  refine lw_arg (k := 1) hx hb hXs hbl hS hl hi hL (by decide) (by decide +kernel) dL_law_373 dL_law_374 dL_law_376 dL_law_377 dL_law_378 ?_
  refine lw_arg (k := 2) hx hb hXs hbl hS hl hi hL (by decide) (by decide +kernel) dL_law_379 dL_law_380 dL_law_382 dL_law_383 dL_law_384 ?_
  refine lv_aload_n hx hb dL_law_385 rfl (lv_at hl 1 rfl) ?_
  have af0 : ∀ q, (AF Ty H.size q ∨ q = s.heap.size + 63) → s.heap.size ≤ q := fun q h => h.elim (af_in hN hS.1 q) (fun w => by rw [w]; exact Nat.le_add_right _ _)
  refine va_calli (vx_noX (vx_runSX (As := [.ref s.heap.size, .int (xs (i + 1)), .int (xs (i + 2)), .ref (s.heap.size + 63)]) (rest := []) ⟨hx, hb, hml, hown, hts2⟩ (c_L_at_z l hst g Ty G H.size s.heap.size (s.heap.size + 63) (xs (i + 1)) (xs (i + 2)) k1 k3 nu_20 (nu_ 21 (by decide)) ro_70 ro_71 ro_72) (vx_cwSW 4 hts2 (gwSW mw_1258 mw_1259 mw_75 mwL_at) rfl rfl rfl ⟨by decide +kernel, by decide +kernel, by decide +kernel⟩ ⟨Nat.le_of_ble_eq_true rfl, Nat.le_of_ble_eq_true rfl⟩) ⟨PcY_blind, PcY_pre hK hH (hXO.narrow (af_in hN (Nat.le_refl _))) (vaS_af hS) oo⟩ rfl rfl hl.1 rfl (lv_room (Nat.le_of_ble_eq_true rfl)) dL_law_386 ⟨by show _ ≤ 600002; omega, by show _ ≤ 7302232; omega⟩)) hS (fun q _ h => af0 q h) (fun q h => af0 q h) (fun r_1 u_1 t_1 H_1 locs_1 ht_1 hv_1 hp_1 hB_1 hz_1 hk_1 hS_1 => ?_)
  obtain ⟨eT, eG, hP⟩ := hp_1
  obtain ⟨Ty_1, G_1, f_1⟩ := u_1
  have eT : Ty_1 = Ty := eT
  have eG : G_1 = G := eG
  subst eT eG
  obtain ⟨hH_1, o_1⟩ := hB_1
  rw [ht_1] at hH_1 o_1
  have hH_1 : HT g Ty_1 G_1 H_1 := hH_1
  have o_1 : va_at g.1 vwCl (s.heap.size + 63, .inl (g.2.1 2, 1, .inr (.inl f_1))) H_1 := o_1
  refine lv_istore (lv' := (5, .int r_1) :: lvL s b i) hx hb dL_law_389 hl (by decide) rfl (fun ls hl5 => ?_)
  have hl : lv_has ls 8 (lvL s b i) := lv_sub hl5 [1, 2, 3, 4, 5] rfl
  refine lv_aload_n hx hb dL_law_391 rfl (lv_at hl 2 rfl) ?_
  refine lw_arg (k := 1) hx hb hXs hbl hS_1 hl hi hL (by decide) (by decide +kernel) dL_law_392 dL_law_393 dL_law_395 dL_law_396 dL_law_397 ?_
  refine lw_arg (k := 2) hx hb hXs hbl hS_1 hl hi hL (by decide) (by decide +kernel) dL_law_398 dL_law_399 dL_law_401 dL_law_402 dL_law_403 ?_
  obtain ⟨_, ⟨rfl, tm_, mk_⟩, o_m⟩ := hH_1 _ _ k2
  have hI_1 := hI
  refine va_calli (va_runV (As := [.int (xs (i + 1)), .int (xs (i + 2))]) (rest := []) ⟨hx, hb, hml, hown, hts2⟩ (c_X12_at_x l g Ty_1 G_1 _ (s.heap.size + 40) (xs (i + 1)) (xs (i + 2)) k2 1 hI_1 (by omega) hLD) (cwV 2 hts2 (gwV mw_1531 mw_1532 mw_1533 mw_88 mw_1534) rfl rfl rfl hv_X12_at ⟨Nat.le_of_ble_eq_true rfl, Nat.le_of_ble_eq_true rfl⟩) ⟨PcT_blind, hg_recv hK o_m rfl, PcT_pre hK hH_1⟩ rfl rfl hl.1 rfl (lv_room (Nat.le_of_ble_eq_true rfl)) dL_law_404 ⟨by show _ ≤ 600002; omega, by show _ ≤ 7302232; omega⟩) hS_1 (fun q _ h => af_in hN hS_1.1 q h) (fun q h => af_in hN hS_1.1 q h) (fun r_2 u_2 t_2 H_2 locs_2 ht_2 hv_2 hp_2 hB_2 hz_2 hk_2 hS_2 => ?_)
  have hH_2 : HT g Ty_1 u_2.2 H_2 := by rw [← ht_2, ← hp_2.1]; exact hB_2
  have o_2 := ob_kept k3 rfl o_1 hk_2
  have q_2 := hp_2.2.2.2
  rw [ro_100, nu_ 105 (by decide)] at q_2
  have s_2 : (F_X12_at_x nowF 0 (xs (i + 1)) (xs (i + 2))).2 = u_2.2.1 105 := congrArg Prod.snd q_2
  have t_2 : (F_X12_at_x nowF 0 (xs (i + 1)) (xs (i + 2))).1 = r_2 := congrArg Prod.fst q_2
  refine lv_istore (lv' := (6, .int r_2) :: (5, .int r_1) :: lvL s b i) hx hb dL_law_407 hl5 (by decide) rfl (fun ls hl6 => ?_)
  have hl : lv_has ls 8 (lvL s b i) := lv_sub hl6 [2, 3, 4, 5, 6] rfl
  refine lv_aload_n hx hb dL_law_409 rfl (lv_at hl 2 rfl) ?_
  obtain ⟨_, ⟨rfl, tn_, mn_⟩, o_n⟩ := hH_2 _ _ k2
  refine vp_callSi (W.runV (As := []) (rest := []) ⟨hx, hb, hml, hown, hts2⟩ (c_X12_thrown_x l g Ty_1 u_2.2 (s.heap.size + 40) k2) (cwV 0 hts2 (gwV mw_1412 mw_1413 mw_1414 mw_88 mw_1415) rfl rfl rfl hv_X12_thrown ⟨Nat.le_of_ble_eq_true rfl, Nat.le_of_ble_eq_true rfl⟩) ⟨PcH_blind, hg_recv hK o_n rfl, PcH_pre hK hH_2⟩ rfl rfl hl.1 rfl (lv_room (Nat.le_of_ble_eq_true rfl)) dL_law_410 ⟨by show _ ≤ 600002; omega, by show _ ≤ 7302232; omega⟩) (fun r_3 hp_3 => ?_)
  have e_3 : r_3 = u_2.2.1 105 := hp_3
  refine lv_iload hx hb dL_law_413 (lv_at hl6 1 rfl) ?_
  have e5 : r_3 = r_1 := by
    rcases hP with ⟨ok, w, -⟩ | ⟨no, w⟩
    · rw [w, e_3, ← s_2, fr_at1 ok]
    · rw [w, e_3, ← s_2]; exact fr_at2 no
  refine lv_icmp_eq (tgt := 420) hx hb dL_law_415 (by decide) (fun _ => ?_) (fun q_ => absurd e5 q_)
  refine lv_iload hx hb dL_law_420 (lv_at hl6 1 rfl) ?_
  refine lv_if_ne (tgt := 437) hx hb dL_law_422 (by decide) (fun c_ => ?_) (fun c_ => ?_)
  · refine lv_goto (tgt := 1564) hx hb dL_law_437 (by decide) ?_
    exact W.widen (k := cells + 160) (n := slots + 3160) (by omega) (by omega) (kk _ _ _ hS_2 hl)
  · have ev : f_1 0 = r_2.toInt64 := by
      rcases hP with ⟨ok, -, w⟩ | ⟨-, w⟩
      · have w : f_1 0 = _ := w
        rw [w, ← t_2, fr_at1 ok]
      · exact absurd (w.symm.trans c_) (by decide)
    refine lv_aload_n hx hb dL_law_425 rfl (lv_at hl6 3 rfl) ?_
    refine lv_iconst (v := 0) hx hb dL_law_426 (by decide) ?_
    refine hg_lald hx hb hK o_2 (rg_in (n := 1) (rl_0) (by decide) (by decide)) dL_law_427 ?_
    refine lv_iload hx hb dL_law_428 (lv_at hl6 0 rfl) ?_
    refine lv_i2l hx hb dL_law_430 rfl ?_
    rw [show f_1 (Int32.toNatClampNeg 0) = r_2.toInt64 from ev]
    refine W.lcmp hx hb dL_law_431 ?_
    refine lv_if_eq (tgt := 437) hx hb dL_law_432 (by decide) (fun _ => ?_) (fun q_ => absurd (lcmp_0 _) q_)
    refine lv_goto (tgt := 1564) hx hb dL_law_437 (by decide) ?_
    exact W.widen (k := cells + 160) (n := slots + 3160) (by omega) (by omega) (kk _ _ _ hS_2 hl)
set_option maxHeartbeats 4000000 in
set_option maxRecDepth 100000 in
theorem lc_6 {Ty : TyM} {G : Gh} (hX : LcX p l s m meth c b L xs g i cells slots) (hl : lv_has ls 8 (lvL s b i)) (hW : LW g s.heap.size Ty G H) (hS : va_S (fun q => s.heap.size ≤ q) s.heap H locs) (kk : LcT p l e s m below meth c b i cells slots 1564 Q) : W p l e room_1 s m #[Value.ref b] below meth c H locs cells slots Q (F0 m 440 ls []) := by
  obtain ⟨hst, hL, C0, E0, hi, hc, hs⟩ := hX
  obtain ⟨hx, hb, hr, hml, hown, hts, hXs, hbl, hlocks, hgv⟩ := id C0
  obtain ⟨hK, hO, hXO, hLD, h51, hLE, hD1⟩ := id E0
  have hown : s.vm.findClass "MountPeersLaw" = some m.cls := hown
  have hts2 := lw_g2 hts
  obtain ⟨hH, hI, ⟨hE, hR⟩, hFS, k1, k2, k3, ⟨fo, oo⟩, hN⟩ := id hW
  obtain ⟨⟨ro_70, ro_71, ro_72, ro_73, ro_74⟩, nu_, nu_20, nu_23, ro_100, ro_z⟩ := id hFS
  refine lv_aload_n hx hb dL_law_440 rfl (lv_at hl 3 rfl) ?_
  refine lw_arg (k := 1) hx hb hXs hbl hS hl hi hL (by decide) (by decide +kernel) dL_law_441 dL_law_442 dL_law_444 dL_law_445 dL_law_446 ?_
  refine lw_arg (k := 2) hx hb hXs hbl hS hl hi hL (by decide) (by decide +kernel) dL_law_447 dL_law_448 dL_law_450 dL_law_451 dL_law_452 ?_
  refine lw_arg (k := 3) hx hb hXs hbl hS hl hi hL (by decide) (by decide +kernel) dL_law_453 dL_law_454 dL_law_456 dL_law_457 dL_law_458 ?_
  refine lw_arg (k := 4) hx hb hXs hbl hS hl hi hL (by decide) (by decide +kernel) dL_law_459 dL_law_460 dL_law_462 dL_law_463 dL_law_464 ?_
  obtain ⟨_, ⟨rfl, tc_, mc_⟩, o_x⟩ := hH s.heap.size _ k1
  refine va_calli (va_runV (As := [.int (xs (i + 1)), .int (xs (i + 2)), .int (xs (i + 3)), .int (xs (i + 4))]) (rest := []) ⟨hx, hb, hml, hown, hts2⟩ (c_X11_sheet l g Ty G H.size s.heap.size (xs (i + 1)) (xs (i + 2)) (xs (i + 3)) (xs (i + 4)) k1 hD1) (cwV 4 hts2 (gwV mw_595 mw_596 mw_597 mw_76 mw_598) rfl rfl rfl hv_X11_sheet ⟨Nat.le_of_ble_eq_true rfl, Nat.le_of_ble_eq_true rfl⟩) ⟨PcT_blind, hg_recv hK o_x rfl, PcT_pre hK hH⟩ rfl rfl hl.1 rfl (lv_room (Nat.le_of_ble_eq_true rfl)) dL_law_465 ⟨by show _ ≤ 600002; omega, by show _ ≤ 7302232; omega⟩) hS (fun q _ h => af_in hN hS.1 q h) (fun q h => af_in hN hS.1 q h) (fun r_1 u_1 t_1 H_1 locs_1 ht_1 hv_1 hp_1 hB_1 hz_1 hk_1 hS_1 => ?_)
  obtain ⟨Ty_1, eT_⟩ : ∃ z, z = u_1.1 := ⟨_, rfl⟩
  obtain ⟨G_1, eG_⟩ : ∃ z, z = u_1.2 := ⟨_, rfl⟩
  have hH_1 : HT g Ty_1 G_1 H_1 := by rw [← ht_1, eT_, eG_]; exact hB_1
  have eT : Ty_1 = Ty := by rw [eT_]; exact hp_1.1
  have hF_1 : FR [21] [] [] G G_1 := by rw [eG_]; exact hp_1.2.1
  have q_1 := hp_1.2.2
  rw [ro_71, ro_72, nu_20, (nu_ 21 (by decide))] at q_1
  have e_1 := (congrArg Prod.fst q_1).symm
  have k2_1 := k2
  have hN_1 := hN
  rw [← eT] at k2_1 hN_1
  have hI_1 : OI g 1 G_1 := hI.frc hF_1 (by decide) rfl trivial trivial trivial trivial
  refine lv_aload_n hx hb dL_law_468 rfl (lv_at hl 2 rfl) ?_
  refine lw_arg (k := 1) hx hb hXs hbl hS_1 hl hi hL (by decide) (by decide +kernel) dL_law_469 dL_law_470 dL_law_472 dL_law_473 dL_law_474 ?_
  refine lw_arg (k := 2) hx hb hXs hbl hS_1 hl hi hL (by decide) (by decide +kernel) dL_law_475 dL_law_476 dL_law_478 dL_law_479 dL_law_480 ?_
  refine lw_arg (k := 3) hx hb hXs hbl hS_1 hl hi hL (by decide) (by decide +kernel) dL_law_481 dL_law_482 dL_law_484 dL_law_485 dL_law_486 ?_
  refine lw_arg (k := 4) hx hb hXs hbl hS_1 hl hi hL (by decide) (by decide +kernel) dL_law_487 dL_law_488 dL_law_490 dL_law_491 dL_law_492 ?_
  obtain ⟨_, ⟨rfl, tm_, mk_⟩, o_m⟩ := hH_1 _ _ k2_1
  refine va_calli (va_runV (As := [.int (xs (i + 1)), .int (xs (i + 2)), .int (xs (i + 3)), .int (xs (i + 4))]) (rest := [.int r_1]) ⟨hx, hb, hml, hown, hts2⟩ (c_X12_sheet_x l g Ty_1 G_1 _ (s.heap.size + 40) (xs (i + 1)) (xs (i + 2)) (xs (i + 3)) (xs (i + 4)) k2_1 1 hI_1 (by omega) hLD) (cwV 4 hts2 (gwV mw_1538 mw_1539 mw_1540 mw_88 mw_1541) rfl rfl rfl hv_X12_sheet ⟨Nat.le_of_ble_eq_true rfl, Nat.le_of_ble_eq_true rfl⟩) ⟨PcT_blind, hg_recv hK o_m rfl, PcT_pre hK hH_1⟩ rfl rfl hl.1 rfl (lv_room (Nat.le_of_ble_eq_true rfl)) dL_law_493 ⟨by show _ ≤ 600002; omega, by show _ ≤ 7302232; omega⟩) hS_1 (fun q _ h => af_in hN_1 hS_1.1 q h) (fun q h => af_in hN_1 hS_1.1 q h) (fun r_2 u_2 t_2 H_2 locs_2 ht_2 hv_2 hp_2 hB_2 hz_2 hk_2 hS_2 => ?_)
  have q_2 := hp_2.2.2.2
  rw [((hF_1.2.1 _ trivial).trans ro_100)] at q_2
  have e_2 := (congrArg Prod.fst q_2).symm
  have hr_2 : r_1 = r_2 := e_1.trans ((fr_sheet (xs (i + 1)) (xs (i + 2)) (xs (i + 3)) (xs (i + 4))).trans e_2.symm)
  refine lv_icmp_eq (tgt := 1564) hx hb dL_law_496 (by decide) (fun _ => ?_) (fun q_ => absurd hr_2 q_)
  exact W.widen (k := cells + 160) (n := slots + 3160) (by omega) (by omega) (kk _ _ _ hS_2 hl)
set_option maxHeartbeats 4000000 in
set_option maxRecDepth 100000 in
theorem lc_7 {Ty : TyM} {G : Gh} (hX : LcX p l s m meth c b L xs g i cells slots) (hl : lv_has ls 8 (lvL s b i)) (hW : LW g s.heap.size Ty G H) (hS : va_S (fun q => s.heap.size ≤ q) s.heap H locs) (kk : LcT p l e s m below meth c b i cells slots 1564 Q) : W p l e room_1 s m #[Value.ref b] below meth c H locs cells slots Q (F0 m 501 ls []) := by
  obtain ⟨hst, hL, C0, E0, hi, hc, hs⟩ := hX
  obtain ⟨hx, hb, hr, hml, hown, hts, hXs, hbl, hlocks, hgv⟩ := id C0
  obtain ⟨hK, hO, hXO, hLD, h51, hLE, hD1⟩ := id E0
  have hown : s.vm.findClass "MountPeersLaw" = some m.cls := hown
  have hts2 := lw_g2 hts
  obtain ⟨hH, hI, ⟨hE, hR⟩, hFS, k1, k2, k3, ⟨fo, oo⟩, hN⟩ := id hW
  obtain ⟨⟨ro_70, ro_71, ro_72, ro_73, ro_74⟩, nu_, nu_20, nu_23, ro_100, ro_z⟩ := id hFS
  refine lv_aload_n hx hb dL_law_501 rfl (lv_at hl 3 rfl) ?_
  refine lw_arg (k := 1) hx hb hXs hbl hS hl hi hL (by decide) (by decide +kernel) dL_law_502 dL_law_503 dL_law_505 dL_law_506 dL_law_507 ?_
  refine lw_arg (k := 2) hx hb hXs hbl hS hl hi hL (by decide) (by decide +kernel) dL_law_508 dL_law_509 dL_law_511 dL_law_512 dL_law_513 ?_
  obtain ⟨_, ⟨rfl, tc_, mc_⟩, o_x⟩ := hH s.heap.size _ k1
  refine va_calli (va_runV (As := [.int (xs (i + 1)), .int (xs (i + 2))]) (rest := []) ⟨hx, hb, hml, hown, hts2⟩ (c_X11_mounts l g Ty G H.size s.heap.size (xs (i + 1)) (xs (i + 2)) k1 hD1 (nu_ 24 (by decide))) (cwV 2 hts2 (gwV mw_624 mw_625 mw_626 mw_76 mw_627) rfl rfl rfl hv_X11_mounts ⟨Nat.le_of_ble_eq_true rfl, Nat.le_of_ble_eq_true rfl⟩) ⟨PcT_blind, hg_recv hK o_x rfl, PcT_pre hK hH⟩ rfl rfl hl.1 rfl (lv_room (Nat.le_of_ble_eq_true rfl)) dL_law_514 ⟨by show _ ≤ 600002; omega, by show _ ≤ 7302232; omega⟩) hS (fun q _ h => af_in hN hS.1 q h) (fun q h => af_in hN hS.1 q h) (fun r_1 u_1 t_1 H_1 locs_1 ht_1 hv_1 hp_1 hB_1 hz_1 hk_1 hS_1 => ?_)
  obtain ⟨Ty_1, eT_⟩ : ∃ z, z = u_1.1 := ⟨_, rfl⟩
  obtain ⟨G_1, eG_⟩ : ∃ z, z = u_1.2 := ⟨_, rfl⟩
  have hH_1 : HT g Ty_1 G_1 H_1 := by rw [← ht_1, eT_, eG_]; exact hB_1
  have hX_1 : Ext H.size Ty Ty_1 := by rw [eT_]; exact hp_1.1
  have hF_1 : FR [20, 22, 23, 27, 28] [(g.2.2 70), (g.2.2 71), (g.2.2 72), (g.2.2 73)] [] G G_1 := by rw [eG_]; exact hp_1.2.1
  have q_1 := hp_1.2.2
  rw [ro_70, ro_71, ro_72, ro_73, nu_20, (nu_ 22 (by decide)), nu_23] at q_1
  have e_1 := (congrArg Prod.fst q_1).symm
  have k2_1 := hX_1.1 _ _ k2
  have hN_1 := ext_in hX_1 hN hS.1
  have hI_1 : OI g 1 G_1 := hI.frc hF_1 (by decide) rfl ⟨hD1 100 (by decide) 70 (by decide) (by decide), hD1 100 (by decide) 71 (by decide) (by decide), hD1 100 (by decide) 72 (by decide) (by decide), hD1 100 (by decide) 73 (by decide) (by decide), trivial⟩ ⟨hD1 121 (by decide) 70 (by decide) (by decide), hD1 121 (by decide) 71 (by decide) (by decide), hD1 121 (by decide) 72 (by decide) (by decide), hD1 121 (by decide) 73 (by decide) (by decide), trivial⟩ ⟨hD1 140 (by decide) 70 (by decide) (by decide), hD1 140 (by decide) 71 (by decide) (by decide), hD1 140 (by decide) 72 (by decide) (by decide), hD1 140 (by decide) 73 (by decide) (by decide), trivial⟩ ⟨hD1 141 (by decide) 70 (by decide) (by decide), hD1 141 (by decide) 71 (by decide) (by decide), hD1 141 (by decide) 72 (by decide) (by decide), hD1 141 (by decide) 73 (by decide) (by decide), trivial⟩
  refine lv_aload_n hx hb dL_law_517 rfl (lv_at hl 2 rfl) ?_
  refine lw_arg (k := 1) hx hb hXs hbl hS_1 hl hi hL (by decide) (by decide +kernel) dL_law_518 dL_law_519 dL_law_521 dL_law_522 dL_law_523 ?_
  refine lw_arg (k := 2) hx hb hXs hbl hS_1 hl hi hL (by decide) (by decide +kernel) dL_law_524 dL_law_525 dL_law_527 dL_law_528 dL_law_529 ?_
  obtain ⟨_, ⟨rfl, tm_, mk_⟩, o_m⟩ := hH_1 _ _ k2_1
  refine va_calli (va_runV (As := [.int (xs (i + 1)), .int (xs (i + 2))]) (rest := [.int r_1]) ⟨hx, hb, hml, hown, hts2⟩ (c_X12_mounts_x l g Ty_1 G_1 _ (s.heap.size + 40) (xs (i + 1)) (xs (i + 2)) k2_1 1 hI_1 (by omega) hLD) (cwV 2 hts2 (gwV mw_1542 mw_1543 mw_1544 mw_88 mw_1545) rfl rfl rfl hv_X12_mounts ⟨Nat.le_of_ble_eq_true rfl, Nat.le_of_ble_eq_true rfl⟩) ⟨PcT_blind, hg_recv hK o_m rfl, PcT_pre hK hH_1⟩ rfl rfl hl.1 rfl (lv_room (Nat.le_of_ble_eq_true rfl)) dL_law_530 ⟨by show _ ≤ 600002; omega, by show _ ≤ 7302232; omega⟩) hS_1 (fun q _ h => af_in hN_1 hS_1.1 q h) (fun q h => af_in hN_1 hS_1.1 q h) (fun r_2 u_2 t_2 H_2 locs_2 ht_2 hv_2 hp_2 hB_2 hz_2 hk_2 hS_2 => ?_)
  have q_2 := hp_2.2.2.2
  rw [((hF_1.2.1 _ ⟨hD1 100 (by decide) 70 (by decide) (by decide), hD1 100 (by decide) 71 (by decide) (by decide), hD1 100 (by decide) 72 (by decide) (by decide), hD1 100 (by decide) 73 (by decide) (by decide), trivial⟩).trans ro_100), ((hF_1.2.1 _ ⟨hD1 111 (by decide) 70 (by decide) (by decide), hD1 111 (by decide) 71 (by decide) (by decide), hD1 111 (by decide) 72 (by decide) (by decide), hD1 111 (by decide) 73 (by decide) (by decide), trivial⟩).trans (ro_z 111 (by decide))), ((hF_1.2.1 _ ⟨hD1 125 (by decide) 70 (by decide) (by decide), hD1 125 (by decide) 71 (by decide) (by decide), hD1 125 (by decide) 72 (by decide) (by decide), hD1 125 (by decide) 73 (by decide) (by decide), trivial⟩).trans (ro_z 125 (by decide))), ((hF_1.2.1 _ ⟨hD1 126 (by decide) 70 (by decide) (by decide), hD1 126 (by decide) 71 (by decide) (by decide), hD1 126 (by decide) 72 (by decide) (by decide), hD1 126 (by decide) 73 (by decide) (by decide), trivial⟩).trans (ro_z 126 (by decide))), ((hF_1.1 113 (by decide)).trans (nu_ 113 (by decide))), ((hF_1.1 127 (by decide)).trans (nu_ 127 (by decide)))] at q_2
  have e_2 := (congrArg Prod.fst q_2).symm
  have hr_2 : r_1 = r_2 := e_1.trans ((fr_mounts (xs (i + 1)) (xs (i + 2))).trans e_2.symm)
  refine lv_icmp_eq (tgt := 1564) hx hb dL_law_533 (by decide) (fun _ => ?_) (fun q_ => absurd hr_2 q_)
  exact W.widen (k := cells + 160) (n := slots + 3160) (by omega) (by omega) (kk _ _ _ hS_2 hl)
set_option maxHeartbeats 4000000 in
set_option maxRecDepth 100000 in
theorem lc_8 {Ty : TyM} {G : Gh} (hX : LcX p l s m meth c b L xs g i cells slots) (hl : lv_has ls 8 (lvL s b i)) (hW : LW g s.heap.size Ty G H) (hS : va_S (fun q => s.heap.size ≤ q) s.heap H locs) (kk : LcT p l e s m below meth c b i cells slots 1564 Q) : W p l e room_1 s m #[Value.ref b] below meth c H locs cells slots Q (F0 m 538 ls []) := by
  obtain ⟨hst, hL, C0, E0, hi, hc, hs⟩ := hX
  obtain ⟨hx, hb, hr, hml, hown, hts, hXs, hbl, hlocks, hgv⟩ := id C0
  obtain ⟨hK, hO, hXO, hLD, h51, hLE, hD1⟩ := id E0
  have hown : s.vm.findClass "MountPeersLaw" = some m.cls := hown
  have hts2 := lw_g2 hts
  obtain ⟨hH, hI, ⟨hE, hR⟩, hFS, k1, k2, k3, ⟨fo, oo⟩, hN⟩ := id hW
  obtain ⟨⟨ro_70, ro_71, ro_72, ro_73, ro_74⟩, nu_, nu_20, nu_23, ro_100, ro_z⟩ := id hFS
  refine lv_aload_n hx hb dL_law_538 rfl (lv_at hl 3 rfl) ?_
  refine lw_arg (k := 1) hx hb hXs hbl hS hl hi hL (by decide) (by decide +kernel) dL_law_539 dL_law_540 dL_law_542 dL_law_543 dL_law_544 ?_
  refine lw_arg (k := 2) hx hb hXs hbl hS hl hi hL (by decide) (by decide +kernel) dL_law_545 dL_law_546 dL_law_548 dL_law_549 dL_law_550 ?_
  refine lw_arg (k := 3) hx hb hXs hbl hS hl hi hL (by decide) (by decide +kernel) dL_law_551 dL_law_552 dL_law_554 dL_law_555 dL_law_556 ?_
  obtain ⟨_, ⟨rfl, tc_, mc_⟩, o_x⟩ := hH s.heap.size _ k1
  refine va_calli (va_runV (As := [.int (xs (i + 1)), .int (xs (i + 2)), .int (xs (i + 3))]) (rest := []) ⟨hx, hb, hml, hown, hts2⟩ (c_X11_binds l g Ty G H.size s.heap.size (xs (i + 1)) (xs (i + 2)) (xs (i + 3)) k1 hD1 (nu_ 24 (by decide))) (cwV 3 hts2 (gwV mw_757 mw_758 mw_759 mw_76 mw_760) rfl rfl rfl hv_X11_binds ⟨Nat.le_of_ble_eq_true rfl, Nat.le_of_ble_eq_true rfl⟩) ⟨PcT_blind, hg_recv hK o_x rfl, PcT_pre hK hH⟩ rfl rfl hl.1 rfl (lv_room (Nat.le_of_ble_eq_true rfl)) dL_law_557 ⟨by show _ ≤ 600002; omega, by show _ ≤ 7302232; omega⟩) hS (fun q _ h => af_in hN hS.1 q h) (fun q h => af_in hN hS.1 q h) (fun r_1 u_1 t_1 H_1 locs_1 ht_1 hv_1 hp_1 hB_1 hz_1 hk_1 hS_1 => ?_)
  obtain ⟨Ty_1, eT_⟩ : ∃ z, z = u_1.1 := ⟨_, rfl⟩
  obtain ⟨G_1, eG_⟩ : ∃ z, z = u_1.2 := ⟨_, rfl⟩
  have hH_1 : HT g Ty_1 G_1 H_1 := by rw [← ht_1, eT_, eG_]; exact hB_1
  have hX_1 : Ext H.size Ty Ty_1 := by rw [eT_]; exact hp_1.1
  have hF_1 : FR [20, 22, 23, 27, 28] [(g.2.2 70), (g.2.2 71), (g.2.2 72), (g.2.2 73)] [] G G_1 := by rw [eG_]; exact hp_1.2.1
  have q_1 := hp_1.2.2
  rw [ro_70, ro_71, ro_72, ro_73, nu_20, (nu_ 21 (by decide)), (nu_ 22 (by decide)), nu_23] at q_1
  have e_1 := (congrArg Prod.fst q_1).symm
  have k2_1 := hX_1.1 _ _ k2
  have hN_1 := ext_in hX_1 hN hS.1
  have hI_1 : OI g 1 G_1 := hI.frc hF_1 (by decide) rfl ⟨hD1 100 (by decide) 70 (by decide) (by decide), hD1 100 (by decide) 71 (by decide) (by decide), hD1 100 (by decide) 72 (by decide) (by decide), hD1 100 (by decide) 73 (by decide) (by decide), trivial⟩ ⟨hD1 121 (by decide) 70 (by decide) (by decide), hD1 121 (by decide) 71 (by decide) (by decide), hD1 121 (by decide) 72 (by decide) (by decide), hD1 121 (by decide) 73 (by decide) (by decide), trivial⟩ ⟨hD1 140 (by decide) 70 (by decide) (by decide), hD1 140 (by decide) 71 (by decide) (by decide), hD1 140 (by decide) 72 (by decide) (by decide), hD1 140 (by decide) 73 (by decide) (by decide), trivial⟩ ⟨hD1 141 (by decide) 70 (by decide) (by decide), hD1 141 (by decide) 71 (by decide) (by decide), hD1 141 (by decide) 72 (by decide) (by decide), hD1 141 (by decide) 73 (by decide) (by decide), trivial⟩
  refine lv_aload_n hx hb dL_law_560 rfl (lv_at hl 2 rfl) ?_
  refine lw_arg (k := 1) hx hb hXs hbl hS_1 hl hi hL (by decide) (by decide +kernel) dL_law_561 dL_law_562 dL_law_564 dL_law_565 dL_law_566 ?_
  refine lw_arg (k := 2) hx hb hXs hbl hS_1 hl hi hL (by decide) (by decide +kernel) dL_law_567 dL_law_568 dL_law_570 dL_law_571 dL_law_572 ?_
  refine lw_arg (k := 3) hx hb hXs hbl hS_1 hl hi hL (by decide) (by decide +kernel) dL_law_573 dL_law_574 dL_law_576 dL_law_577 dL_law_578 ?_
  obtain ⟨_, ⟨rfl, tm_, mk_⟩, o_m⟩ := hH_1 _ _ k2_1
  refine va_calli (va_runV (As := [.int (xs (i + 1)), .int (xs (i + 2)), .int (xs (i + 3))]) (rest := [.int r_1]) ⟨hx, hb, hml, hown, hts2⟩ (c_X12_binds_x l g Ty_1 G_1 _ (s.heap.size + 40) (xs (i + 1)) (xs (i + 2)) (xs (i + 3)) k2_1 1 hI_1 (by omega) hLD) (cwV 3 hts2 (gwV mw_1609 mw_1610 mw_1611 mw_88 mw_1612) rfl rfl rfl hv_X12_binds ⟨Nat.le_of_ble_eq_true rfl, Nat.le_of_ble_eq_true rfl⟩) ⟨PcT_blind, hg_recv hK o_m rfl, PcT_pre hK hH_1⟩ rfl rfl hl.1 rfl (lv_room (Nat.le_of_ble_eq_true rfl)) dL_law_579 ⟨by show _ ≤ 600002; omega, by show _ ≤ 7302232; omega⟩) hS_1 (fun q _ h => af_in hN_1 hS_1.1 q h) (fun q h => af_in hN_1 hS_1.1 q h) (fun r_2 u_2 t_2 H_2 locs_2 ht_2 hv_2 hp_2 hB_2 hz_2 hk_2 hS_2 => ?_)
  have q_2 := hp_2.2.2.2
  rw [((hF_1.2.1 _ ⟨hD1 100 (by decide) 70 (by decide) (by decide), hD1 100 (by decide) 71 (by decide) (by decide), hD1 100 (by decide) 72 (by decide) (by decide), hD1 100 (by decide) 73 (by decide) (by decide), trivial⟩).trans ro_100), ((hF_1.2.1 _ ⟨hD1 111 (by decide) 70 (by decide) (by decide), hD1 111 (by decide) 71 (by decide) (by decide), hD1 111 (by decide) 72 (by decide) (by decide), hD1 111 (by decide) 73 (by decide) (by decide), trivial⟩).trans (ro_z 111 (by decide))), ((hF_1.2.1 _ ⟨hD1 125 (by decide) 70 (by decide) (by decide), hD1 125 (by decide) 71 (by decide) (by decide), hD1 125 (by decide) 72 (by decide) (by decide), hD1 125 (by decide) 73 (by decide) (by decide), trivial⟩).trans (ro_z 125 (by decide))), ((hF_1.2.1 _ ⟨hD1 126 (by decide) 70 (by decide) (by decide), hD1 126 (by decide) 71 (by decide) (by decide), hD1 126 (by decide) 72 (by decide) (by decide), hD1 126 (by decide) 73 (by decide) (by decide), trivial⟩).trans (ro_z 126 (by decide))), ((hF_1.1 113 (by decide)).trans (nu_ 113 (by decide))), ((hF_1.1 127 (by decide)).trans (nu_ 127 (by decide)))] at q_2
  have e_2 := (congrArg Prod.fst q_2).symm
  have hr_2 : r_1 = r_2 := e_1.trans ((fr_binds (xs (i + 1)) (xs (i + 2)) (xs (i + 3))).trans e_2.symm)
  refine lv_icmp_eq (tgt := 1564) hx hb dL_law_582 (by decide) (fun _ => ?_) (fun q_ => absurd hr_2 q_)
  exact W.widen (k := cells + 160) (n := slots + 3160) (by omega) (by omega) (kk _ _ _ hS_2 hl)
set_option maxHeartbeats 4000000 in
set_option maxRecDepth 100000 in
theorem lc_9 {Ty : TyM} {G : Gh} (hX : LcX p l s m meth c b L xs g i cells slots) (hl : lv_has ls 8 (lvL s b i)) (hW : LW g s.heap.size Ty G H) (hS : va_S (fun q => s.heap.size ≤ q) s.heap H locs) (kk : LcT p l e s m below meth c b i cells slots 1564 Q) : W p l e room_1 s m #[Value.ref b] below meth c H locs cells slots Q (F0 m 587 ls []) := by
  obtain ⟨hst, hL, C0, E0, hi, hc, hs⟩ := hX
  obtain ⟨hx, hb, hr, hml, hown, hts, hXs, hbl, hlocks, hgv⟩ := id C0
  obtain ⟨hK, hO, hXO, hLD, h51, hLE, hD1⟩ := id E0
  have hown : s.vm.findClass "MountPeersLaw" = some m.cls := hown
  have hts2 := lw_g2 hts
  obtain ⟨hH, hI, ⟨hE, hR⟩, hFS, k1, k2, k3, ⟨fo, oo⟩, hN⟩ := id hW
  obtain ⟨⟨ro_70, ro_71, ro_72, ro_73, ro_74⟩, nu_, nu_20, nu_23, ro_100, ro_z⟩ := id hFS
  refine lv_aload_n hx hb dL_law_587 rfl (lv_at hl 3 rfl) ?_
  refine lw_arg (k := 1) hx hb hXs hbl hS hl hi hL (by decide) (by decide +kernel) dL_law_588 dL_law_589 dL_law_591 dL_law_592 dL_law_593 ?_
  refine lw_arg (k := 2) hx hb hXs hbl hS hl hi hL (by decide) (by decide +kernel) dL_law_594 dL_law_595 dL_law_597 dL_law_598 dL_law_599 ?_
  refine lw_arg (k := 3) hx hb hXs hbl hS hl hi hL (by decide) (by decide +kernel) dL_law_600 dL_law_601 dL_law_603 dL_law_604 dL_law_605 ?_
  obtain ⟨_, ⟨rfl, tc_, mc_⟩, o_x⟩ := hH s.heap.size _ k1
  refine va_calli (va_runV (As := [.int (xs (i + 1)), .int (xs (i + 2)), .int (xs (i + 3))]) (rest := []) ⟨hx, hb, hml, hown, hts2⟩ (c_X11_trees l g Ty G H.size s.heap.size (xs (i + 1)) (xs (i + 2)) (xs (i + 3)) k1 hD1 nu_20 (nu_ 21 (by decide)) ro_70 ro_71 ro_72) (cwV 3 hts2 (gwV mw_770 mw_771 mw_772 mw_76 mw_773) rfl rfl rfl hv_X11_trees ⟨Nat.le_of_ble_eq_true rfl, Nat.le_of_ble_eq_true rfl⟩) ⟨PcT_blind, hg_recv hK o_x rfl, PcT_pre hK hH⟩ rfl rfl hl.1 rfl (lv_room (Nat.le_of_ble_eq_true rfl)) dL_law_606 ⟨by show _ ≤ 600002; omega, by show _ ≤ 7302232; omega⟩) hS (fun q _ h => af_in hN hS.1 q h) (fun q h => af_in hN hS.1 q h) (fun r_1 u_1 t_1 H_1 locs_1 ht_1 hv_1 hp_1 hB_1 hz_1 hk_1 hS_1 => ?_)
  obtain ⟨Ty_1, eT_⟩ : ∃ z, z = u_1.1 := ⟨_, rfl⟩
  obtain ⟨G_1, eG_⟩ : ∃ z, z = u_1.2 := ⟨_, rfl⟩
  have hH_1 : HT g Ty_1 G_1 H_1 := by rw [← ht_1, eT_, eG_]; exact hB_1
  have hX_1 : Ext H.size Ty Ty_1 := by rw [eT_]; exact hp_1.1
  have hF_1 : FR [20, 22, 27, 28] [(g.2.2 70), (g.2.2 71), (g.2.2 72)] [] G G_1 := by rw [eG_]; exact hp_1.2.1
  have q_1 := hp_1.2.2
  rw [(nu_ 22 (by decide))] at q_1
  have e_1 := (congrArg Prod.fst q_1).symm
  have k2_1 := hX_1.1 _ _ k2
  have hN_1 := ext_in hX_1 hN hS.1
  have hI_1 : OI g 1 G_1 := hI.frc hF_1 (by decide) rfl ⟨hD1 100 (by decide) 70 (by decide) (by decide), hD1 100 (by decide) 71 (by decide) (by decide), hD1 100 (by decide) 72 (by decide) (by decide), trivial⟩ ⟨hD1 121 (by decide) 70 (by decide) (by decide), hD1 121 (by decide) 71 (by decide) (by decide), hD1 121 (by decide) 72 (by decide) (by decide), trivial⟩ ⟨hD1 140 (by decide) 70 (by decide) (by decide), hD1 140 (by decide) 71 (by decide) (by decide), hD1 140 (by decide) 72 (by decide) (by decide), trivial⟩ ⟨hD1 141 (by decide) 70 (by decide) (by decide), hD1 141 (by decide) 71 (by decide) (by decide), hD1 141 (by decide) 72 (by decide) (by decide), trivial⟩
  refine lv_aload_n hx hb dL_law_609 rfl (lv_at hl 2 rfl) ?_
  refine lw_arg (k := 1) hx hb hXs hbl hS_1 hl hi hL (by decide) (by decide +kernel) dL_law_610 dL_law_611 dL_law_613 dL_law_614 dL_law_615 ?_
  refine lw_arg (k := 2) hx hb hXs hbl hS_1 hl hi hL (by decide) (by decide +kernel) dL_law_616 dL_law_617 dL_law_619 dL_law_620 dL_law_621 ?_
  refine lw_arg (k := 3) hx hb hXs hbl hS_1 hl hi hL (by decide) (by decide +kernel) dL_law_622 dL_law_623 dL_law_625 dL_law_626 dL_law_627 ?_
  obtain ⟨_, ⟨rfl, tm_, mk_⟩, o_m⟩ := hH_1 _ _ k2_1
  refine va_calli (va_runV (As := [.int (xs (i + 1)), .int (xs (i + 2)), .int (xs (i + 3))]) (rest := [.int r_1]) ⟨hx, hb, hml, hown, hts2⟩ (c_X12_trees_x l g Ty_1 G_1 _ (s.heap.size + 40) (xs (i + 1)) (xs (i + 2)) (xs (i + 3)) k2_1 1 hI_1 (by omega) hLD) (cwV 3 hts2 (gwV mw_1617 mw_1618 mw_1619 mw_88 mw_1620) rfl rfl rfl hv_X12_trees ⟨Nat.le_of_ble_eq_true rfl, Nat.le_of_ble_eq_true rfl⟩) ⟨PcT_blind, hg_recv hK o_m rfl, PcT_pre hK hH_1⟩ rfl rfl hl.1 rfl (lv_room (Nat.le_of_ble_eq_true rfl)) dL_law_628 ⟨by show _ ≤ 600002; omega, by show _ ≤ 7302232; omega⟩) hS_1 (fun q _ h => af_in hN_1 hS_1.1 q h) (fun q h => af_in hN_1 hS_1.1 q h) (fun r_2 u_2 t_2 H_2 locs_2 ht_2 hv_2 hp_2 hB_2 hz_2 hk_2 hS_2 => ?_)
  have q_2 := hp_2.2.2.2
  rw [((hF_1.2.1 _ ⟨hD1 100 (by decide) 70 (by decide) (by decide), hD1 100 (by decide) 71 (by decide) (by decide), hD1 100 (by decide) 72 (by decide) (by decide), trivial⟩).trans ro_100), ((hF_1.2.1 _ ⟨hD1 111 (by decide) 70 (by decide) (by decide), hD1 111 (by decide) 71 (by decide) (by decide), hD1 111 (by decide) 72 (by decide) (by decide), trivial⟩).trans (ro_z 111 (by decide))), ((hF_1.2.1 _ ⟨hD1 125 (by decide) 70 (by decide) (by decide), hD1 125 (by decide) 71 (by decide) (by decide), hD1 125 (by decide) 72 (by decide) (by decide), trivial⟩).trans (ro_z 125 (by decide))), ((hF_1.2.1 _ ⟨hD1 126 (by decide) 70 (by decide) (by decide), hD1 126 (by decide) 71 (by decide) (by decide), hD1 126 (by decide) 72 (by decide) (by decide), trivial⟩).trans (ro_z 126 (by decide))), ((hF_1.1 113 (by decide)).trans (nu_ 113 (by decide))), ((hF_1.1 127 (by decide)).trans (nu_ 127 (by decide)))] at q_2
  have e_2 := q_2.symm
  have hr_2 : r_1 = r_2 := e_1.trans ((fr_trees (xs (i + 1)) (xs (i + 2)) (xs (i + 3))).trans e_2.symm)
  refine lv_icmp_eq (tgt := 1564) hx hb dL_law_631 (by decide) (fun _ => ?_) (fun q_ => absurd hr_2 q_)
  exact W.widen (k := cells + 160) (n := slots + 3160) (by omega) (by omega) (kk _ _ _ hS_2 hl)
set_option maxHeartbeats 4000000 in
set_option maxRecDepth 100000 in
theorem lc_10 {Ty : TyM} {G : Gh} (hX : LcX p l s m meth c b L xs g i cells slots) (hl : lv_has ls 8 (lvL s b i)) (hW : LW g s.heap.size Ty G H) (hS : va_S (fun q => s.heap.size ≤ q) s.heap H locs) (kk : LcT p l e s m below meth c b i cells slots 1564 Q) : W p l e room_1 s m #[Value.ref b] below meth c H locs cells slots Q (F0 m 636 ls []) := by
  obtain ⟨hst, hL, C0, E0, hi, hc, hs⟩ := hX
  obtain ⟨hx, hb, hr, hml, hown, hts, hXs, hbl, hlocks, hgv⟩ := id C0
  obtain ⟨hK, hO, hXO, hLD, h51, hLE, hD1⟩ := id E0
  have hown : s.vm.findClass "MountPeersLaw" = some m.cls := hown
  have hts2 := lw_g2 hts
  obtain ⟨hH, hI, ⟨hE, hR⟩, hFS, k1, k2, k3, ⟨fo, oo⟩, hN⟩ := id hW
  obtain ⟨⟨ro_70, ro_71, ro_72, ro_73, ro_74⟩, nu_, nu_20, nu_23, ro_100, ro_z⟩ := id hFS
  refine lv_aload_n hx hb dL_law_636 rfl (lv_at hl 3 rfl) ?_
  refine lw_arg (k := 1) hx hb hXs hbl hS hl hi hL (by decide) (by decide +kernel) dL_law_637 dL_law_638 dL_law_640 dL_law_641 dL_law_642 ?_
  refine lw_arg (k := 2) hx hb hXs hbl hS hl hi hL (by decide) (by decide +kernel) dL_law_643 dL_law_644 dL_law_646 dL_law_647 dL_law_648 ?_
  obtain ⟨_, ⟨rfl, tc_, mc_⟩, o_x⟩ := hH s.heap.size _ k1
  refine va_calli (va_runV (As := [.int (xs (i + 1)), .int (xs (i + 2))]) (rest := []) ⟨hx, hb, hml, hown, hts2⟩ (c_X11_makes l g Ty G H.size s.heap.size (xs (i + 1)) (xs (i + 2)) k1 hD1 (nu_ 24 (by decide))) (cwV 2 hts2 (gwV mw_788 mw_789 mw_790 mw_76 mw_791) rfl rfl rfl hv_X11_makes ⟨Nat.le_of_ble_eq_true rfl, Nat.le_of_ble_eq_true rfl⟩) ⟨PcT_blind, hg_recv hK o_x rfl, PcT_pre hK hH⟩ rfl rfl hl.1 rfl (lv_room (Nat.le_of_ble_eq_true rfl)) dL_law_649 ⟨by show _ ≤ 600002; omega, by show _ ≤ 7302232; omega⟩) hS (fun q _ h => af_in hN hS.1 q h) (fun q h => af_in hN hS.1 q h) (fun r_1 u_1 t_1 H_1 locs_1 ht_1 hv_1 hp_1 hB_1 hz_1 hk_1 hS_1 => ?_)
  obtain ⟨Ty_1, eT_⟩ : ∃ z, z = u_1.1 := ⟨_, rfl⟩
  obtain ⟨G_1, eG_⟩ : ∃ z, z = u_1.2 := ⟨_, rfl⟩
  have hH_1 : HT g Ty_1 G_1 H_1 := by rw [← ht_1, eT_, eG_]; exact hB_1
  have hX_1 : Ext H.size Ty Ty_1 := by rw [eT_]; exact hp_1.1
  have hF_1 : FR [21, 22, 23, 28] [(g.2.2 71), (g.2.2 72)] [] G G_1 := by rw [eG_]; exact hp_1.2.1
  have q_1 := hp_1.2.2
  rw [ro_71, ro_72, nu_20, (nu_ 21 (by decide)), (nu_ 22 (by decide)), nu_23] at q_1
  have e_1 := (congrArg Prod.fst q_1).symm
  have k2_1 := hX_1.1 _ _ k2
  have hN_1 := ext_in hX_1 hN hS.1
  have hI_1 : OI g 1 G_1 := hI.frc hF_1 (by decide) rfl ⟨hD1 100 (by decide) 71 (by decide) (by decide), hD1 100 (by decide) 72 (by decide) (by decide), trivial⟩ ⟨hD1 121 (by decide) 71 (by decide) (by decide), hD1 121 (by decide) 72 (by decide) (by decide), trivial⟩ ⟨hD1 140 (by decide) 71 (by decide) (by decide), hD1 140 (by decide) 72 (by decide) (by decide), trivial⟩ ⟨hD1 141 (by decide) 71 (by decide) (by decide), hD1 141 (by decide) 72 (by decide) (by decide), trivial⟩
  refine lv_aload_n hx hb dL_law_652 rfl (lv_at hl 2 rfl) ?_
  refine lw_arg (k := 1) hx hb hXs hbl hS_1 hl hi hL (by decide) (by decide +kernel) dL_law_653 dL_law_654 dL_law_656 dL_law_657 dL_law_658 ?_
  refine lw_arg (k := 2) hx hb hXs hbl hS_1 hl hi hL (by decide) (by decide +kernel) dL_law_659 dL_law_660 dL_law_662 dL_law_663 dL_law_664 ?_
  obtain ⟨_, ⟨rfl, tm_, mk_⟩, o_m⟩ := hH_1 _ _ k2_1
  refine va_calli (va_runV (As := [.int (xs (i + 1)), .int (xs (i + 2))]) (rest := [.int r_1]) ⟨hx, hb, hml, hown, hts2⟩ (c_X12_makes_x l g Ty_1 G_1 _ (s.heap.size + 40) (xs (i + 1)) (xs (i + 2)) k2_1 1 hI_1 (by omega) hLD) (cwV 2 hts2 (gwV mw_1636 mw_1637 mw_1638 mw_88 mw_1639) rfl rfl rfl hv_X12_makes ⟨Nat.le_of_ble_eq_true rfl, Nat.le_of_ble_eq_true rfl⟩) ⟨PcT_blind, hg_recv hK o_m rfl, PcT_pre hK hH_1⟩ rfl rfl hl.1 rfl (lv_room (Nat.le_of_ble_eq_true rfl)) dL_law_665 ⟨by show _ ≤ 600002; omega, by show _ ≤ 7302232; omega⟩) hS_1 (fun q _ h => af_in hN_1 hS_1.1 q h) (fun q h => af_in hN_1 hS_1.1 q h) (fun r_2 u_2 t_2 H_2 locs_2 ht_2 hv_2 hp_2 hB_2 hz_2 hk_2 hS_2 => ?_)
  have q_2 := hp_2.2.2.2
  rw [((hF_1.2.1 _ ⟨hD1 100 (by decide) 71 (by decide) (by decide), hD1 100 (by decide) 72 (by decide) (by decide), trivial⟩).trans ro_100)] at q_2
  have e_2 := (congrArg Prod.fst q_2).symm
  have hr_2 : r_1 = r_2 := e_1.trans ((fr_makes (xs (i + 1)) (xs (i + 2))).trans e_2.symm)
  refine lv_icmp_eq (tgt := 1564) hx hb dL_law_668 (by decide) (fun _ => ?_) (fun q_ => absurd hr_2 q_)
  exact W.widen (k := cells + 160) (n := slots + 3160) (by omega) (by omega) (kk _ _ _ hS_2 hl)
set_option maxHeartbeats 4000000 in
set_option maxRecDepth 100000 in
theorem lc_11 {Ty : TyM} {G : Gh} (hX : LcX p l s m meth c b L xs g i cells slots) (hl : lv_has ls 8 (lvL s b i)) (hW : LW g s.heap.size Ty G H) (hS : va_S (fun q => s.heap.size ≤ q) s.heap H locs) (kk : LcT p l e s m below meth c b i cells slots 1564 Q) : W p l e room_1 s m #[Value.ref b] below meth c H locs cells slots Q (F0 m 673 ls []) := by
  obtain ⟨hst, hL, C0, E0, hi, hc, hs⟩ := hX
  obtain ⟨hx, hb, hr, hml, hown, hts, hXs, hbl, hlocks, hgv⟩ := id C0
  obtain ⟨hK, hO, hXO, hLD, h51, hLE, hD1⟩ := id E0
  have hown : s.vm.findClass "MountPeersLaw" = some m.cls := hown
  have hts2 := lw_g2 hts
  obtain ⟨hH, hI, ⟨hE, hR⟩, hFS, k1, k2, k3, ⟨fo, oo⟩, hN⟩ := id hW
  obtain ⟨⟨ro_70, ro_71, ro_72, ro_73, ro_74⟩, nu_, nu_20, nu_23, ro_100, ro_z⟩ := id hFS
  refine lv_aload_n hx hb dL_law_673 rfl (lv_at hl 3 rfl) ?_
  refine lw_arg (k := 1) hx hb hXs hbl hS hl hi hL (by decide) (by decide +kernel) dL_law_674 dL_law_675 dL_law_677 dL_law_678 dL_law_679 ?_
  refine lw_arg (k := 2) hx hb hXs hbl hS hl hi hL (by decide) (by decide +kernel) dL_law_680 dL_law_681 dL_law_683 dL_law_684 dL_law_685 ?_
  obtain ⟨_, ⟨rfl, tc_, mc_⟩, o_x⟩ := hH s.heap.size _ k1
  refine va_calli (va_runV (As := [.int (xs (i + 1)), .int (xs (i + 2))]) (rest := []) ⟨hx, hb, hml, hown, hts2⟩ (c_X11_unmounts l g Ty G H.size s.heap.size (xs (i + 1)) (xs (i + 2)) k1 hD1 (nu_ 24 (by decide))) (cwV 2 hts2 (gwV mw_819 mw_820 mw_821 mw_76 mw_822) rfl rfl rfl hv_X11_unmounts ⟨Nat.le_of_ble_eq_true rfl, Nat.le_of_ble_eq_true rfl⟩) ⟨PcT_blind, hg_recv hK o_x rfl, PcT_pre hK hH⟩ rfl rfl hl.1 rfl (lv_room (Nat.le_of_ble_eq_true rfl)) dL_law_686 ⟨by show _ ≤ 600002; omega, by show _ ≤ 7302232; omega⟩) hS (fun q _ h => af_in hN hS.1 q h) (fun q h => af_in hN hS.1 q h) (fun r_1 u_1 t_1 H_1 locs_1 ht_1 hv_1 hp_1 hB_1 hz_1 hk_1 hS_1 => ?_)
  obtain ⟨Ty_1, eT_⟩ : ∃ z, z = u_1.1 := ⟨_, rfl⟩
  obtain ⟨G_1, eG_⟩ : ∃ z, z = u_1.2 := ⟨_, rfl⟩
  have hH_1 : HT g Ty_1 G_1 H_1 := by rw [← ht_1, eT_, eG_]; exact hB_1
  have hX_1 : Ext H.size Ty Ty_1 := by rw [eT_]; exact hp_1.1
  have hF_1 : FR [20, 21, 22, 27, 28] [(g.2.2 70), (g.2.2 71), (g.2.2 72)] [] G G_1 := by rw [eG_]; exact hp_1.2.1
  have q_1 := hp_1.2.2
  rw [ro_70, ro_71, ro_72, nu_20, (nu_ 21 (by decide)), (nu_ 22 (by decide))] at q_1
  have e_1 := (congrArg Prod.fst q_1).symm
  have k2_1 := hX_1.1 _ _ k2
  have hN_1 := ext_in hX_1 hN hS.1
  have hI_1 : OI g 1 G_1 := hI.frc hF_1 (by decide) rfl ⟨hD1 100 (by decide) 70 (by decide) (by decide), hD1 100 (by decide) 71 (by decide) (by decide), hD1 100 (by decide) 72 (by decide) (by decide), trivial⟩ ⟨hD1 121 (by decide) 70 (by decide) (by decide), hD1 121 (by decide) 71 (by decide) (by decide), hD1 121 (by decide) 72 (by decide) (by decide), trivial⟩ ⟨hD1 140 (by decide) 70 (by decide) (by decide), hD1 140 (by decide) 71 (by decide) (by decide), hD1 140 (by decide) 72 (by decide) (by decide), trivial⟩ ⟨hD1 141 (by decide) 70 (by decide) (by decide), hD1 141 (by decide) 71 (by decide) (by decide), hD1 141 (by decide) 72 (by decide) (by decide), trivial⟩
  refine lv_aload_n hx hb dL_law_689 rfl (lv_at hl 2 rfl) ?_
  refine lw_arg (k := 1) hx hb hXs hbl hS_1 hl hi hL (by decide) (by decide +kernel) dL_law_690 dL_law_691 dL_law_693 dL_law_694 dL_law_695 ?_
  refine lw_arg (k := 2) hx hb hXs hbl hS_1 hl hi hL (by decide) (by decide +kernel) dL_law_696 dL_law_697 dL_law_699 dL_law_700 dL_law_701 ?_
  obtain ⟨_, ⟨rfl, tm_, mk_⟩, o_m⟩ := hH_1 _ _ k2_1
  refine va_calli (va_runV (As := [.int (xs (i + 1)), .int (xs (i + 2))]) (rest := [.int r_1]) ⟨hx, hb, hml, hown, hts2⟩ (c_X12_unmounts_x l g Ty_1 G_1 _ (s.heap.size + 40) (xs (i + 1)) (xs (i + 2)) k2_1 1 hI_1 (by omega) hLD) (cwV 2 hts2 (gwV mw_1649 mw_1650 mw_1651 mw_88 mw_1652) rfl rfl rfl hv_X12_unmounts ⟨Nat.le_of_ble_eq_true rfl, Nat.le_of_ble_eq_true rfl⟩) ⟨PcT_blind, hg_recv hK o_m rfl, PcT_pre hK hH_1⟩ rfl rfl hl.1 rfl (lv_room (Nat.le_of_ble_eq_true rfl)) dL_law_702 ⟨by show _ ≤ 600002; omega, by show _ ≤ 7302232; omega⟩) hS_1 (fun q _ h => af_in hN_1 hS_1.1 q h) (fun q h => af_in hN_1 hS_1.1 q h) (fun r_2 u_2 t_2 H_2 locs_2 ht_2 hv_2 hp_2 hB_2 hz_2 hk_2 hS_2 => ?_)
  have q_2 := hp_2.2.2.2
  rw [((hF_1.2.1 _ ⟨hD1 100 (by decide) 70 (by decide) (by decide), hD1 100 (by decide) 71 (by decide) (by decide), hD1 100 (by decide) 72 (by decide) (by decide), trivial⟩).trans ro_100), ((hF_1.2.1 _ ⟨hD1 111 (by decide) 70 (by decide) (by decide), hD1 111 (by decide) 71 (by decide) (by decide), hD1 111 (by decide) 72 (by decide) (by decide), trivial⟩).trans (ro_z 111 (by decide))), ((hF_1.1 113 (by decide)).trans (nu_ 113 (by decide)))] at q_2
  have e_2 := (congrArg Prod.fst q_2).symm
  have hr_2 : r_1 = r_2 := e_1.trans ((fr_unmounts (xs (i + 1)) (xs (i + 2))).trans e_2.symm)
  refine lv_icmp_eq (tgt := 1564) hx hb dL_law_705 (by decide) (fun _ => ?_) (fun q_ => absurd hr_2 q_)
  exact W.widen (k := cells + 160) (n := slots + 3160) (by omega) (by omega) (kk _ _ _ hS_2 hl)
set_option maxHeartbeats 4000000 in
set_option maxRecDepth 100000 in
theorem lc_12 {Ty : TyM} {G : Gh} (hX : LcX p l s m meth c b L xs g i cells slots) (hl : lv_has ls 8 (lvL s b i)) (hW : LW g s.heap.size Ty G H) (hS : va_S (fun q => s.heap.size ≤ q) s.heap H locs) (kk : LcT p l e s m below meth c b i cells slots 1564 Q) : W p l e room_1 s m #[Value.ref b] below meth c H locs cells slots Q (F0 m 710 ls []) := by
  obtain ⟨hst, hL, C0, E0, hi, hc, hs⟩ := hX
  obtain ⟨hx, hb, hr, hml, hown, hts, hXs, hbl, hlocks, hgv⟩ := id C0
  obtain ⟨hK, hO, hXO, hLD, h51, hLE, hD1⟩ := id E0
  have hown : s.vm.findClass "MountPeersLaw" = some m.cls := hown
  have hts2 := lw_g2 hts
  obtain ⟨hH, hI, ⟨hE, hR⟩, hFS, k1, k2, k3, ⟨fo, oo⟩, hN⟩ := id hW
  obtain ⟨⟨ro_70, ro_71, ro_72, ro_73, ro_74⟩, nu_, nu_20, nu_23, ro_100, ro_z⟩ := id hFS
  refine lv_aload_n hx hb dL_law_710 rfl (lv_at hl 3 rfl) ?_
  refine lw_arg (k := 1) hx hb hXs hbl hS hl hi hL (by decide) (by decide +kernel) dL_law_711 dL_law_712 dL_law_714 dL_law_715 dL_law_716 ?_
  refine lw_arg (k := 2) hx hb hXs hbl hS hl hi hL (by decide) (by decide +kernel) dL_law_717 dL_law_718 dL_law_720 dL_law_721 dL_law_722 ?_
  refine lw_arg (k := 3) hx hb hXs hbl hS hl hi hL (by decide) (by decide +kernel) dL_law_723 dL_law_724 dL_law_726 dL_law_727 dL_law_728 ?_
  obtain ⟨_, ⟨rfl, tc_, mc_⟩, o_x⟩ := hH s.heap.size _ k1
  refine va_calli (va_runV (As := [.int (xs (i + 1)), .int (xs (i + 2)), .int (xs (i + 3))]) (rest := []) ⟨hx, hb, hml, hown, hts2⟩ (c_X11_moves l g Ty G H.size s.heap.size (xs (i + 1)) (xs (i + 2)) (xs (i + 3)) k1 hD1) (cwV 3 hts2 (gwV mw_836 mw_837 mw_838 mw_76 mw_839) rfl rfl rfl hv_X11_moves ⟨Nat.le_of_ble_eq_true rfl, Nat.le_of_ble_eq_true rfl⟩) ⟨PcT_blind, hg_recv hK o_x rfl, PcT_pre hK hH⟩ rfl rfl hl.1 rfl (lv_room (Nat.le_of_ble_eq_true rfl)) dL_law_729 ⟨by show _ ≤ 600002; omega, by show _ ≤ 7302232; omega⟩) hS (fun q _ h => af_in hN hS.1 q h) (fun q h => af_in hN hS.1 q h) (fun r_1 u_1 t_1 H_1 locs_1 ht_1 hv_1 hp_1 hB_1 hz_1 hk_1 hS_1 => ?_)
  obtain ⟨Ty_1, eT_⟩ : ∃ z, z = u_1.1 := ⟨_, rfl⟩
  obtain ⟨G_1, eG_⟩ : ∃ z, z = u_1.2 := ⟨_, rfl⟩
  have hH_1 : HT g Ty_1 G_1 H_1 := by rw [← ht_1, eT_, eG_]; exact hB_1
  have hX_1 : Ext H.size Ty Ty_1 := by rw [eT_]; exact hp_1.1
  have hF_1 : FR [22, 28] [(g.2.2 70)] [] G G_1 := by rw [eG_]; exact hp_1.2.1
  have q_1 := hp_1.2.2
  rw [ro_70, ro_71, nu_20, (nu_ 22 (by decide))] at q_1
  have e_1 := (congrArg Prod.fst q_1).symm
  have k2_1 := hX_1.1 _ _ k2
  have hN_1 := ext_in hX_1 hN hS.1
  have hI_1 : OI g 1 G_1 := hI.frc hF_1 (by decide) rfl ⟨hD1 100 (by decide) 70 (by decide) (by decide), trivial⟩ ⟨hD1 121 (by decide) 70 (by decide) (by decide), trivial⟩ ⟨hD1 140 (by decide) 70 (by decide) (by decide), trivial⟩ ⟨hD1 141 (by decide) 70 (by decide) (by decide), trivial⟩
  refine lv_aload_n hx hb dL_law_732 rfl (lv_at hl 2 rfl) ?_
  refine lw_arg (k := 1) hx hb hXs hbl hS_1 hl hi hL (by decide) (by decide +kernel) dL_law_733 dL_law_734 dL_law_736 dL_law_737 dL_law_738 ?_
  refine lw_arg (k := 2) hx hb hXs hbl hS_1 hl hi hL (by decide) (by decide +kernel) dL_law_739 dL_law_740 dL_law_742 dL_law_743 dL_law_744 ?_
  refine lw_arg (k := 3) hx hb hXs hbl hS_1 hl hi hL (by decide) (by decide +kernel) dL_law_745 dL_law_746 dL_law_748 dL_law_749 dL_law_750 ?_
  obtain ⟨_, ⟨rfl, tm_, mk_⟩, o_m⟩ := hH_1 _ _ k2_1
  refine va_calli (va_runV (As := [.int (xs (i + 1)), .int (xs (i + 2)), .int (xs (i + 3))]) (rest := [.int r_1]) ⟨hx, hb, hml, hown, hts2⟩ (c_X12_moves_x l g Ty_1 G_1 _ (s.heap.size + 40) (xs (i + 1)) (xs (i + 2)) (xs (i + 3)) k2_1 1 hI_1 (by omega) hLD) (cwV 3 hts2 (gwV mw_1667 mw_1668 mw_1669 mw_88 mw_1670) rfl rfl rfl hv_X12_moves ⟨Nat.le_of_ble_eq_true rfl, Nat.le_of_ble_eq_true rfl⟩) ⟨PcT_blind, hg_recv hK o_m rfl, PcT_pre hK hH_1⟩ rfl rfl hl.1 rfl (lv_room (Nat.le_of_ble_eq_true rfl)) dL_law_751 ⟨by show _ ≤ 600002; omega, by show _ ≤ 7302232; omega⟩) hS_1 (fun q _ h => af_in hN_1 hS_1.1 q h) (fun q h => af_in hN_1 hS_1.1 q h) (fun r_2 u_2 t_2 H_2 locs_2 ht_2 hv_2 hp_2 hB_2 hz_2 hk_2 hS_2 => ?_)
  have q_2 := hp_2.2.2.2
  rw [((hF_1.2.1 _ ⟨hD1 100 (by decide) 70 (by decide) (by decide), trivial⟩).trans ro_100)] at q_2
  have e_2 := (congrArg Prod.fst q_2).symm
  have hr_2 : r_1 = r_2 := e_1.trans ((fr_moves (xs (i + 1)) (xs (i + 2)) (xs (i + 3))).trans e_2.symm)
  refine lv_icmp_eq (tgt := 1564) hx hb dL_law_754 (by decide) (fun _ => ?_) (fun q_ => absurd hr_2 q_)
  exact W.widen (k := cells + 160) (n := slots + 3160) (by omega) (by omega) (kk _ _ _ hS_2 hl)
set_option maxHeartbeats 4000000 in
set_option maxRecDepth 100000 in
theorem lc_13 {Ty : TyM} {G : Gh} (hX : LcX p l s m meth c b L xs g i cells slots) (hl : lv_has ls 8 (lvL s b i)) (hW : LW g s.heap.size Ty G H) (hS : va_S (fun q => s.heap.size ≤ q) s.heap H locs) (kk : LcT p l e s m below meth c b i cells slots 1564 Q) : W p l e room_1 s m #[Value.ref b] below meth c H locs cells slots Q (F0 m 759 ls []) := by
  obtain ⟨hst, hL, C0, E0, hi, hc, hs⟩ := hX
  obtain ⟨hx, hb, hr, hml, hown, hts, hXs, hbl, hlocks, hgv⟩ := id C0
  obtain ⟨hK, hO, hXO, hLD, h51, hLE, hD1⟩ := id E0
  have hown : s.vm.findClass "MountPeersLaw" = some m.cls := hown
  have hts2 := lw_g2 hts
  obtain ⟨hH, hI, ⟨hE, hR⟩, hFS, k1, k2, k3, ⟨fo, oo⟩, hN⟩ := id hW
  obtain ⟨⟨ro_70, ro_71, ro_72, ro_73, ro_74⟩, nu_, nu_20, nu_23, ro_100, ro_z⟩ := id hFS
  refine lv_aload_n hx hb dL_law_759 rfl (lv_at hl 3 rfl) ?_
  obtain ⟨_, ⟨rfl, tc_, mc_⟩, o_x⟩ := hH s.heap.size _ k1
  refine va_calli (va_runV (As := []) (rest := []) ⟨hx, hb, hml, hown, hts2⟩ (c_X11_day l g Ty G H.size s.heap.size  k1 hD1 (nu_ 0 (by decide))) (cwV 0 hts2 (gwV mw_856 mw_857 mw_858 mw_76 mw_859) rfl rfl rfl hv_X11_day ⟨Nat.le_of_ble_eq_true rfl, Nat.le_of_ble_eq_true rfl⟩) ⟨PcT_blind, hg_recv hK o_x rfl, PcT_pre hK hH⟩ rfl rfl hl.1 rfl (lv_room (Nat.le_of_ble_eq_true rfl)) dL_law_760 ⟨by show _ ≤ 600002; omega, by show _ ≤ 7302232; omega⟩) hS (fun q _ h => af_in hN hS.1 q h) (fun q h => af_in hN hS.1 q h) (fun r_1 u_1 t_1 H_1 locs_1 ht_1 hv_1 hp_1 hB_1 hz_1 hk_1 hS_1 => ?_)
  obtain ⟨Ty_1, eT_⟩ : ∃ z, z = u_1.1 := ⟨_, rfl⟩
  obtain ⟨G_1, eG_⟩ : ∃ z, z = u_1.2 := ⟨_, rfl⟩
  have hH_1 : HT g Ty_1 G_1 H_1 := by rw [← ht_1, eT_, eG_]; exact hB_1
  have rg_1 := hp_1.1
  have eT : Ty_1 = Ty := by rw [eT_]; exact hp_1.2.1
  have hF_1 : FR [0, 27, 29] [] [] G G_1 := by rw [eG_]; exact hp_1.2.2
  have k2_1 := k2
  have hN_1 := hN
  rw [← eT] at k2_1 hN_1
  have hI_1 : OI g 1 G_1 := hI.frc hF_1 (by decide) rfl trivial trivial trivial trivial
  refine lv_aload_n hx hb dL_law_763 rfl (lv_at hl 2 rfl) ?_
  obtain ⟨_, ⟨rfl, tm_, mk_⟩, o_m⟩ := hH_1 _ _ k2_1
  refine va_calli (va_runV (As := []) (rest := [.int r_1]) ⟨hx, hb, hml, hown, hts2⟩ (c_X12_day_z l g Ty_1 G_1 _ (s.heap.size + 40)  k2_1 1 hI_1 (by omega) hLD ((hF_1.1 102 (by decide)).trans (nu_ 102 (by decide)))) (cwV 0 hts2 (gwV mw_1680 mw_1681 mw_1682 mw_88 mw_1683) rfl rfl rfl hv_X12_day ⟨Nat.le_of_ble_eq_true rfl, Nat.le_of_ble_eq_true rfl⟩) ⟨PcT_blind, hg_recv hK o_m rfl, PcT_pre hK hH_1⟩ rfl rfl hl.1 rfl (lv_room (Nat.le_of_ble_eq_true rfl)) dL_law_764 ⟨by show _ ≤ 600002; omega, by show _ ≤ 7302232; omega⟩) hS_1 (fun q _ h => af_in hN_1 hS_1.1 q h) (fun q h => af_in hN_1 hS_1.1 q h) (fun r_2 u_2 t_2 H_2 locs_2 ht_2 hv_2 hp_2 hB_2 hz_2 hk_2 hS_2 => ?_)
  have hr_2 : r_1 = r_2 := rg_one rg_1 hp_2.1
  refine lv_icmp_eq (tgt := 1564) hx hb dL_law_767 (by decide) (fun _ => ?_) (fun q_ => absurd hr_2 q_)
  exact W.widen (k := cells + 160) (n := slots + 3160) (by omega) (by omega) (kk _ _ _ hS_2 hl)
set_option maxHeartbeats 4000000 in
set_option maxRecDepth 100000 in
theorem lc_14 {Ty : TyM} {G : Gh} (hX : LcX p l s m meth c b L xs g i cells slots) (hl : lv_has ls 8 (lvL s b i)) (hW : LW g s.heap.size Ty G H) (hS : va_S (fun q => s.heap.size ≤ q) s.heap H locs) (kk : LcT p l e s m below meth c b i cells slots 1564 Q) : W p l e room_1 s m #[Value.ref b] below meth c H locs cells slots Q (F0 m 772 ls []) := by
  obtain ⟨hst, hL, C0, E0, hi, hc, hs⟩ := hX
  obtain ⟨hx, hb, hr, hml, hown, hts, hXs, hbl, hlocks, hgv⟩ := id C0
  obtain ⟨hK, hO, hXO, hLD, h51, hLE, hD1⟩ := id E0
  have hown : s.vm.findClass "MountPeersLaw" = some m.cls := hown
  have hts2 := lw_g2 hts
  obtain ⟨hH, hI, ⟨hE, hR⟩, hFS, k1, k2, k3, ⟨fo, oo⟩, hN⟩ := id hW
  obtain ⟨⟨ro_70, ro_71, ro_72, ro_73, ro_74⟩, nu_, nu_20, nu_23, ro_100, ro_z⟩ := id hFS
  refine lv_aload_n hx hb dL_law_772 rfl (lv_at hl 3 rfl) ?_
  obtain ⟨_, ⟨rfl, tc_, mc_⟩, o_x⟩ := hH s.heap.size _ k1
  refine va_calli (va_runV (As := []) (rest := []) ⟨hx, hb, hml, hown, hts2⟩ (c_X11_undo l g Ty G H.size s.heap.size  k1 (nu_ 28 (by decide))) (cwV 0 hts2 (gwV mw_902 mw_903 mw_904 mw_76 mw_905) rfl rfl rfl hv_X11_undo ⟨Nat.le_of_ble_eq_true rfl, Nat.le_of_ble_eq_true rfl⟩) ⟨PcT_blind, hg_recv hK o_x rfl, PcT_pre hK hH⟩ rfl rfl hl.1 rfl (lv_room (Nat.le_of_ble_eq_true rfl)) dL_law_773 ⟨by show _ ≤ 600002; omega, by show _ ≤ 7302232; omega⟩) hS (fun q _ h => af_in hN hS.1 q h) (fun q h => af_in hN hS.1 q h) (fun r_1 u_1 t_1 H_1 locs_1 ht_1 hv_1 hp_1 hB_1 hz_1 hk_1 hS_1 => ?_)
  obtain ⟨Ty_1, eT_⟩ : ∃ z, z = u_1.1 := ⟨_, rfl⟩
  obtain ⟨G_1, eG_⟩ : ∃ z, z = u_1.2 := ⟨_, rfl⟩
  have hH_1 : HT g Ty_1 G_1 H_1 := by rw [← ht_1, eT_, eG_]; exact hB_1
  have rg_1 := hp_1.1
  have eT : Ty_1 = Ty := by rw [eT_, hp_1.2]
  have eG : G_1 = G := by rw [eG_, hp_1.2]
  have hF_1 : FR [] [] [] G G_1 := by rw [eG]; exact FR.rf
  have k2_1 := k2
  have hN_1 := hN
  rw [← eT] at k2_1 hN_1
  have hI_1 : OI g 1 G_1 := hI.frc hF_1 (by decide) rfl trivial trivial trivial trivial
  refine lv_aload_n hx hb dL_law_776 rfl (lv_at hl 2 rfl) ?_
  obtain ⟨_, ⟨rfl, tm_, mk_⟩, o_m⟩ := hH_1 _ _ k2_1
  refine va_calli (va_runV (As := []) (rest := [.int r_1]) ⟨hx, hb, hml, hown, hts2⟩ (c_X12_undo_x l g Ty_1 G_1 _ (s.heap.size + 40)  k2_1 1 hI_1 (by omega) hLD) (cwV 0 hts2 (gwV mw_1696 mw_1697 mw_1698 mw_88 mw_1699) rfl rfl rfl hv_X12_undo ⟨Nat.le_of_ble_eq_true rfl, Nat.le_of_ble_eq_true rfl⟩) ⟨PcT_blind, hg_recv hK o_m rfl, PcT_pre hK hH_1⟩ rfl rfl hl.1 rfl (lv_room (Nat.le_of_ble_eq_true rfl)) dL_law_777 ⟨by show _ ≤ 600002; omega, by show _ ≤ 7302232; omega⟩) hS_1 (fun q _ h => af_in hN_1 hS_1.1 q h) (fun q h => af_in hN_1 hS_1.1 q h) (fun r_2 u_2 t_2 H_2 locs_2 ht_2 hv_2 hp_2 hB_2 hz_2 hk_2 hS_2 => ?_)
  have q_2 := hp_2.2.2.2
  rw [((hF_1.1 122 (by decide)).trans (nu_ 122 (by decide)))] at q_2
  have e_2 := (congrArg Prod.fst q_2).symm
  have hr_2 : r_1 = r_2 := (rg_ism rg_1).trans (fr_undo.symm.trans e_2.symm)
  refine lv_icmp_eq (tgt := 1564) hx hb dL_law_780 (by decide) (fun _ => ?_) (fun q_ => absurd hr_2 q_)
  exact W.widen (k := cells + 160) (n := slots + 3160) (by omega) (by omega) (kk _ _ _ hS_2 hl)
set_option maxHeartbeats 4000000 in
set_option maxRecDepth 100000 in
theorem lc_15 {Ty : TyM} {G : Gh} (hX : LcX p l s m meth c b L xs g i cells slots) (hl : lv_has ls 8 (lvL s b i)) (hW : LW g s.heap.size Ty G H) (hS : va_S (fun q => s.heap.size ≤ q) s.heap H locs) (kk : LcT p l e s m below meth c b i cells slots 1564 Q) : W p l e room_1 s m #[Value.ref b] below meth c H locs cells slots Q (F0 m 785 ls []) := by
  obtain ⟨hst, hL, C0, E0, hi, hc, hs⟩ := hX
  obtain ⟨hx, hb, hr, hml, hown, hts, hXs, hbl, hlocks, hgv⟩ := id C0
  obtain ⟨hK, hO, hXO, hLD, h51, hLE, hD1⟩ := id E0
  have hown : s.vm.findClass "MountPeersLaw" = some m.cls := hown
  have hts2 := lw_g2 hts
  obtain ⟨hH, hI, ⟨hE, hR⟩, hFS, k1, k2, k3, ⟨fo, oo⟩, hN⟩ := id hW
  obtain ⟨⟨ro_70, ro_71, ro_72, ro_73, ro_74⟩, nu_, nu_20, nu_23, ro_100, ro_z⟩ := id hFS
  refine lv_aload_n hx hb dL_law_785 rfl (lv_at hl 3 rfl) ?_
  refine lw_arg (k := 1) hx hb hXs hbl hS hl hi hL (by decide) (by decide +kernel) dL_law_786 dL_law_787 dL_law_789 dL_law_790 dL_law_791 ?_
  obtain ⟨_, ⟨rfl, tc_, mc_⟩, o_x⟩ := hH s.heap.size _ k1
  refine va_calli (va_runV (As := [.int (xs (i + 1))]) (rest := []) ⟨hx, hb, hml, hown, hts2⟩ (c_X11_spread l g Ty G H.size s.heap.size (xs (i + 1)) k1 hD1) (cwV 1 hts2 (gwV mw_910 mw_911 mw_912 mw_76 mw_913) rfl rfl rfl hv_X11_spread ⟨Nat.le_of_ble_eq_true rfl, Nat.le_of_ble_eq_true rfl⟩) ⟨PcT_blind, hg_recv hK o_x rfl, PcT_pre hK hH⟩ rfl rfl hl.1 rfl (lv_room (Nat.le_of_ble_eq_true rfl)) dL_law_792 ⟨by show _ ≤ 600002; omega, by show _ ≤ 7302232; omega⟩) hS (fun q _ h => af_in hN hS.1 q h) (fun q h => af_in hN hS.1 q h) (fun r_1 u_1 t_1 H_1 locs_1 ht_1 hv_1 hp_1 hB_1 hz_1 hk_1 hS_1 => ?_)
  obtain ⟨Ty_1, eT_⟩ : ∃ z, z = u_1.1 := ⟨_, rfl⟩
  obtain ⟨G_1, eG_⟩ : ∃ z, z = u_1.2 := ⟨_, rfl⟩
  have hH_1 : HT g Ty_1 G_1 H_1 := by rw [← ht_1, eT_, eG_]; exact hB_1
  have eT : Ty_1 = Ty := by rw [eT_]; exact hp_1.1
  have hF_1 : FR [27] [] [] G G_1 := by rw [eG_]; exact hp_1.2.1
  have q_1 := hp_1.2.2
  rw [ro_71, ro_72, nu_20] at q_1
  have e_1 := q_1.symm
  have k2_1 := k2
  have hN_1 := hN
  rw [← eT] at k2_1 hN_1
  have hI_1 : OI g 1 G_1 := hI.frc hF_1 (by decide) rfl trivial trivial trivial trivial
  refine lv_aload_n hx hb dL_law_795 rfl (lv_at hl 2 rfl) ?_
  refine lw_arg (k := 1) hx hb hXs hbl hS_1 hl hi hL (by decide) (by decide +kernel) dL_law_796 dL_law_797 dL_law_799 dL_law_800 dL_law_801 ?_
  obtain ⟨_, ⟨rfl, tm_, mk_⟩, o_m⟩ := hH_1 _ _ k2_1
  refine va_calli (va_runV (As := [.int (xs (i + 1))]) (rest := [.int r_1]) ⟨hx, hb, hml, hown, hts2⟩ (c_X12_spread_x l g Ty_1 G_1 _ (s.heap.size + 40) (xs (i + 1)) k2_1 1 hI_1 (by omega) hLD) (cwV 1 hts2 (gwV mw_1700 mw_1701 mw_1702 mw_88 mw_1703) rfl rfl rfl hv_X12_spread ⟨Nat.le_of_ble_eq_true rfl, Nat.le_of_ble_eq_true rfl⟩) ⟨PcT_blind, hg_recv hK o_m rfl, PcT_pre hK hH_1⟩ rfl rfl hl.1 rfl (lv_room (Nat.le_of_ble_eq_true rfl)) dL_law_802 ⟨by show _ ≤ 600002; omega, by show _ ≤ 7302232; omega⟩) hS_1 (fun q _ h => af_in hN_1 hS_1.1 q h) (fun q h => af_in hN_1 hS_1.1 q h) (fun r_2 u_2 t_2 H_2 locs_2 ht_2 hv_2 hp_2 hB_2 hz_2 hk_2 hS_2 => ?_)
  have q_2 := hp_2.2.2.2
  rw [((hF_1.2.1 _ trivial).trans ro_100)] at q_2
  have e_2 := q_2.symm
  have hr_2 : r_1 = r_2 := e_1.trans ((fr_spread (xs (i + 1))).trans e_2.symm)
  refine lv_icmp_eq (tgt := 1564) hx hb dL_law_805 (by decide) (fun _ => ?_) (fun q_ => absurd hr_2 q_)
  exact W.widen (k := cells + 160) (n := slots + 3160) (by omega) (by omega) (kk _ _ _ hS_2 hl)
set_option maxHeartbeats 4000000 in
set_option maxRecDepth 100000 in
theorem lc_16 {Ty : TyM} {G : Gh} (hX : LcX p l s m meth c b L xs g i cells slots) (hl : lv_has ls 8 (lvL s b i)) (hW : LW g s.heap.size Ty G H) (hS : va_S (fun q => s.heap.size ≤ q) s.heap H locs) (kk : LcT p l e s m below meth c b i cells slots 1564 Q) : W p l e room_1 s m #[Value.ref b] below meth c H locs cells slots Q (F0 m 810 ls []) := by
  obtain ⟨hst, hL, C0, E0, hi, hc, hs⟩ := hX
  obtain ⟨hx, hb, hr, hml, hown, hts, hXs, hbl, hlocks, hgv⟩ := id C0
  obtain ⟨hK, hO, hXO, hLD, h51, hLE, hD1⟩ := id E0
  have hown : s.vm.findClass "MountPeersLaw" = some m.cls := hown
  have hts2 := lw_g2 hts
  obtain ⟨hH, hI, ⟨hE, hR⟩, hFS, k1, k2, k3, ⟨fo, oo⟩, hN⟩ := id hW
  obtain ⟨⟨ro_70, ro_71, ro_72, ro_73, ro_74⟩, nu_, nu_20, nu_23, ro_100, ro_z⟩ := id hFS
  refine lv_aload_n hx hb dL_law_810 rfl (lv_at hl 3 rfl) ?_
  refine lw_arg (k := 1) hx hb hXs hbl hS hl hi hL (by decide) (by decide +kernel) dL_law_811 dL_law_812 dL_law_814 dL_law_815 dL_law_816 ?_
  obtain ⟨_, ⟨rfl, tc_, mc_⟩, o_x⟩ := hH s.heap.size _ k1
  refine va_calli (va_runV (As := [.int (xs (i + 1))]) (rest := []) ⟨hx, hb, hml, hown, hts2⟩ (c_X11_peers l g Ty G H.size s.heap.size (xs (i + 1)) k1 hD1) (cwV 1 hts2 (gwV mw_919 mw_920 mw_921 mw_76 mw_922) rfl rfl rfl hv_X11_peers ⟨Nat.le_of_ble_eq_true rfl, Nat.le_of_ble_eq_true rfl⟩) ⟨PcT_blind, hg_recv hK o_x rfl, PcT_pre hK hH⟩ rfl rfl hl.1 rfl (lv_room (Nat.le_of_ble_eq_true rfl)) dL_law_817 ⟨by show _ ≤ 600002; omega, by show _ ≤ 7302232; omega⟩) hS (fun q _ h => af_in hN hS.1 q h) (fun q h => af_in hN hS.1 q h) (fun r_1 u_1 t_1 H_1 locs_1 ht_1 hv_1 hp_1 hB_1 hz_1 hk_1 hS_1 => ?_)
  obtain ⟨Ty_1, eT_⟩ : ∃ z, z = u_1.1 := ⟨_, rfl⟩
  obtain ⟨G_1, eG_⟩ : ∃ z, z = u_1.2 := ⟨_, rfl⟩
  have hH_1 : HT g Ty_1 G_1 H_1 := by rw [← ht_1, eT_, eG_]; exact hB_1
  have eT : Ty_1 = Ty := by rw [eT_]; exact hp_1.1
  have hF_1 : FR [27] [] [] G G_1 := by rw [eG_]; exact hp_1.2.1
  have q_1 := hp_1.2.2
  rw [ro_71, ro_72, nu_20] at q_1
  have e_1 := q_1.symm
  have k2_1 := k2
  have hN_1 := hN
  rw [← eT] at k2_1 hN_1
  have hI_1 : OI g 1 G_1 := hI.frc hF_1 (by decide) rfl trivial trivial trivial trivial
  refine lv_aload_n hx hb dL_law_820 rfl (lv_at hl 2 rfl) ?_
  refine lw_arg (k := 1) hx hb hXs hbl hS_1 hl hi hL (by decide) (by decide +kernel) dL_law_821 dL_law_822 dL_law_824 dL_law_825 dL_law_826 ?_
  obtain ⟨_, ⟨rfl, tm_, mk_⟩, o_m⟩ := hH_1 _ _ k2_1
  refine va_calli (va_runV (As := [.int (xs (i + 1))]) (rest := [.int r_1]) ⟨hx, hb, hml, hown, hts2⟩ (c_X12_peers_x l g Ty_1 G_1 _ (s.heap.size + 40) (xs (i + 1)) k2_1 1 hI_1 (by omega) hLD) (cwV 1 hts2 (gwV mw_1708 mw_1709 mw_1710 mw_88 mw_1711) rfl rfl rfl hv_X12_peers ⟨Nat.le_of_ble_eq_true rfl, Nat.le_of_ble_eq_true rfl⟩) ⟨PcT_blind, hg_recv hK o_m rfl, PcT_pre hK hH_1⟩ rfl rfl hl.1 rfl (lv_room (Nat.le_of_ble_eq_true rfl)) dL_law_827 ⟨by show _ ≤ 600002; omega, by show _ ≤ 7302232; omega⟩) hS_1 (fun q _ h => af_in hN_1 hS_1.1 q h) (fun q h => af_in hN_1 hS_1.1 q h) (fun r_2 u_2 t_2 H_2 locs_2 ht_2 hv_2 hp_2 hB_2 hz_2 hk_2 hS_2 => ?_)
  have q_2 := hp_2.2.2.2
  rw [((hF_1.2.1 _ trivial).trans ro_100)] at q_2
  have e_2 := q_2.symm
  have hr_2 : r_1 = r_2 := e_1.trans ((fr_peers (xs (i + 1))).trans e_2.symm)
  refine lv_icmp_eq (tgt := 1564) hx hb dL_law_830 (by decide) (fun _ => ?_) (fun q_ => absurd hr_2 q_)
  exact W.widen (k := cells + 160) (n := slots + 3160) (by omega) (by omega) (kk _ _ _ hS_2 hl)
set_option maxHeartbeats 4000000 in
set_option maxRecDepth 100000 in
theorem lc_17 {Ty : TyM} {G : Gh} (hX : LcX p l s m meth c b L xs g i cells slots) (hl : lv_has ls 8 (lvL s b i)) (hW : LW g s.heap.size Ty G H) (hS : va_S (fun q => s.heap.size ≤ q) s.heap H locs) (kk : LcT p l e s m below meth c b i cells slots 1564 Q) : W p l e room_1 s m #[Value.ref b] below meth c H locs cells slots Q (F0 m 835 ls []) := by
  obtain ⟨hst, hL, C0, E0, hi, hc, hs⟩ := hX
  obtain ⟨hx, hb, hr, hml, hown, hts, hXs, hbl, hlocks, hgv⟩ := id C0
  obtain ⟨hK, hO, hXO, hLD, h51, hLE, hD1⟩ := id E0
  have hown : s.vm.findClass "MountPeersLaw" = some m.cls := hown
  have hts2 := lw_g2 hts
  obtain ⟨hH, hI, ⟨hE, hR⟩, hFS, k1, k2, k3, ⟨fo, oo⟩, hN⟩ := id hW
  obtain ⟨⟨ro_70, ro_71, ro_72, ro_73, ro_74⟩, nu_, nu_20, nu_23, ro_100, ro_z⟩ := id hFS
  refine lv_aload_n hx hb dL_law_835 rfl (lv_at hl 3 rfl) ?_
  refine lw_arg (k := 1) hx hb hXs hbl hS hl hi hL (by decide) (by decide +kernel) dL_law_836 dL_law_837 dL_law_839 dL_law_840 dL_law_841 ?_
  obtain ⟨_, ⟨rfl, tc_, mc_⟩, o_x⟩ := hH s.heap.size _ k1
  refine va_calli (va_runV (As := [.int (xs (i + 1))]) (rest := []) ⟨hx, hb, hml, hown, hts2⟩ (c_X11_masters l g Ty G H.size s.heap.size (xs (i + 1)) k1 hD1) (cwV 1 hts2 (gwV mw_928 mw_929 mw_930 mw_76 mw_931) rfl rfl rfl hv_X11_masters ⟨Nat.le_of_ble_eq_true rfl, Nat.le_of_ble_eq_true rfl⟩) ⟨PcT_blind, hg_recv hK o_x rfl, PcT_pre hK hH⟩ rfl rfl hl.1 rfl (lv_room (Nat.le_of_ble_eq_true rfl)) dL_law_842 ⟨by show _ ≤ 600002; omega, by show _ ≤ 7302232; omega⟩) hS (fun q _ h => af_in hN hS.1 q h) (fun q h => af_in hN hS.1 q h) (fun r_1 u_1 t_1 H_1 locs_1 ht_1 hv_1 hp_1 hB_1 hz_1 hk_1 hS_1 => ?_)
  obtain ⟨Ty_1, eT_⟩ : ∃ z, z = u_1.1 := ⟨_, rfl⟩
  obtain ⟨G_1, eG_⟩ : ∃ z, z = u_1.2 := ⟨_, rfl⟩
  have hH_1 : HT g Ty_1 G_1 H_1 := by rw [← ht_1, eT_, eG_]; exact hB_1
  have eT : Ty_1 = Ty := by rw [eT_]; exact hp_1.1
  have hF_1 : FR [27] [] [] G G_1 := by rw [eG_]; exact hp_1.2.1
  have q_1 := hp_1.2.2
  rw [ro_71, ro_72, nu_20, (nu_ 27 (by decide))] at q_1
  have e_1 := (congrArg Prod.fst q_1).symm
  have k2_1 := k2
  have hN_1 := hN
  rw [← eT] at k2_1 hN_1
  have hI_1 : OI g 1 G_1 := hI.frc hF_1 (by decide) rfl trivial trivial trivial trivial
  refine lv_aload_n hx hb dL_law_845 rfl (lv_at hl 2 rfl) ?_
  refine lw_arg (k := 1) hx hb hXs hbl hS_1 hl hi hL (by decide) (by decide +kernel) dL_law_846 dL_law_847 dL_law_849 dL_law_850 dL_law_851 ?_
  obtain ⟨_, ⟨rfl, tm_, mk_⟩, o_m⟩ := hH_1 _ _ k2_1
  refine va_calli (va_runV (As := [.int (xs (i + 1))]) (rest := [.int r_1]) ⟨hx, hb, hml, hown, hts2⟩ (c_X12_masters_x l g Ty_1 G_1 _ (s.heap.size + 40) (xs (i + 1)) k2_1 1 hI_1 (by omega) hLD) (cwV 1 hts2 (gwV mw_1712 mw_1713 mw_1714 mw_88 mw_1715) rfl rfl rfl hv_X12_masters ⟨Nat.le_of_ble_eq_true rfl, Nat.le_of_ble_eq_true rfl⟩) ⟨PcT_blind, hg_recv hK o_m rfl, PcT_pre hK hH_1⟩ rfl rfl hl.1 rfl (lv_room (Nat.le_of_ble_eq_true rfl)) dL_law_852 ⟨by show _ ≤ 600002; omega, by show _ ≤ 7302232; omega⟩) hS_1 (fun q _ h => af_in hN_1 hS_1.1 q h) (fun q h => af_in hN_1 hS_1.1 q h) (fun r_2 u_2 t_2 H_2 locs_2 ht_2 hv_2 hp_2 hB_2 hz_2 hk_2 hS_2 => ?_)
  have q_2 := hp_2.2.2.2
  rw [((hF_1.2.1 _ trivial).trans ro_100), ((hF_1.1 104 (by decide)).trans (nu_ 104 (by decide)))] at q_2
  have e_2 := (congrArg Prod.fst q_2).symm
  have hr_2 : r_1 = r_2 := e_1.trans ((fr_masters (xs (i + 1))).trans e_2.symm)
  refine lv_icmp_eq (tgt := 1564) hx hb dL_law_855 (by decide) (fun _ => ?_) (fun q_ => absurd hr_2 q_)
  exact W.widen (k := cells + 160) (n := slots + 3160) (by omega) (by omega) (kk _ _ _ hS_2 hl)
set_option maxHeartbeats 4000000 in
set_option maxRecDepth 100000 in
theorem lc_18 {Ty : TyM} {G : Gh} (hX : LcX p l s m meth c b L xs g i cells slots) (hl : lv_has ls 8 (lvL s b i)) (hW : LW g s.heap.size Ty G H) (hS : va_S (fun q => s.heap.size ≤ q) s.heap H locs) (kk : LcT p l e s m below meth c b i cells slots 1564 Q) : W p l e room_1 s m #[Value.ref b] below meth c H locs cells slots Q (F0 m 860 ls []) := by
  obtain ⟨hst, hL, C0, E0, hi, hc, hs⟩ := hX
  obtain ⟨hx, hb, hr, hml, hown, hts, hXs, hbl, hlocks, hgv⟩ := id C0
  obtain ⟨hK, hO, hXO, hLD, h51, hLE, hD1⟩ := id E0
  have hown : s.vm.findClass "MountPeersLaw" = some m.cls := hown
  have hts2 := lw_g2 hts
  obtain ⟨hH, hI, ⟨hE, hR⟩, hFS, k1, k2, k3, ⟨fo, oo⟩, hN⟩ := id hW
  obtain ⟨⟨ro_70, ro_71, ro_72, ro_73, ro_74⟩, nu_, nu_20, nu_23, ro_100, ro_z⟩ := id hFS
  refine lv_aload_n hx hb dL_law_860 rfl (lv_at hl 3 rfl) ?_
  obtain ⟨_, ⟨rfl, tc_, mc_⟩, o_x⟩ := hH s.heap.size _ k1
  refine va_calli (va_runV (As := []) (rest := []) ⟨hx, hb, hml, hown, hts2⟩ (c_X11_groups l g Ty G H.size s.heap.size  k1 hD1) (cwV 0 hts2 (gwV mw_939 mw_940 mw_941 mw_76 mw_942) rfl rfl rfl hv_X11_groups ⟨Nat.le_of_ble_eq_true rfl, Nat.le_of_ble_eq_true rfl⟩) ⟨PcT_blind, hg_recv hK o_x rfl, PcT_pre hK hH⟩ rfl rfl hl.1 rfl (lv_room (Nat.le_of_ble_eq_true rfl)) dL_law_861 ⟨by show _ ≤ 600002; omega, by show _ ≤ 7302232; omega⟩) hS (fun q _ h => af_in hN hS.1 q h) (fun q h => af_in hN hS.1 q h) (fun r_1 u_1 t_1 H_1 locs_1 ht_1 hv_1 hp_1 hB_1 hz_1 hk_1 hS_1 => ?_)
  obtain ⟨Ty_1, eT_⟩ : ∃ z, z = u_1.1 := ⟨_, rfl⟩
  obtain ⟨G_1, eG_⟩ : ∃ z, z = u_1.2 := ⟨_, rfl⟩
  have hH_1 : HT g Ty_1 G_1 H_1 := by rw [← ht_1, eT_, eG_]; exact hB_1
  have eT : Ty_1 = Ty := by rw [eT_]; exact hp_1.1
  have hF_1 : FR [27] [] [] G G_1 := by rw [eG_]; exact hp_1.2.1
  have q_1 := hp_1.2.2
  rw [ro_71, nu_20] at q_1
  have e_1 := q_1.symm
  have k2_1 := k2
  have hN_1 := hN
  rw [← eT] at k2_1 hN_1
  have hI_1 : OI g 1 G_1 := hI.frc hF_1 (by decide) rfl trivial trivial trivial trivial
  refine lv_aload_n hx hb dL_law_864 rfl (lv_at hl 2 rfl) ?_
  obtain ⟨_, ⟨rfl, tm_, mk_⟩, o_m⟩ := hH_1 _ _ k2_1
  refine va_calli (va_runV (As := []) (rest := [.int r_1]) ⟨hx, hb, hml, hown, hts2⟩ (c_X12_groups_x l g Ty_1 G_1 _ (s.heap.size + 40)  k2_1 1 hI_1 (by omega) hLD) (cwV 0 hts2 (gwV mw_1720 mw_1721 mw_1722 mw_88 mw_1723) rfl rfl rfl hv_X12_groups ⟨Nat.le_of_ble_eq_true rfl, Nat.le_of_ble_eq_true rfl⟩) ⟨PcT_blind, hg_recv hK o_m rfl, PcT_pre hK hH_1⟩ rfl rfl hl.1 rfl (lv_room (Nat.le_of_ble_eq_true rfl)) dL_law_865 ⟨by show _ ≤ 600002; omega, by show _ ≤ 7302232; omega⟩) hS_1 (fun q _ h => af_in hN_1 hS_1.1 q h) (fun q h => af_in hN_1 hS_1.1 q h) (fun r_2 u_2 t_2 H_2 locs_2 ht_2 hv_2 hp_2 hB_2 hz_2 hk_2 hS_2 => ?_)
  have q_2 := hp_2.2.2.2
  rw [((hF_1.2.1 _ trivial).trans ro_100)] at q_2
  have e_2 := q_2.symm
  have hr_2 : r_1 = r_2 := e_1.trans ((fr_groups).trans e_2.symm)
  refine lv_icmp_eq (tgt := 1564) hx hb dL_law_868 (by decide) (fun _ => ?_) (fun q_ => absurd hr_2 q_)
  exact W.widen (k := cells + 160) (n := slots + 3160) (by omega) (by omega) (kk _ _ _ hS_2 hl)
set_option maxHeartbeats 4000000 in
set_option maxRecDepth 100000 in
theorem lc_19 {Ty : TyM} {G : Gh} (hX : LcX p l s m meth c b L xs g i cells slots) (hl : lv_has ls 8 (lvL s b i)) (hW : LW g s.heap.size Ty G H) (hS : va_S (fun q => s.heap.size ≤ q) s.heap H locs) (kk : LcT p l e s m below meth c b i cells slots 1564 Q) : W p l e room_1 s m #[Value.ref b] below meth c H locs cells slots Q (F0 m 873 ls []) := by
  obtain ⟨hst, hL, C0, E0, hi, hc, hs⟩ := hX
  obtain ⟨hx, hb, hr, hml, hown, hts, hXs, hbl, hlocks, hgv⟩ := id C0
  obtain ⟨hK, hO, hXO, hLD, h51, hLE, hD1⟩ := id E0
  have hown : s.vm.findClass "MountPeersLaw" = some m.cls := hown
  have hts2 := lw_g2 hts
  obtain ⟨hH, hI, ⟨hE, hR⟩, hFS, k1, k2, k3, ⟨fo, oo⟩, hN⟩ := id hW
  obtain ⟨⟨ro_70, ro_71, ro_72, ro_73, ro_74⟩, nu_, nu_20, nu_23, ro_100, ro_z⟩ := id hFS
  refine lv_aload_n hx hb dL_law_873 rfl (lv_at hl 3 rfl) ?_
  refine lw_arg (k := 1) hx hb hXs hbl hS hl hi hL (by decide) (by decide +kernel) dL_law_874 dL_law_875 dL_law_877 dL_law_878 dL_law_879 ?_
  refine lw_arg (k := 2) hx hb hXs hbl hS hl hi hL (by decide) (by decide +kernel) dL_law_880 dL_law_881 dL_law_883 dL_law_884 dL_law_885 ?_
  obtain ⟨_, ⟨rfl, tc_, mc_⟩, o_x⟩ := hH s.heap.size _ k1
  refine va_calli (va_runV (As := [.int (xs (i + 1)), .int (xs (i + 2))]) (rest := []) ⟨hx, hb, hml, hown, hts2⟩ (c_X11_keepers l g Ty G H.size s.heap.size (xs (i + 1)) (xs (i + 2)) k1 nu_20) (cwV 2 hts2 (gwV mw_948 mw_949 mw_950 mw_76 mw_951) rfl rfl rfl hv_X11_keepers ⟨Nat.le_of_ble_eq_true rfl, Nat.le_of_ble_eq_true rfl⟩) ⟨PcT_blind, hg_recv hK o_x rfl, PcT_pre hK hH⟩ rfl rfl hl.1 rfl (lv_room (Nat.le_of_ble_eq_true rfl)) dL_law_886 ⟨by show _ ≤ 600002; omega, by show _ ≤ 7302232; omega⟩) hS (fun q _ h => af_in hN hS.1 q h) (fun q h => af_in hN hS.1 q h) (fun r_1 u_1 t_1 H_1 locs_1 ht_1 hv_1 hp_1 hB_1 hz_1 hk_1 hS_1 => ?_)
  obtain ⟨Ty_1, eT_⟩ : ∃ z, z = u_1.1 := ⟨_, rfl⟩
  obtain ⟨G_1, eG_⟩ : ∃ z, z = u_1.2 := ⟨_, rfl⟩
  have hH_1 : HT g Ty_1 G_1 H_1 := by rw [← ht_1, eT_, eG_]; exact hB_1
  have q_1 := hp_1.1.symm
  have e_1 := q_1.symm
  have eT : Ty_1 = Ty := by rw [eT_, hp_1.2]
  have eG : G_1 = G := by rw [eG_, hp_1.2]
  have hF_1 : FR [] [] [] G G_1 := by rw [eG]; exact FR.rf
  have k2_1 := k2
  have hN_1 := hN
  rw [← eT] at k2_1 hN_1
  have hI_1 : OI g 1 G_1 := hI.frc hF_1 (by decide) rfl trivial trivial trivial trivial
  refine lv_aload_n hx hb dL_law_889 rfl (lv_at hl 2 rfl) ?_
  refine lw_arg (k := 1) hx hb hXs hbl hS_1 hl hi hL (by decide) (by decide +kernel) dL_law_890 dL_law_891 dL_law_893 dL_law_894 dL_law_895 ?_
  refine lw_arg (k := 2) hx hb hXs hbl hS_1 hl hi hL (by decide) (by decide +kernel) dL_law_896 dL_law_897 dL_law_899 dL_law_900 dL_law_901 ?_
  obtain ⟨_, ⟨rfl, tm_, mk_⟩, o_m⟩ := hH_1 _ _ k2_1
  refine va_calli (va_runV (As := [.int (xs (i + 1)), .int (xs (i + 2))]) (rest := [.int r_1]) ⟨hx, hb, hml, hown, hts2⟩ (c_X12_keepers_x l g Ty_1 G_1 _ (s.heap.size + 40) (xs (i + 1)) (xs (i + 2)) k2_1 1 hI_1 (by omega) hLD) (cwV 2 hts2 (gwV mw_1730 mw_1731 mw_1732 mw_88 mw_1733) rfl rfl rfl hv_X12_keepers ⟨Nat.le_of_ble_eq_true rfl, Nat.le_of_ble_eq_true rfl⟩) ⟨PcT_blind, hg_recv hK o_m rfl, PcT_pre hK hH_1⟩ rfl rfl hl.1 rfl (lv_room (Nat.le_of_ble_eq_true rfl)) dL_law_902 ⟨by show _ ≤ 600002; omega, by show _ ≤ 7302232; omega⟩) hS_1 (fun q _ h => af_in hN_1 hS_1.1 q h) (fun q h => af_in hN_1 hS_1.1 q h) (fun r_2 u_2 t_2 H_2 locs_2 ht_2 hv_2 hp_2 hB_2 hz_2 hk_2 hS_2 => ?_)
  have q_2 := hp_2.2.2.2
  rw [((hF_1.2.1 _ trivial).trans ro_100), ((hF_1.2.1 _ trivial).trans (ro_z 124 (by decide)))] at q_2
  have e_2 := (congrArg Prod.fst q_2).symm
  have hr_2 : r_1 = r_2 := e_1.trans ((fr_keepers (xs (i + 1)) (xs (i + 2))).trans e_2.symm)
  refine lv_icmp_eq (tgt := 1564) hx hb dL_law_905 (by decide) (fun _ => ?_) (fun q_ => absurd hr_2 q_)
  exact W.widen (k := cells + 160) (n := slots + 3160) (by omega) (by omega) (kk _ _ _ hS_2 hl)
set_option maxHeartbeats 4000000 in
set_option maxRecDepth 100000 in
theorem lc_20 {Ty : TyM} {G : Gh} (hX : LcX p l s m meth c b L xs g i cells slots) (hl : lv_has ls 8 (lvL s b i)) (hW : LW g s.heap.size Ty G H) (hS : va_S (fun q => s.heap.size ≤ q) s.heap H locs) (kk : LcT p l e s m below meth c b i cells slots 1564 Q) : W p l e room_1 s m #[Value.ref b] below meth c H locs cells slots Q (F0 m 910 ls []) := by
  obtain ⟨hst, hL, C0, E0, hi, hc, hs⟩ := hX
  obtain ⟨hx, hb, hr, hml, hown, hts, hXs, hbl, hlocks, hgv⟩ := id C0
  obtain ⟨hK, hO, hXO, hLD, h51, hLE, hD1⟩ := id E0
  have hown : s.vm.findClass "MountPeersLaw" = some m.cls := hown
  have hts2 := lw_g2 hts
  obtain ⟨hH, hI, ⟨hE, hR⟩, hFS, k1, k2, k3, ⟨fo, oo⟩, hN⟩ := id hW
  obtain ⟨⟨ro_70, ro_71, ro_72, ro_73, ro_74⟩, nu_, nu_20, nu_23, ro_100, ro_z⟩ := id hFS
  refine lv_aload_n hx hb dL_law_910 rfl (lv_at hl 3 rfl) ?_
  refine lw_arg (k := 1) hx hb hXs hbl hS hl hi hL (by decide) (by decide +kernel) dL_law_911 dL_law_912 dL_law_914 dL_law_915 dL_law_916 ?_
  obtain ⟨_, ⟨rfl, tc_, mc_⟩, o_x⟩ := hH s.heap.size _ k1
  refine va_calli (va_runV (As := [.int (xs (i + 1))]) (rest := []) ⟨hx, hb, hml, hown, hts2⟩ (c_X11_inside l g Ty G H.size s.heap.size (xs (i + 1)) k1 hD1) (cwV 1 hts2 (gwV mw_953 mw_954 mw_955 mw_76 mw_956) rfl rfl rfl hv_X11_inside ⟨Nat.le_of_ble_eq_true rfl, Nat.le_of_ble_eq_true rfl⟩) ⟨PcT_blind, hg_recv hK o_x rfl, PcT_pre hK hH⟩ rfl rfl hl.1 rfl (lv_room (Nat.le_of_ble_eq_true rfl)) dL_law_917 ⟨by show _ ≤ 600002; omega, by show _ ≤ 7302232; omega⟩) hS (fun q _ h => af_in hN hS.1 q h) (fun q h => af_in hN hS.1 q h) (fun r_1 u_1 t_1 H_1 locs_1 ht_1 hv_1 hp_1 hB_1 hz_1 hk_1 hS_1 => ?_)
  obtain ⟨Ty_1, eT_⟩ : ∃ z, z = u_1.1 := ⟨_, rfl⟩
  obtain ⟨G_1, eG_⟩ : ∃ z, z = u_1.2 := ⟨_, rfl⟩
  have hH_1 : HT g Ty_1 G_1 H_1 := by rw [← ht_1, eT_, eG_]; exact hB_1
  have eT : Ty_1 = Ty := by rw [eT_]; exact hp_1.1
  have hF_1 : FR [27] [] [] G G_1 := by rw [eG_]; exact hp_1.2.1
  have q_1 := hp_1.2.2
  rw [ro_70, nu_20] at q_1
  have e_1 := q_1.symm
  have k2_1 := k2
  have hN_1 := hN
  rw [← eT] at k2_1 hN_1
  have hI_1 : OI g 1 G_1 := hI.frc hF_1 (by decide) rfl trivial trivial trivial trivial
  refine lv_aload_n hx hb dL_law_920 rfl (lv_at hl 2 rfl) ?_
  refine lw_arg (k := 1) hx hb hXs hbl hS_1 hl hi hL (by decide) (by decide +kernel) dL_law_921 dL_law_922 dL_law_924 dL_law_925 dL_law_926 ?_
  obtain ⟨_, ⟨rfl, tm_, mk_⟩, o_m⟩ := hH_1 _ _ k2_1
  refine va_calli (va_runV (As := [.int (xs (i + 1))]) (rest := [.int r_1]) ⟨hx, hb, hml, hown, hts2⟩ (c_X12_inside_x l g Ty_1 G_1 _ (s.heap.size + 40) (xs (i + 1)) k2_1 1 hI_1 (by omega) hLD) (cwV 1 hts2 (gwV mw_1734 mw_1735 mw_1736 mw_88 mw_1737) rfl rfl rfl hv_X12_inside ⟨Nat.le_of_ble_eq_true rfl, Nat.le_of_ble_eq_true rfl⟩) ⟨PcT_blind, hg_recv hK o_m rfl, PcT_pre hK hH_1⟩ rfl rfl hl.1 rfl (lv_room (Nat.le_of_ble_eq_true rfl)) dL_law_927 ⟨by show _ ≤ 600002; omega, by show _ ≤ 7302232; omega⟩) hS_1 (fun q _ h => af_in hN_1 hS_1.1 q h) (fun q h => af_in hN_1 hS_1.1 q h) (fun r_2 u_2 t_2 H_2 locs_2 ht_2 hv_2 hp_2 hB_2 hz_2 hk_2 hS_2 => ?_)
  have q_2 := hp_2.2.2.2
  rw [((hF_1.2.1 _ trivial).trans ro_100)] at q_2
  have e_2 := q_2.symm
  have hr_2 : r_1 = r_2 := e_1.trans ((fr_inside (xs (i + 1))).trans e_2.symm)
  refine lv_icmp_eq (tgt := 1564) hx hb dL_law_930 (by decide) (fun _ => ?_) (fun q_ => absurd hr_2 q_)
  exact W.widen (k := cells + 160) (n := slots + 3160) (by omega) (by omega) (kk _ _ _ hS_2 hl)
set_option maxHeartbeats 4000000 in
set_option maxRecDepth 100000 in
theorem lc_21 {Ty : TyM} {G : Gh} (hX : LcX p l s m meth c b L xs g i cells slots) (hl : lv_has ls 8 (lvL s b i)) (hW : LW g s.heap.size Ty G H) (hS : va_S (fun q => s.heap.size ≤ q) s.heap H locs) (kk : LcT p l e s m below meth c b i cells slots 1564 Q) : W p l e room_1 s m #[Value.ref b] below meth c H locs cells slots Q (F0 m 935 ls []) := by
  obtain ⟨hst, hL, C0, E0, hi, hc, hs⟩ := hX
  obtain ⟨hx, hb, hr, hml, hown, hts, hXs, hbl, hlocks, hgv⟩ := id C0
  obtain ⟨hK, hO, hXO, hLD, h51, hLE, hD1⟩ := id E0
  have hown : s.vm.findClass "MountPeersLaw" = some m.cls := hown
  have hts2 := lw_g2 hts
  obtain ⟨hH, hI, ⟨hE, hR⟩, hFS, k1, k2, k3, ⟨fo, oo⟩, hN⟩ := id hW
  obtain ⟨⟨ro_70, ro_71, ro_72, ro_73, ro_74⟩, nu_, nu_20, nu_23, ro_100, ro_z⟩ := id hFS
  refine lv_aload_n hx hb dL_law_935 rfl (lv_at hl 3 rfl) ?_
  refine lw_arg (k := 1) hx hb hXs hbl hS hl hi hL (by decide) (by decide +kernel) dL_law_936 dL_law_937 dL_law_939 dL_law_940 dL_law_941 ?_
  obtain ⟨_, ⟨rfl, tc_, mc_⟩, o_x⟩ := hH s.heap.size _ k1
  refine va_calli (va_runV (As := [.int (xs (i + 1))]) (rest := []) ⟨hx, hb, hml, hown, hts2⟩ (c_X11_path l g Ty G H.size s.heap.size (xs (i + 1)) k1 hD1) (cwV 1 hts2 (gwV mw_964 mw_965 mw_966 mw_76 mw_967) rfl rfl rfl hv_X11_path ⟨Nat.le_of_ble_eq_true rfl, Nat.le_of_ble_eq_true rfl⟩) ⟨PcT_blind, hg_recv hK o_x rfl, PcT_pre hK hH⟩ rfl rfl hl.1 rfl (lv_room (Nat.le_of_ble_eq_true rfl)) dL_law_942 ⟨by show _ ≤ 600002; omega, by show _ ≤ 7302232; omega⟩) hS (fun q _ h => af_in hN hS.1 q h) (fun q h => af_in hN hS.1 q h) (fun r_1 u_1 t_1 H_1 locs_1 ht_1 hv_1 hp_1 hB_1 hz_1 hk_1 hS_1 => ?_)
  obtain ⟨Ty_1, eT_⟩ : ∃ z, z = u_1.1 := ⟨_, rfl⟩
  obtain ⟨G_1, eG_⟩ : ∃ z, z = u_1.2 := ⟨_, rfl⟩
  have hH_1 : HT g Ty_1 G_1 H_1 := by rw [← ht_1, eT_, eG_]; exact hB_1
  have eT : Ty_1 = Ty := by rw [eT_]; exact hp_1.1
  have hF_1 : FR [27] [] [] G G_1 := by rw [eG_]; exact hp_1.2.1
  have q_1 := hp_1.2.2
  rw [ro_70, nu_20, (nu_ 27 (by decide))] at q_1
  have e_1 := (congrArg Prod.fst q_1).symm
  have k2_1 := k2
  have hN_1 := hN
  rw [← eT] at k2_1 hN_1
  have hI_1 : OI g 1 G_1 := hI.frc hF_1 (by decide) rfl trivial trivial trivial trivial
  refine lv_aload_n hx hb dL_law_945 rfl (lv_at hl 2 rfl) ?_
  refine lw_arg (k := 1) hx hb hXs hbl hS_1 hl hi hL (by decide) (by decide +kernel) dL_law_946 dL_law_947 dL_law_949 dL_law_950 dL_law_951 ?_
  obtain ⟨_, ⟨rfl, tm_, mk_⟩, o_m⟩ := hH_1 _ _ k2_1
  refine va_calli (va_runV (As := [.int (xs (i + 1))]) (rest := [.int r_1]) ⟨hx, hb, hml, hown, hts2⟩ (c_X12_path_x l g Ty_1 G_1 _ (s.heap.size + 40) (xs (i + 1)) k2_1 1 hI_1 (by omega) hLD) (cwV 1 hts2 (gwV mw_1742 mw_1743 mw_1744 mw_88 mw_1745) rfl rfl rfl hv_X12_path ⟨Nat.le_of_ble_eq_true rfl, Nat.le_of_ble_eq_true rfl⟩) ⟨PcT_blind, hg_recv hK o_m rfl, PcT_pre hK hH_1⟩ rfl rfl hl.1 rfl (lv_room (Nat.le_of_ble_eq_true rfl)) dL_law_952 ⟨by show _ ≤ 600002; omega, by show _ ≤ 7302232; omega⟩) hS_1 (fun q _ h => af_in hN_1 hS_1.1 q h) (fun q h => af_in hN_1 hS_1.1 q h) (fun r_2 u_2 t_2 H_2 locs_2 ht_2 hv_2 hp_2 hB_2 hz_2 hk_2 hS_2 => ?_)
  have q_2 := hp_2.2.2.2
  rw [((hF_1.2.1 _ trivial).trans ro_100)] at q_2
  have e_2 := q_2.symm
  have hr_2 : r_1 = r_2 := e_1.trans ((fr_path (xs (i + 1))).trans e_2.symm)
  refine lv_icmp_eq (tgt := 1564) hx hb dL_law_955 (by decide) (fun _ => ?_) (fun q_ => absurd hr_2 q_)
  exact W.widen (k := cells + 160) (n := slots + 3160) (by omega) (by omega) (kk _ _ _ hS_2 hl)
set_option maxHeartbeats 4000000 in
set_option maxRecDepth 100000 in
theorem lc_22 {Ty : TyM} {G : Gh} (hX : LcX p l s m meth c b L xs g i cells slots) (hl : lv_has ls 8 (lvL s b i)) (hW : LW g s.heap.size Ty G H) (hS : va_S (fun q => s.heap.size ≤ q) s.heap H locs) (kk : LcT p l e s m below meth c b i cells slots 1564 Q) : W p l e room_1 s m #[Value.ref b] below meth c H locs cells slots Q (F0 m 960 ls []) := by
  obtain ⟨hst, hL, C0, E0, hi, hc, hs⟩ := hX
  obtain ⟨hx, hb, hr, hml, hown, hts, hXs, hbl, hlocks, hgv⟩ := id C0
  obtain ⟨hK, hO, hXO, hLD, h51, hLE, hD1⟩ := id E0
  have hown : s.vm.findClass "MountPeersLaw" = some m.cls := hown
  have hts2 := lw_g2 hts
  obtain ⟨hH, hI, ⟨hE, hR⟩, hFS, k1, k2, k3, ⟨fo, oo⟩, hN⟩ := id hW
  obtain ⟨⟨ro_70, ro_71, ro_72, ro_73, ro_74⟩, nu_, nu_20, nu_23, ro_100, ro_z⟩ := id hFS
  refine lv_aload_n hx hb dL_law_960 rfl (lv_at hl 3 rfl) ?_
  refine lw_arg (k := 1) hx hb hXs hbl hS hl hi hL (by decide) (by decide +kernel) dL_law_961 dL_law_962 dL_law_964 dL_law_965 dL_law_966 ?_
  refine lw_arg (k := 2) hx hb hXs hbl hS hl hi hL (by decide) (by decide +kernel) dL_law_967 dL_law_968 dL_law_970 dL_law_971 dL_law_972 ?_
  obtain ⟨_, ⟨rfl, tc_, mc_⟩, o_x⟩ := hH s.heap.size _ k1
  refine va_calli (va_runV (As := [.int (xs (i + 1)), .int (xs (i + 2))]) (rest := []) ⟨hx, hb, hml, hown, hts2⟩ (c_X11_alike l g Ty G H.size s.heap.size (xs (i + 1)) (xs (i + 2)) k1 hD1 nu_20 ro_70) (cwV 2 hts2 (gwV mw_974 mw_975 mw_976 mw_76 mw_977) rfl rfl rfl hv_X11_alike ⟨Nat.le_of_ble_eq_true rfl, Nat.le_of_ble_eq_true rfl⟩) ⟨PcT_blind, hg_recv hK o_x rfl, PcT_pre hK hH⟩ rfl rfl hl.1 rfl (lv_room (Nat.le_of_ble_eq_true rfl)) dL_law_973 ⟨by show _ ≤ 600002; omega, by show _ ≤ 7302232; omega⟩) hS (fun q _ h => af_in hN hS.1 q h) (fun q h => af_in hN hS.1 q h) (fun r_1 u_1 t_1 H_1 locs_1 ht_1 hv_1 hp_1 hB_1 hz_1 hk_1 hS_1 => ?_)
  obtain ⟨Ty_1, eT_⟩ : ∃ z, z = u_1.1 := ⟨_, rfl⟩
  obtain ⟨G_1, eG_⟩ : ∃ z, z = u_1.2 := ⟨_, rfl⟩
  have hH_1 : HT g Ty_1 G_1 H_1 := by rw [← ht_1, eT_, eG_]; exact hB_1
  have eT : Ty_1 = Ty := by rw [eT_]; exact hp_1.1
  have hF_1 : FR [27] [] [] G G_1 := by rw [eG_]; exact hp_1.2.1
  have q_1 := hp_1.2.2
  have e_1 := q_1.symm
  have k2_1 := k2
  have hN_1 := hN
  rw [← eT] at k2_1 hN_1
  have hI_1 : OI g 1 G_1 := hI.frc hF_1 (by decide) rfl trivial trivial trivial trivial
  refine lv_aload_n hx hb dL_law_976 rfl (lv_at hl 2 rfl) ?_
  refine lw_arg (k := 1) hx hb hXs hbl hS_1 hl hi hL (by decide) (by decide +kernel) dL_law_977 dL_law_978 dL_law_980 dL_law_981 dL_law_982 ?_
  refine lw_arg (k := 2) hx hb hXs hbl hS_1 hl hi hL (by decide) (by decide +kernel) dL_law_983 dL_law_984 dL_law_986 dL_law_987 dL_law_988 ?_
  obtain ⟨_, ⟨rfl, tm_, mk_⟩, o_m⟩ := hH_1 _ _ k2_1
  refine va_calli (va_runV (As := [.int (xs (i + 1)), .int (xs (i + 2))]) (rest := [.int r_1]) ⟨hx, hb, hml, hown, hts2⟩ (c_X12_alike_z l g Ty_1 G_1 _ (s.heap.size + 40) (xs (i + 1)) (xs (i + 2)) k2_1 1 hI_1 (by omega) hLD ((hF_1.2.1 _ trivial).trans ro_100)) (cwV 2 hts2 (gwV mw_1746 mw_1747 mw_1748 mw_88 mw_1749) rfl rfl rfl hv_X12_alike ⟨Nat.le_of_ble_eq_true rfl, Nat.le_of_ble_eq_true rfl⟩) ⟨PcT_blind, hg_recv hK o_m rfl, PcT_pre hK hH_1⟩ rfl rfl hl.1 rfl (lv_room (Nat.le_of_ble_eq_true rfl)) dL_law_989 ⟨by show _ ≤ 600002; omega, by show _ ≤ 7302232; omega⟩) hS_1 (fun q _ h => af_in hN_1 hS_1.1 q h) (fun q h => af_in hN_1 hS_1.1 q h) (fun r_2 u_2 t_2 H_2 locs_2 ht_2 hv_2 hp_2 hB_2 hz_2 hk_2 hS_2 => ?_)
  have q_2 := hp_2.2.2.2
  rw [((hF_1.2.1 _ trivial).trans ro_100)] at q_2
  have e_2 := q_2.symm
  have hr_2 : r_1 = r_2 := e_1.trans ((fr_alike (xs (i + 1)) (xs (i + 2))).trans e_2.symm)
  refine lv_icmp_eq (tgt := 1564) hx hb dL_law_992 (by decide) (fun _ => ?_) (fun q_ => absurd hr_2 q_)
  exact W.widen (k := cells + 160) (n := slots + 3160) (by omega) (by omega) (kk _ _ _ hS_2 hl)
set_option maxHeartbeats 4000000 in
set_option maxRecDepth 100000 in
theorem lc_23 {Ty : TyM} {G : Gh} (hX : LcX p l s m meth c b L xs g i cells slots) (hl : lv_has ls 8 (lvL s b i)) (hW : LW g s.heap.size Ty G H) (hS : va_S (fun q => s.heap.size ≤ q) s.heap H locs) (kk : LcT p l e s m below meth c b i cells slots 1564 Q) : W p l e room_1 s m #[Value.ref b] below meth c H locs cells slots Q (F0 m 997 ls []) := by
  obtain ⟨hst, hL, C0, E0, hi, hc, hs⟩ := hX
  obtain ⟨hx, hb, hr, hml, hown, hts, hXs, hbl, hlocks, hgv⟩ := id C0
  obtain ⟨hK, hO, hXO, hLD, h51, hLE, hD1⟩ := id E0
  have hown : s.vm.findClass "MountPeersLaw" = some m.cls := hown
  have hts2 := lw_g2 hts
  obtain ⟨hH, hI, ⟨hE, hR⟩, hFS, k1, k2, k3, ⟨fo, oo⟩, hN⟩ := id hW
  obtain ⟨⟨ro_70, ro_71, ro_72, ro_73, ro_74⟩, nu_, nu_20, nu_23, ro_100, ro_z⟩ := id hFS
  refine lv_aload_n hx hb dL_law_997 rfl (lv_at hl 3 rfl) ?_
  obtain ⟨_, ⟨rfl, tc_, mc_⟩, o_x⟩ := hH s.heap.size _ k1
  refine va_calli (va_runV (As := []) (rest := []) ⟨hx, hb, hml, hown, hts2⟩ (c_X11_largest l g Ty G H.size s.heap.size  k1 hD1) (cwV 0 hts2 (gwV mw_986 mw_987 mw_988 mw_76 mw_989) rfl rfl rfl hv_X11_largest ⟨Nat.le_of_ble_eq_true rfl, Nat.le_of_ble_eq_true rfl⟩) ⟨PcT_blind, hg_recv hK o_x rfl, PcT_pre hK hH⟩ rfl rfl hl.1 rfl (lv_room (Nat.le_of_ble_eq_true rfl)) dL_law_998 ⟨by show _ ≤ 600002; omega, by show _ ≤ 7302232; omega⟩) hS (fun q _ h => af_in hN hS.1 q h) (fun q h => af_in hN hS.1 q h) (fun r_1 u_1 t_1 H_1 locs_1 ht_1 hv_1 hp_1 hB_1 hz_1 hk_1 hS_1 => ?_)
  obtain ⟨Ty_1, eT_⟩ : ∃ z, z = u_1.1 := ⟨_, rfl⟩
  obtain ⟨G_1, eG_⟩ : ∃ z, z = u_1.2 := ⟨_, rfl⟩
  have hH_1 : HT g Ty_1 G_1 H_1 := by rw [← ht_1, eT_, eG_]; exact hB_1
  have eT : Ty_1 = Ty := by rw [eT_]; exact hp_1.1
  have hF_1 : FR [27] [] [] G G_1 := by rw [eG_]; exact hp_1.2.1
  have q_1 := hp_1.2.2
  rw [ro_70, nu_20] at q_1
  have e_1 := q_1.symm
  have k2_1 := k2
  have hN_1 := hN
  rw [← eT] at k2_1 hN_1
  have hI_1 : OI g 1 G_1 := hI.frc hF_1 (by decide) rfl trivial trivial trivial trivial
  refine lv_aload_n hx hb dL_law_1001 rfl (lv_at hl 2 rfl) ?_
  obtain ⟨_, ⟨rfl, tm_, mk_⟩, o_m⟩ := hH_1 _ _ k2_1
  refine va_calli (va_runV (As := []) (rest := [.int r_1]) ⟨hx, hb, hml, hown, hts2⟩ (c_X12_largest_x l g Ty_1 G_1 _ (s.heap.size + 40)  k2_1 1 hI_1 (by omega) hLD) (cwV 0 hts2 (gwV mw_1754 mw_1755 mw_1756 mw_88 mw_1757) rfl rfl rfl hv_X12_largest ⟨Nat.le_of_ble_eq_true rfl, Nat.le_of_ble_eq_true rfl⟩) ⟨PcT_blind, hg_recv hK o_m rfl, PcT_pre hK hH_1⟩ rfl rfl hl.1 rfl (lv_room (Nat.le_of_ble_eq_true rfl)) dL_law_1002 ⟨by show _ ≤ 600002; omega, by show _ ≤ 7302232; omega⟩) hS_1 (fun q _ h => af_in hN_1 hS_1.1 q h) (fun q h => af_in hN_1 hS_1.1 q h) (fun r_2 u_2 t_2 H_2 locs_2 ht_2 hv_2 hp_2 hB_2 hz_2 hk_2 hS_2 => ?_)
  have q_2 := hp_2.2.2.2
  rw [((hF_1.2.1 _ trivial).trans ro_100)] at q_2
  have e_2 := q_2.symm
  have hr_2 : r_1 = r_2 := e_1.trans ((fr_largest).trans e_2.symm)
  refine lv_icmp_eq (tgt := 1564) hx hb dL_law_1005 (by decide) (fun _ => ?_) (fun q_ => absurd hr_2 q_)
  exact W.widen (k := cells + 160) (n := slots + 3160) (by omega) (by omega) (kk _ _ _ hS_2 hl)
set_option maxHeartbeats 4000000 in
set_option maxRecDepth 100000 in
theorem lc_24 {Ty : TyM} {G : Gh} (hX : LcX p l s m meth c b L xs g i cells slots) (hl : lv_has ls 8 (lvL s b i)) (hW : LW g s.heap.size Ty G H) (hS : va_S (fun q => s.heap.size ≤ q) s.heap H locs) (kk : LcT p l e s m below meth c b i cells slots 1564 Q) : W p l e room_1 s m #[Value.ref b] below meth c H locs cells slots Q (F0 m 1010 ls []) := by
  obtain ⟨hst, hL, C0, E0, hi, hc, hs⟩ := hX
  obtain ⟨hx, hb, hr, hml, hown, hts, hXs, hbl, hlocks, hgv⟩ := id C0
  obtain ⟨hK, hO, hXO, hLD, h51, hLE, hD1⟩ := id E0
  have hown : s.vm.findClass "MountPeersLaw" = some m.cls := hown
  have hts2 := lw_g2 hts
  obtain ⟨hH, hI, ⟨hE, hR⟩, hFS, k1, k2, k3, ⟨fo, oo⟩, hN⟩ := id hW
  obtain ⟨⟨ro_70, ro_71, ro_72, ro_73, ro_74⟩, nu_, nu_20, nu_23, ro_100, ro_z⟩ := id hFS
  refine lv_aload_n hx hb dL_law_1010 rfl (lv_at hl 3 rfl) ?_
  refine lw_arg (k := 1) hx hb hXs hbl hS hl hi hL (by decide) (by decide +kernel) dL_law_1011 dL_law_1012 dL_law_1014 dL_law_1015 dL_law_1016 ?_
  refine lw_arg (k := 2) hx hb hXs hbl hS hl hi hL (by decide) (by decide +kernel) dL_law_1017 dL_law_1018 dL_law_1020 dL_law_1021 dL_law_1022 ?_
  obtain ⟨_, ⟨rfl, tc_, mc_⟩, o_x⟩ := hH s.heap.size _ k1
  refine va_calli (va_runV (As := [.int (xs (i + 1)), .int (xs (i + 2))]) (rest := []) ⟨hx, hb, hml, hown, hts2⟩ (c_X11_would l g Ty G H.size s.heap.size (xs (i + 1)) (xs (i + 2)) k1 hD1 (nu_ 24 (by decide))) (cwV 2 hts2 (gwV mw_990 mw_991 mw_992 mw_76 mw_993) rfl rfl rfl hv_X11_would ⟨Nat.le_of_ble_eq_true rfl, Nat.le_of_ble_eq_true rfl⟩) ⟨PcT_blind, hg_recv hK o_x rfl, PcT_pre hK hH⟩ rfl rfl hl.1 rfl (lv_room (Nat.le_of_ble_eq_true rfl)) dL_law_1023 ⟨by show _ ≤ 600002; omega, by show _ ≤ 7302232; omega⟩) hS (fun q _ h => af_in hN hS.1 q h) (fun q h => af_in hN hS.1 q h) (fun r_1 u_1 t_1 H_1 locs_1 ht_1 hv_1 hp_1 hB_1 hz_1 hk_1 hS_1 => ?_)
  obtain ⟨Ty_1, eT_⟩ : ∃ z, z = u_1.1 := ⟨_, rfl⟩
  obtain ⟨G_1, eG_⟩ : ∃ z, z = u_1.2 := ⟨_, rfl⟩
  have hH_1 : HT g Ty_1 G_1 H_1 := by rw [← ht_1, eT_, eG_]; exact hB_1
  have eT : Ty_1 = Ty := by rw [eT_]; exact hp_1.1
  have hF_1 : FR [27] [] [] G G_1 := by rw [eG_]; exact hp_1.2.1
  have q_1 := hp_1.2.2
  rw [ro_70, ro_71, ro_72, nu_20] at q_1
  have e_1 := q_1.symm
  have k2_1 := k2
  have hN_1 := hN
  rw [← eT] at k2_1 hN_1
  have hI_1 : OI g 1 G_1 := hI.frc hF_1 (by decide) rfl trivial trivial trivial trivial
  refine lv_aload_n hx hb dL_law_1026 rfl (lv_at hl 2 rfl) ?_
  refine lw_arg (k := 1) hx hb hXs hbl hS_1 hl hi hL (by decide) (by decide +kernel) dL_law_1027 dL_law_1028 dL_law_1030 dL_law_1031 dL_law_1032 ?_
  refine lw_arg (k := 2) hx hb hXs hbl hS_1 hl hi hL (by decide) (by decide +kernel) dL_law_1033 dL_law_1034 dL_law_1036 dL_law_1037 dL_law_1038 ?_
  obtain ⟨_, ⟨rfl, tm_, mk_⟩, o_m⟩ := hH_1 _ _ k2_1
  refine va_calli (va_runV (As := [.int (xs (i + 1)), .int (xs (i + 2))]) (rest := [.int r_1]) ⟨hx, hb, hml, hown, hts2⟩ (c_X12_would_x l g Ty_1 G_1 _ (s.heap.size + 40) (xs (i + 1)) (xs (i + 2)) k2_1 1 hI_1 (by omega) hLD) (cwV 2 hts2 (gwV mw_1758 mw_1759 mw_1760 mw_88 mw_1761) rfl rfl rfl hv_X12_would ⟨Nat.le_of_ble_eq_true rfl, Nat.le_of_ble_eq_true rfl⟩) ⟨PcT_blind, hg_recv hK o_m rfl, PcT_pre hK hH_1⟩ rfl rfl hl.1 rfl (lv_room (Nat.le_of_ble_eq_true rfl)) dL_law_1039 ⟨by show _ ≤ 600002; omega, by show _ ≤ 7302232; omega⟩) hS_1 (fun q _ h => af_in hN_1 hS_1.1 q h) (fun q h => af_in hN_1 hS_1.1 q h) (fun r_2 u_2 t_2 H_2 locs_2 ht_2 hv_2 hp_2 hB_2 hz_2 hk_2 hS_2 => ?_)
  have q_2 := hp_2.2.2.2
  rw [((hF_1.2.1 _ trivial).trans ro_100), ((hF_1.2.1 _ trivial).trans (ro_z 111 (by decide))), ((hF_1.1 113 (by decide)).trans (nu_ 113 (by decide)))] at q_2
  have e_2 := q_2.symm
  have hr_2 : r_1 = r_2 := e_1.trans ((fr_would (xs (i + 1)) (xs (i + 2))).trans e_2.symm)
  refine lv_icmp_eq (tgt := 1564) hx hb dL_law_1042 (by decide) (fun _ => ?_) (fun q_ => absurd hr_2 q_)
  exact W.widen (k := cells + 160) (n := slots + 3160) (by omega) (by omega) (kk _ _ _ hS_2 hl)
set_option maxHeartbeats 4000000 in
set_option maxRecDepth 100000 in
theorem lc_25 {Ty : TyM} {G : Gh} (hX : LcX p l s m meth c b L xs g i cells slots) (hl : lv_has ls 8 (lvL s b i)) (hW : LW g s.heap.size Ty G H) (hS : va_S (fun q => s.heap.size ≤ q) s.heap H locs) (kk : LcT p l e s m below meth c b i cells slots 1564 Q) : W p l e room_1 s m #[Value.ref b] below meth c H locs cells slots Q (F0 m 1047 ls []) := by
  obtain ⟨hst, hL, C0, E0, hi, hc, hs⟩ := hX
  obtain ⟨hx, hb, hr, hml, hown, hts, hXs, hbl, hlocks, hgv⟩ := id C0
  obtain ⟨hK, hO, hXO, hLD, h51, hLE, hD1⟩ := id E0
  have hown : s.vm.findClass "MountPeersLaw" = some m.cls := hown
  have hts2 := lw_g2 hts
  obtain ⟨hH, hI, ⟨hE, hR⟩, hFS, k1, k2, k3, ⟨fo, oo⟩, hN⟩ := id hW
  obtain ⟨⟨ro_70, ro_71, ro_72, ro_73, ro_74⟩, nu_, nu_20, nu_23, ro_100, ro_z⟩ := id hFS
  refine lv_aload_n hx hb dL_law_1047 rfl (lv_at hl 3 rfl) ?_
  refine lw_arg (k := 1) hx hb hXs hbl hS hl hi hL (by decide) (by decide +kernel) dL_law_1048 dL_law_1049 dL_law_1051 dL_law_1052 dL_law_1053 ?_
  refine lw_arg (k := 2) hx hb hXs hbl hS hl hi hL (by decide) (by decide +kernel) dL_law_1054 dL_law_1055 dL_law_1057 dL_law_1058 dL_law_1059 ?_
  obtain ⟨_, ⟨rfl, tc_, mc_⟩, o_x⟩ := hH s.heap.size _ k1
  refine va_calli (va_runV (As := [.int (xs (i + 1)), .int (xs (i + 2))]) (rest := []) ⟨hx, hb, hml, hown, hts2⟩ (c_X11_lost l g Ty G H.size s.heap.size (xs (i + 1)) (xs (i + 2)) k1 hD1 (nu_ 24 (by decide))) (cwV 2 hts2 (gwV mw_995 mw_996 mw_997 mw_76 mw_998) rfl rfl rfl hv_X11_lost ⟨Nat.le_of_ble_eq_true rfl, Nat.le_of_ble_eq_true rfl⟩) ⟨PcT_blind, hg_recv hK o_x rfl, PcT_pre hK hH⟩ rfl rfl hl.1 rfl (lv_room (Nat.le_of_ble_eq_true rfl)) dL_law_1060 ⟨by show _ ≤ 600002; omega, by show _ ≤ 7302232; omega⟩) hS (fun q _ h => af_in hN hS.1 q h) (fun q h => af_in hN hS.1 q h) (fun r_1 u_1 t_1 H_1 locs_1 ht_1 hv_1 hp_1 hB_1 hz_1 hk_1 hS_1 => ?_)
  obtain ⟨Ty_1, eT_⟩ : ∃ z, z = u_1.1 := ⟨_, rfl⟩
  obtain ⟨G_1, eG_⟩ : ∃ z, z = u_1.2 := ⟨_, rfl⟩
  have hH_1 : HT g Ty_1 G_1 H_1 := by rw [← ht_1, eT_, eG_]; exact hB_1
  have eT : Ty_1 = Ty := by rw [eT_]; exact hp_1.1
  have hF_1 : FR [27] [] [] G G_1 := by rw [eG_]; exact hp_1.2.1
  have q_1 := hp_1.2.2
  rw [ro_70, ro_71, ro_72, nu_20] at q_1
  have e_1 := q_1.symm
  have k2_1 := k2
  have hN_1 := hN
  rw [← eT] at k2_1 hN_1
  have hI_1 : OI g 1 G_1 := hI.frc hF_1 (by decide) rfl trivial trivial trivial trivial
  refine lv_aload_n hx hb dL_law_1063 rfl (lv_at hl 2 rfl) ?_
  refine lw_arg (k := 1) hx hb hXs hbl hS_1 hl hi hL (by decide) (by decide +kernel) dL_law_1064 dL_law_1065 dL_law_1067 dL_law_1068 dL_law_1069 ?_
  refine lw_arg (k := 2) hx hb hXs hbl hS_1 hl hi hL (by decide) (by decide +kernel) dL_law_1070 dL_law_1071 dL_law_1073 dL_law_1074 dL_law_1075 ?_
  obtain ⟨_, ⟨rfl, tm_, mk_⟩, o_m⟩ := hH_1 _ _ k2_1
  refine va_calli (va_runV (As := [.int (xs (i + 1)), .int (xs (i + 2))]) (rest := [.int r_1]) ⟨hx, hb, hml, hown, hts2⟩ (c_X12_lost__x l g Ty_1 G_1 _ (s.heap.size + 40) (xs (i + 1)) (xs (i + 2)) k2_1 1 hI_1 (by omega) hLD) (cwV 2 hts2 (gwV mw_1762 mw_1763 mw_1764 mw_88 mw_1765) rfl rfl rfl hv_X12_lost_ ⟨Nat.le_of_ble_eq_true rfl, Nat.le_of_ble_eq_true rfl⟩) ⟨PcT_blind, hg_recv hK o_m rfl, PcT_pre hK hH_1⟩ rfl rfl hl.1 rfl (lv_room (Nat.le_of_ble_eq_true rfl)) dL_law_1076 ⟨by show _ ≤ 600002; omega, by show _ ≤ 7302232; omega⟩) hS_1 (fun q _ h => af_in hN_1 hS_1.1 q h) (fun q h => af_in hN_1 hS_1.1 q h) (fun r_2 u_2 t_2 H_2 locs_2 ht_2 hv_2 hp_2 hB_2 hz_2 hk_2 hS_2 => ?_)
  have q_2 := hp_2.2.2.2
  rw [((hF_1.2.1 _ trivial).trans ro_100), ((hF_1.2.1 _ trivial).trans (ro_z 111 (by decide))), ((hF_1.1 113 (by decide)).trans (nu_ 113 (by decide)))] at q_2
  have e_2 := q_2.symm
  have hr_2 : r_1 = r_2 := e_1.trans ((fr_lost (xs (i + 1)) (xs (i + 2))).trans e_2.symm)
  refine lv_icmp_eq (tgt := 1564) hx hb dL_law_1079 (by decide) (fun _ => ?_) (fun q_ => absurd hr_2 q_)
  exact W.widen (k := cells + 160) (n := slots + 3160) (by omega) (by omega) (kk _ _ _ hS_2 hl)
set_option maxHeartbeats 4000000 in
set_option maxRecDepth 100000 in
theorem lc_26 {Ty : TyM} {G : Gh} (hX : LcX p l s m meth c b L xs g i cells slots) (hl : lv_has ls 8 (lvL s b i)) (hW : LW g s.heap.size Ty G H) (hS : va_S (fun q => s.heap.size ≤ q) s.heap H locs) (kk : LcT p l e s m below meth c b i cells slots 1564 Q) : W p l e room_1 s m #[Value.ref b] below meth c H locs cells slots Q (F0 m 1084 ls []) := by
  obtain ⟨hst, hL, C0, E0, hi, hc, hs⟩ := hX
  obtain ⟨hx, hb, hr, hml, hown, hts, hXs, hbl, hlocks, hgv⟩ := id C0
  obtain ⟨hK, hO, hXO, hLD, h51, hLE, hD1⟩ := id E0
  have hown : s.vm.findClass "MountPeersLaw" = some m.cls := hown
  have hts2 := lw_g2 hts
  obtain ⟨hH, hI, ⟨hE, hR⟩, hFS, k1, k2, k3, ⟨fo, oo⟩, hN⟩ := id hW
  obtain ⟨⟨ro_70, ro_71, ro_72, ro_73, ro_74⟩, nu_, nu_20, nu_23, ro_100, ro_z⟩ := id hFS
  refine lv_aload_n hx hb dL_law_1084 rfl (lv_at hl 3 rfl) ?_
  obtain ⟨_, ⟨rfl, tc_, mc_⟩, o_x⟩ := hH s.heap.size _ k1
  refine va_calli (va_runV (As := []) (rest := []) ⟨hx, hb, hml, hown, hts2⟩ (c_X11_widest l g Ty G H.size s.heap.size  k1 hD1 (nu_ 24 (by decide))) (cwV 0 hts2 (gwV mw_1000 mw_1001 mw_1002 mw_76 mw_1003) rfl rfl rfl hv_X11_widest ⟨Nat.le_of_ble_eq_true rfl, Nat.le_of_ble_eq_true rfl⟩) ⟨PcT_blind, hg_recv hK o_x rfl, PcT_pre hK hH⟩ rfl rfl hl.1 rfl (lv_room (Nat.le_of_ble_eq_true rfl)) dL_law_1085 ⟨by show _ ≤ 600002; omega, by show _ ≤ 7302232; omega⟩) hS (fun q _ h => af_in hN hS.1 q h) (fun q h => af_in hN hS.1 q h) (fun r_1 u_1 t_1 H_1 locs_1 ht_1 hv_1 hp_1 hB_1 hz_1 hk_1 hS_1 => ?_)
  obtain ⟨Ty_1, eT_⟩ : ∃ z, z = u_1.1 := ⟨_, rfl⟩
  obtain ⟨G_1, eG_⟩ : ∃ z, z = u_1.2 := ⟨_, rfl⟩
  have hH_1 : HT g Ty_1 G_1 H_1 := by rw [← ht_1, eT_, eG_]; exact hB_1
  have eT : Ty_1 = Ty := by rw [eT_]; exact hp_1.1
  have hF_1 : FR [27] [] [] G G_1 := by rw [eG_]; exact hp_1.2.1
  have q_1 := hp_1.2.2
  rw [ro_70, ro_71, ro_72, nu_20] at q_1
  have e_1 := q_1.symm
  have k2_1 := k2
  have hN_1 := hN
  rw [← eT] at k2_1 hN_1
  have hI_1 : OI g 1 G_1 := hI.frc hF_1 (by decide) rfl trivial trivial trivial trivial
  refine lv_aload_n hx hb dL_law_1088 rfl (lv_at hl 2 rfl) ?_
  obtain ⟨_, ⟨rfl, tm_, mk_⟩, o_m⟩ := hH_1 _ _ k2_1
  refine va_calli (va_runV (As := []) (rest := [.int r_1]) ⟨hx, hb, hml, hown, hts2⟩ (c_X12_widest_x l g Ty_1 G_1 _ (s.heap.size + 40)  k2_1 1 hI_1 (by omega) hLD) (cwV 0 hts2 (gwV mw_1766 mw_1767 mw_1768 mw_88 mw_1769) rfl rfl rfl hv_X12_widest ⟨Nat.le_of_ble_eq_true rfl, Nat.le_of_ble_eq_true rfl⟩) ⟨PcT_blind, hg_recv hK o_m rfl, PcT_pre hK hH_1⟩ rfl rfl hl.1 rfl (lv_room (Nat.le_of_ble_eq_true rfl)) dL_law_1089 ⟨by show _ ≤ 600002; omega, by show _ ≤ 7302232; omega⟩) hS_1 (fun q _ h => af_in hN_1 hS_1.1 q h) (fun q h => af_in hN_1 hS_1.1 q h) (fun r_2 u_2 t_2 H_2 locs_2 ht_2 hv_2 hp_2 hB_2 hz_2 hk_2 hS_2 => ?_)
  have q_2 := hp_2.2.2.2
  rw [((hF_1.2.1 _ trivial).trans ro_100), ((hF_1.2.1 _ trivial).trans (ro_z 111 (by decide))), ((hF_1.1 113 (by decide)).trans (nu_ 113 (by decide)))] at q_2
  have e_2 := q_2.symm
  have hr_2 : r_1 = r_2 := e_1.trans ((fr_widest).trans e_2.symm)
  refine lv_icmp_eq (tgt := 1564) hx hb dL_law_1092 (by decide) (fun _ => ?_) (fun q_ => absurd hr_2 q_)
  exact W.widen (k := cells + 160) (n := slots + 3160) (by omega) (by omega) (kk _ _ _ hS_2 hl)
set_option maxHeartbeats 4000000 in
set_option maxRecDepth 100000 in
theorem lc_27 {Ty : TyM} {G : Gh} (hX : LcX p l s m meth c b L xs g i cells slots) (hl : lv_has ls 8 (lvL s b i)) (hW : LW g s.heap.size Ty G H) (hS : va_S (fun q => s.heap.size ≤ q) s.heap H locs) (kk : LcT p l e s m below meth c b i cells slots 1564 Q) : W p l e room_1 s m #[Value.ref b] below meth c H locs cells slots Q (F0 m 1097 ls []) := by
  obtain ⟨hst, hL, C0, E0, hi, hc, hs⟩ := hX
  obtain ⟨hx, hb, hr, hml, hown, hts, hXs, hbl, hlocks, hgv⟩ := id C0
  obtain ⟨hK, hO, hXO, hLD, h51, hLE, hD1⟩ := id E0
  have hown : s.vm.findClass "MountPeersLaw" = some m.cls := hown
  have hts2 := lw_g2 hts
  obtain ⟨hH, hI, ⟨hE, hR⟩, hFS, k1, k2, k3, ⟨fo, oo⟩, hN⟩ := id hW
  obtain ⟨⟨ro_70, ro_71, ro_72, ro_73, ro_74⟩, nu_, nu_20, nu_23, ro_100, ro_z⟩ := id hFS
  refine lv_aload_n hx hb dL_law_1097 rfl (lv_at hl 3 rfl) ?_
  refine lw_arg (k := 1) hx hb hXs hbl hS hl hi hL (by decide) (by decide +kernel) dL_law_1098 dL_law_1099 dL_law_1101 dL_law_1102 dL_law_1103 ?_
  refine lw_arg (k := 2) hx hb hXs hbl hS hl hi hL (by decide) (by decide +kernel) dL_law_1104 dL_law_1105 dL_law_1107 dL_law_1108 dL_law_1109 ?_
  obtain ⟨_, ⟨rfl, tc_, mc_⟩, o_x⟩ := hH s.heap.size _ k1
  refine va_calli (va_runV (As := [.int (xs (i + 1)), .int (xs (i + 2))]) (rest := []) ⟨hx, hb, hml, hown, hts2⟩ (c_X11_heard l g Ty G H.size s.heap.size (xs (i + 1)) (xs (i + 2)) k1 ) (cwV 2 hts2 (gwV mw_1006 mw_1007 mw_1008 mw_76 mw_1009) rfl rfl rfl hv_X11_heard ⟨Nat.le_of_ble_eq_true rfl, Nat.le_of_ble_eq_true rfl⟩) ⟨PcO_blind, hg_recv hK o_x rfl, PcO_pre hK hH (hO.narrow (af_in hN (Nat.le_refl _))) (vaS_af hS)⟩ rfl rfl hl.1 rfl (lv_room (Nat.le_of_ble_eq_true rfl)) dL_law_1110 ⟨by show _ ≤ 600002; omega, by show _ ≤ 7302232; omega⟩) hS (fun q _ h => af_in hN hS.1 q h) (fun q h => af_in hN hS.1 q h) (fun r_1 u_1 t_1 H_1 locs_1 ht_1 hv_1 hp_1 hB_1 hz_1 hk_1 hS_1 => ?_)
  obtain ⟨Ty_1, eT_⟩ : ∃ z, z = u_1.1 := ⟨_, rfl⟩
  obtain ⟨G_1, eG_⟩ : ∃ z, z = u_1.2 := ⟨_, rfl⟩
  have hH_1 : HT g Ty_1 G_1 H_1 := by rw [← ht_1, eT_, eG_]; exact hB_1
  have eT : Ty_1 = Ty := by rw [eT_]; exact hp_1.1
  have hrel := hp_1.2
  rw [← eG_] at hrel
  have k2_1 := k2
  have hN_1 := hN
  rw [← eT] at k2_1 hN_1
  have hI_1 : OI g 1 G_1 := hI.ce (CE.heard hrel) h51
  refine lv_aload_n hx hb dL_law_1113 rfl (lv_at hl 2 rfl) ?_
  refine lw_arg (k := 1) hx hb hXs hbl hS_1 hl hi hL (by decide) (by decide +kernel) dL_law_1114 dL_law_1115 dL_law_1117 dL_law_1118 dL_law_1119 ?_
  refine lw_arg (k := 2) hx hb hXs hbl hS_1 hl hi hL (by decide) (by decide +kernel) dL_law_1120 dL_law_1121 dL_law_1123 dL_law_1124 dL_law_1125 ?_
  obtain ⟨_, ⟨rfl, tm_, mk_⟩, o_m⟩ := hH_1 _ _ k2_1
  refine va_calli (va_runV (As := [.int (xs (i + 1)), .int (xs (i + 2))]) (rest := [.int r_1]) ⟨hx, hb, hml, hown, hts2⟩ (c_X12_heard l g Ty_1 G_1 _ (s.heap.size + 40) (xs (i + 1)) (xs (i + 2)) k2_1 1 hI_1 (by omega) hLD) (cwV 2 hts2 (gwV mw_1770 mw_1771 mw_1772 mw_88 mw_1773) rfl rfl rfl hv_X12_heard ⟨Nat.le_of_ble_eq_true rfl, Nat.le_of_ble_eq_true rfl⟩) ⟨PcT_blind, hg_recv hK o_m rfl, PcT_pre hK hH_1⟩ rfl rfl hl.1 rfl (lv_room (Nat.le_of_ble_eq_true rfl)) dL_law_1126 ⟨by show _ ≤ 600002; omega, by show _ ≤ 7302232; omega⟩) hS_1 (fun q _ h => af_in hN_1 hS_1.1 q h) (fun q h => af_in hN_1 hS_1.1 q h) (fun r_2 u_2 t_2 H_2 locs_2 ht_2 hv_2 hp_2 hB_2 hz_2 hk_2 hS_2 => ?_)
  obtain ⟨hr_2, hE_2⟩ := EQ5.heard hE hrel hp_2.2.1 hp_2.2.2.2
  refine lv_icmp_eq (tgt := 1564) hx hb dL_law_1129 (by decide) (fun _ => ?_) (fun q_ => absurd hr_2 q_)
  exact W.widen (k := cells + 160) (n := slots + 3160) (by omega) (by omega) (kk _ _ _ hS_2 hl)
set_option maxHeartbeats 4000000 in
set_option maxRecDepth 100000 in
theorem lc_28 {Ty : TyM} {G : Gh} (hX : LcX p l s m meth c b L xs g i cells slots) (hl : lv_has ls 8 (lvL s b i)) (hW : LW g s.heap.size Ty G H) (hS : va_S (fun q => s.heap.size ≤ q) s.heap H locs) (kk : LcT p l e s m below meth c b i cells slots 1564 Q) : W p l e room_1 s m #[Value.ref b] below meth c H locs cells slots Q (F0 m 1134 ls []) := by
  obtain ⟨hst, hL, C0, E0, hi, hc, hs⟩ := hX
  obtain ⟨hx, hb, hr, hml, hown, hts, hXs, hbl, hlocks, hgv⟩ := id C0
  obtain ⟨hK, hO, hXO, hLD, h51, hLE, hD1⟩ := id E0
  have hown : s.vm.findClass "MountPeersLaw" = some m.cls := hown
  have hts2 := lw_g2 hts
  obtain ⟨hH, hI, ⟨hE, hR⟩, hFS, k1, k2, k3, ⟨fo, oo⟩, hN⟩ := id hW
  obtain ⟨⟨ro_70, ro_71, ro_72, ro_73, ro_74⟩, nu_, nu_20, nu_23, ro_100, ro_z⟩ := id hFS
  refine lv_aload_n hx hb dL_law_1134 rfl (lv_at hl 3 rfl) ?_
  obtain ⟨_, ⟨rfl, tc_, mc_⟩, o_x⟩ := hH s.heap.size _ k1
  refine va_calli (va_runV (As := []) (rest := []) ⟨hx, hb, hml, hown, hts2⟩ (c_X11_forget l g Ty G H.size s.heap.size  k1 ) (cwV 0 hts2 (gwV mw_1016 mw_1017 mw_1018 mw_76 mw_1019) rfl rfl rfl hv_X11_forget ⟨Nat.le_of_ble_eq_true rfl, Nat.le_of_ble_eq_true rfl⟩) ⟨PcT_blind, hg_recv hK o_x rfl, PcT_pre hK hH⟩ rfl rfl hl.1 rfl (lv_room (Nat.le_of_ble_eq_true rfl)) dL_law_1135 ⟨by show _ ≤ 600002; omega, by show _ ≤ 7302232; omega⟩) hS (fun q _ h => af_in hN hS.1 q h) (fun q h => af_in hN hS.1 q h) (fun r_1 u_1 t_1 H_1 locs_1 ht_1 hv_1 hp_1 hB_1 hz_1 hk_1 hS_1 => ?_)
  obtain ⟨Ty_1, eT_⟩ : ∃ z, z = u_1.1 := ⟨_, rfl⟩
  obtain ⟨G_1, eG_⟩ : ∃ z, z = u_1.2 := ⟨_, rfl⟩
  have hH_1 : HT g Ty_1 G_1 H_1 := by rw [← ht_1, eT_, eG_]; exact hB_1
  have eT : Ty_1 = Ty := by rw [eT_]; exact hp_1.1
  have hrel := And.intro hp_1.2.1 hp_1.2.2
  rw [← eG_] at hrel
  have k2_1 := k2
  have hN_1 := hN
  rw [← eT] at k2_1 hN_1
  have hI_1 : OI g 1 G_1 := hI.ce (CE.gs hrel.2 (by decide)) h51
  refine lv_aload_n hx hb dL_law_1138 rfl (lv_at hl 2 rfl) ?_
  obtain ⟨_, ⟨rfl, tm_, mk_⟩, o_m⟩ := hH_1 _ _ k2_1
  refine va_calli (va_runV (As := []) (rest := [.int r_1]) ⟨hx, hb, hml, hown, hts2⟩ (c_X12_forget l g Ty_1 G_1 _ (s.heap.size + 40)  k2_1 ) (cwV 0 hts2 (gwV mw_1777 mw_1778 mw_1779 mw_88 mw_1780) rfl rfl rfl hv_X12_forget ⟨Nat.le_of_ble_eq_true rfl, Nat.le_of_ble_eq_true rfl⟩) ⟨PcT_blind, hg_recv hK o_m rfl, PcT_pre hK hH_1⟩ rfl rfl hl.1 rfl (lv_room (Nat.le_of_ble_eq_true rfl)) dL_law_1139 ⟨by show _ ≤ 600002; omega, by show _ ≤ 7302232; omega⟩) hS_1 (fun q _ h => af_in hN_1 hS_1.1 q h) (fun q h => af_in hN_1 hS_1.1 q h) (fun r_2 u_2 t_2 H_2 locs_2 ht_2 hv_2 hp_2 hB_2 hz_2 hk_2 hS_2 => ?_)
  obtain ⟨hr_2, hE_2⟩ := EQ5.fg hE hrel hp_2.2
  refine lv_icmp_eq (tgt := 1564) hx hb dL_law_1142 (by decide) (fun _ => ?_) (fun q_ => absurd hr_2 q_)
  exact W.widen (k := cells + 160) (n := slots + 3160) (by omega) (by omega) (kk _ _ _ hS_2 hl)
set_option maxHeartbeats 4000000 in
set_option maxRecDepth 100000 in
theorem lc_29 {Ty : TyM} {G : Gh} (hX : LcX p l s m meth c b L xs g i cells slots) (hl : lv_has ls 8 (lvL s b i)) (hW : LW g s.heap.size Ty G H) (hS : va_S (fun q => s.heap.size ≤ q) s.heap H locs) (kk : LcT p l e s m below meth c b i cells slots 1564 Q) : W p l e room_1 s m #[Value.ref b] below meth c H locs cells slots Q (F0 m 1147 ls []) := by
  obtain ⟨hst, hL, C0, E0, hi, hc, hs⟩ := hX
  obtain ⟨hx, hb, hr, hml, hown, hts, hXs, hbl, hlocks, hgv⟩ := id C0
  obtain ⟨hK, hO, hXO, hLD, h51, hLE, hD1⟩ := id E0
  have hown : s.vm.findClass "MountPeersLaw" = some m.cls := hown
  have hts2 := lw_g2 hts
  obtain ⟨hH, hI, ⟨hE, hR⟩, hFS, k1, k2, k3, ⟨fo, oo⟩, hN⟩ := id hW
  obtain ⟨⟨ro_70, ro_71, ro_72, ro_73, ro_74⟩, nu_, nu_20, nu_23, ro_100, ro_z⟩ := id hFS
  refine lv_aload_n hx hb dL_law_1147 rfl (lv_at hl 3 rfl) ?_
  obtain ⟨_, ⟨rfl, tc_, mc_⟩, o_x⟩ := hH s.heap.size _ k1
  refine va_calli (va_runV (As := []) (rest := []) ⟨hx, hb, hml, hown, hts2⟩ (c_X11_fits l g Ty G H.size s.heap.size  k1 hD1 (nu_ 1 (by decide))) (cwV 0 hts2 (gwV mw_1020 mw_1021 mw_1022 mw_76 mw_1023) rfl rfl rfl hv_X11_fits ⟨Nat.le_of_ble_eq_true rfl, Nat.le_of_ble_eq_true rfl⟩) ⟨PcT_blind, hg_recv hK o_x rfl, PcT_pre hK hH⟩ rfl rfl hl.1 rfl (lv_room (Nat.le_of_ble_eq_true rfl)) dL_law_1148 ⟨by show _ ≤ 600002; omega, by show _ ≤ 7302232; omega⟩) hS (fun q _ h => af_in hN hS.1 q h) (fun q h => af_in hN hS.1 q h) (fun r_1 u_1 t_1 H_1 locs_1 ht_1 hv_1 hp_1 hB_1 hz_1 hk_1 hS_1 => ?_)
  obtain ⟨Ty_1, eT_⟩ : ∃ z, z = u_1.1 := ⟨_, rfl⟩
  obtain ⟨G_1, eG_⟩ : ∃ z, z = u_1.2 := ⟨_, rfl⟩
  have hH_1 : HT g Ty_1 G_1 H_1 := by rw [← ht_1, eT_, eG_]; exact hB_1
  have eT : Ty_1 = Ty := by rw [eT_]; exact hp_1.1
  have hF_1 : FR [27] [] [] G G_1 := by rw [eG_]; exact hp_1.2.1
  have q_1 := hp_1.2.2
  rw [nu_20] at q_1
  have e_1 := q_1.symm
  have k2_1 := k2
  have hN_1 := hN
  rw [← eT] at k2_1 hN_1
  have hI_1 : OI g 1 G_1 := hI.frc hF_1 (by decide) rfl trivial trivial trivial trivial
  refine lv_aload_n hx hb dL_law_1151 rfl (lv_at hl 2 rfl) ?_
  obtain ⟨_, ⟨rfl, tm_, mk_⟩, o_m⟩ := hH_1 _ _ k2_1
  refine va_calli (va_runV (As := []) (rest := [.int r_1]) ⟨hx, hb, hml, hown, hts2⟩ (c_X12_fits_x l g Ty_1 G_1 _ (s.heap.size + 40)  k2_1 1 hI_1 (by omega) hLD ((hF_1.1 133 (by decide)).trans (nu_ 133 (by decide)))) (cwV 0 hts2 (gwV mw_1781 mw_1782 mw_1783 mw_88 mw_1784) rfl rfl rfl hv_X12_fits ⟨Nat.le_of_ble_eq_true rfl, Nat.le_of_ble_eq_true rfl⟩) ⟨PcT_blind, hg_recv hK o_m rfl, PcT_pre hK hH_1⟩ rfl rfl hl.1 rfl (lv_room (Nat.le_of_ble_eq_true rfl)) dL_law_1152 ⟨by show _ ≤ 600002; omega, by show _ ≤ 7302232; omega⟩) hS_1 (fun q _ h => af_in hN_1 hS_1.1 q h) (fun q h => af_in hN_1 hS_1.1 q h) (fun r_2 u_2 t_2 H_2 locs_2 ht_2 hv_2 hp_2 hB_2 hz_2 hk_2 hS_2 => ?_)
  have q_2 := hp_2.2.2.2
  rw [((hF_1.2.1 _ trivial).trans ro_100)] at q_2
  have e_2 := q_2.symm
  have hr_2 : r_1 = r_2 := e_1.trans ((fr_fits).trans e_2.symm)
  refine lv_icmp_eq (tgt := 1564) hx hb dL_law_1155 (by decide) (fun _ => ?_) (fun q_ => absurd hr_2 q_)
  exact W.widen (k := cells + 160) (n := slots + 3160) (by omega) (by omega) (kk _ _ _ hS_2 hl)
set_option maxHeartbeats 4000000 in
set_option maxRecDepth 100000 in
theorem lc_30 {Ty : TyM} {G : Gh} (hX : LcX p l s m meth c b L xs g i cells slots) (hl : lv_has ls 8 (lvL s b i)) (hW : LW g s.heap.size Ty G H) (hS : va_S (fun q => s.heap.size ≤ q) s.heap H locs) (kk : LcT p l e s m below meth c b i cells slots 1564 Q) : W p l e room_1 s m #[Value.ref b] below meth c H locs cells slots Q (F0 m 1160 ls []) := by
  obtain ⟨hst, hL, C0, E0, hi, hc, hs⟩ := hX
  obtain ⟨hx, hb, hr, hml, hown, hts, hXs, hbl, hlocks, hgv⟩ := id C0
  obtain ⟨hK, hO, hXO, hLD, h51, hLE, hD1⟩ := id E0
  have hown : s.vm.findClass "MountPeersLaw" = some m.cls := hown
  have hts2 := lw_g2 hts
  obtain ⟨hH, hI, ⟨hE, hR⟩, hFS, k1, k2, k3, ⟨fo, oo⟩, hN⟩ := id hW
  obtain ⟨⟨ro_70, ro_71, ro_72, ro_73, ro_74⟩, nu_, nu_20, nu_23, ro_100, ro_z⟩ := id hFS
  refine lv_aload_n hx hb dL_law_1160 rfl (lv_at hl 3 rfl) ?_
  obtain ⟨_, ⟨rfl, tc_, mc_⟩, o_x⟩ := hH s.heap.size _ k1
  refine va_calli (va_runV (As := []) (rest := []) ⟨hx, hb, hml, hown, hts2⟩ (c_X11_asks l g Ty G H.size s.heap.size  k1 hD1 (nu_ 1 (by decide))) (cwV 0 hts2 (gwV mw_1047 mw_1048 mw_1049 mw_76 mw_1050) rfl rfl rfl hv_X11_asks ⟨Nat.le_of_ble_eq_true rfl, Nat.le_of_ble_eq_true rfl⟩) ⟨PcO_blind, hg_recv hK o_x rfl, PcO_pre hK hH (hO.narrow (af_in hN (Nat.le_refl _))) (vaS_af hS)⟩ rfl rfl hl.1 rfl (lv_room (Nat.le_of_ble_eq_true rfl)) dL_law_1161 ⟨by show _ ≤ 600002; omega, by show _ ≤ 7302232; omega⟩) hS (fun q _ h => af_in hN hS.1 q h) (fun q h => af_in hN hS.1 q h) (fun r_1 u_1 t_1 H_1 locs_1 ht_1 hv_1 hp_1 hB_1 hz_1 hk_1 hS_1 => ?_)
  obtain ⟨Ty_1, eT_⟩ : ∃ z, z = u_1.1 := ⟨_, rfl⟩
  obtain ⟨G_1, eG_⟩ : ∃ z, z = u_1.2 := ⟨_, rfl⟩
  have hH_1 : HT g Ty_1 G_1 H_1 := by rw [← ht_1, eT_, eG_]; exact hB_1
  have eT : Ty_1 = Ty := by rw [eT_]; exact hp_1.1
  have hF_1 : FR [26, 27] [(g.2.2 74)] [] G G_1 := by rw [eG_]; exact hp_1.2.1
  have q_1 := hp_1.2.2
  rw [ro_70, ro_71, ro_72, ro_74, nu_20, (nu_ 21 (by decide)), (nu_ 26 (by decide))] at q_1
  have e_1 := (congrArg Prod.fst q_1).symm
  have k2_1 := k2
  have hN_1 := hN
  rw [← eT] at k2_1 hN_1
  have hI_1 : OI g 1 G_1 := hI.frc hF_1 (by decide) rfl ⟨hD1 100 (by decide) 74 (by decide) (by decide), trivial⟩ ⟨hD1 121 (by decide) 74 (by decide) (by decide), trivial⟩ ⟨hD1 140 (by decide) 74 (by decide) (by decide), trivial⟩ ⟨hD1 141 (by decide) 74 (by decide) (by decide), trivial⟩
  refine lv_aload_n hx hb dL_law_1164 rfl (lv_at hl 2 rfl) ?_
  obtain ⟨_, ⟨rfl, tm_, mk_⟩, o_m⟩ := hH_1 _ _ k2_1
  refine va_calli (va_runV (As := []) (rest := [.int r_1]) ⟨hx, hb, hml, hown, hts2⟩ (c_X12_asks_x l g Ty_1 G_1 _ (s.heap.size + 40)  k2_1 1 hI_1 (by omega) hLD ((hF_1.1 133 (by decide)).trans (nu_ 133 (by decide)))) (cwV 0 hts2 (gwV mw_1793 mw_1794 mw_1795 mw_88 mw_1796) rfl rfl rfl hv_X12_asks ⟨Nat.le_of_ble_eq_true rfl, Nat.le_of_ble_eq_true rfl⟩) ⟨PcT_blind, hg_recv hK o_m rfl, PcT_pre hK hH_1⟩ rfl rfl hl.1 rfl (lv_room (Nat.le_of_ble_eq_true rfl)) dL_law_1165 ⟨by show _ ≤ 600002; omega, by show _ ≤ 7302232; omega⟩) hS_1 (fun q _ h => af_in hN_1 hS_1.1 q h) (fun q h => af_in hN_1 hS_1.1 q h) (fun r_2 u_2 t_2 H_2 locs_2 ht_2 hv_2 hp_2 hB_2 hz_2 hk_2 hS_2 => ?_)
  have q_2 := hp_2.2.2.2
  rw [((hF_1.2.1 _ ⟨hD1 100 (by decide) 74 (by decide) (by decide), trivial⟩).trans ro_100)] at q_2
  have e_2 := q_2.symm
  have hr_2 : r_1 = r_2 := e_1.trans ((fr_asks).trans e_2.symm)
  refine lv_icmp_eq (tgt := 1564) hx hb dL_law_1168 (by decide) (fun _ => ?_) (fun q_ => absurd hr_2 q_)
  exact W.widen (k := cells + 160) (n := slots + 3160) (by omega) (by omega) (kk _ _ _ hS_2 hl)
set_option maxHeartbeats 4000000 in
set_option maxRecDepth 100000 in
theorem lc_31 {Ty : TyM} {G : Gh} (hX : LcX p l s m meth c b L xs g i cells slots) (hl : lv_has ls 8 (lvL s b i)) (hW : LW g s.heap.size Ty G H) (hS : va_S (fun q => s.heap.size ≤ q) s.heap H locs) (kk : LcT p l e s m below meth c b i cells slots 1564 Q) : W p l e room_1 s m #[Value.ref b] below meth c H locs cells slots Q (F0 m 1173 ls []) := by
  obtain ⟨hst, hL, C0, E0, hi, hc, hs⟩ := hX
  obtain ⟨hx, hb, hr, hml, hown, hts, hXs, hbl, hlocks, hgv⟩ := id C0
  obtain ⟨hK, hO, hXO, hLD, h51, hLE, hD1⟩ := id E0
  have hown : s.vm.findClass "MountPeersLaw" = some m.cls := hown
  have hts2 := lw_g2 hts
  obtain ⟨hH, hI, ⟨hE, hR⟩, hFS, k1, k2, k3, ⟨fo, oo⟩, hN⟩ := id hW
  obtain ⟨⟨ro_70, ro_71, ro_72, ro_73, ro_74⟩, nu_, nu_20, nu_23, ro_100, ro_z⟩ := id hFS
  refine lv_aload_n hx hb dL_law_1173 rfl (lv_at hl 3 rfl) ?_
  refine lw_arg (k := 1) hx hb hXs hbl hS hl hi hL (by decide) (by decide +kernel) dL_law_1174 dL_law_1175 dL_law_1177 dL_law_1178 dL_law_1179 ?_
  refine lw_arg (k := 2) hx hb hXs hbl hS hl hi hL (by decide) (by decide +kernel) dL_law_1180 dL_law_1181 dL_law_1183 dL_law_1184 dL_law_1185 ?_
  refine lw_arg (k := 3) hx hb hXs hbl hS hl hi hL (by decide) (by decide +kernel) dL_law_1186 dL_law_1187 dL_law_1189 dL_law_1190 dL_law_1191 ?_
  obtain ⟨_, ⟨rfl, tc_, mc_⟩, o_x⟩ := hH s.heap.size _ k1
  refine va_calli (va_runV (As := [.int (xs (i + 1)), .int (xs (i + 2)), .int (xs (i + 3))]) (rest := []) ⟨hx, hb, hml, hown, hts2⟩ (c_X11_saw l g Ty G H.size s.heap.size (xs (i + 1)) (xs (i + 2)) (xs (i + 3)) k1 ) (cwV 3 hts2 (gwV mw_1057 mw_1058 mw_1059 mw_76 mw_1060) rfl rfl rfl hv_X11_saw ⟨Nat.le_of_ble_eq_true rfl, Nat.le_of_ble_eq_true rfl⟩) ⟨PcT_blind, hg_recv hK o_x rfl, PcT_pre hK hH⟩ rfl rfl hl.1 rfl (lv_room (Nat.le_of_ble_eq_true rfl)) dL_law_1192 ⟨by show _ ≤ 600002; omega, by show _ ≤ 7302232; omega⟩) hS (fun q _ h => af_in hN hS.1 q h) (fun q h => af_in hN hS.1 q h) (fun r_1 u_1 t_1 H_1 locs_1 ht_1 hv_1 hp_1 hB_1 hz_1 hk_1 hS_1 => ?_)
  obtain ⟨Ty_1, eT_⟩ : ∃ z, z = u_1.1 := ⟨_, rfl⟩
  obtain ⟨G_1, eG_⟩ : ∃ z, z = u_1.2 := ⟨_, rfl⟩
  have hH_1 : HT g Ty_1 G_1 H_1 := by rw [← ht_1, eT_, eG_]; exact hB_1
  have eT : Ty_1 = Ty := by rw [eT_]; exact hp_1.1
  have hrel := hp_1.2
  rw [← eG_] at hrel
  have k2_1 := k2
  have hN_1 := hN
  rw [← eT] at k2_1 hN_1
  have hI_1 : OI g 1 G_1 := hI.saw hLE hrel
  refine lv_aload_n hx hb dL_law_1195 rfl (lv_at hl 2 rfl) ?_
  refine lw_arg (k := 1) hx hb hXs hbl hS_1 hl hi hL (by decide) (by decide +kernel) dL_law_1196 dL_law_1197 dL_law_1199 dL_law_1200 dL_law_1201 ?_
  refine lw_arg (k := 2) hx hb hXs hbl hS_1 hl hi hL (by decide) (by decide +kernel) dL_law_1202 dL_law_1203 dL_law_1205 dL_law_1206 dL_law_1207 ?_
  refine lw_arg (k := 3) hx hb hXs hbl hS_1 hl hi hL (by decide) (by decide +kernel) dL_law_1208 dL_law_1209 dL_law_1211 dL_law_1212 dL_law_1213 ?_
  obtain ⟨_, ⟨rfl, tm_, mk_⟩, o_m⟩ := hH_1 _ _ k2_1
  refine va_calli (va_runV (As := [.int (xs (i + 1)), .int (xs (i + 2)), .int (xs (i + 3))]) (rest := [.int r_1]) ⟨hx, hb, hml, hown, hts2⟩ (c_X12_saw l g Ty_1 G_1 _ (s.heap.size + 40) (xs (i + 1)) (xs (i + 2)) (xs (i + 3)) k2_1 1 hI_1 (by omega) hLD) (cwV 3 hts2 (gwV mw_1798 mw_1799 mw_1800 mw_88 mw_1801) rfl rfl rfl hv_X12_saw ⟨Nat.le_of_ble_eq_true rfl, Nat.le_of_ble_eq_true rfl⟩) ⟨PcT_blind, hg_recv hK o_m rfl, PcT_pre hK hH_1⟩ rfl rfl hl.1 rfl (lv_room (Nat.le_of_ble_eq_true rfl)) dL_law_1214 ⟨by show _ ≤ 600002; omega, by show _ ≤ 7302232; omega⟩) hS_1 (fun q _ h => af_in hN_1 hS_1.1 q h) (fun q h => af_in hN_1 hS_1.1 q h) (fun r_2 u_2 t_2 H_2 locs_2 ht_2 hv_2 hp_2 hB_2 hz_2 hk_2 hS_2 => ?_)
  obtain ⟨hr_2, hE_2⟩ := EQ5.saw hLD hLE hE hrel hp_2.2.1 hp_2.2.2.2.1
  refine lv_icmp_eq (tgt := 1564) hx hb dL_law_1217 (by decide) (fun _ => ?_) (fun q_ => absurd hr_2 q_)
  exact W.widen (k := cells + 160) (n := slots + 3160) (by omega) (by omega) (kk _ _ _ hS_2 hl)
set_option maxHeartbeats 4000000 in
set_option maxRecDepth 100000 in
theorem lc_32 {Ty : TyM} {G : Gh} (hX : LcX p l s m meth c b L xs g i cells slots) (hl : lv_has ls 8 (lvL s b i)) (hW : LW g s.heap.size Ty G H) (hS : va_S (fun q => s.heap.size ≤ q) s.heap H locs) (kk : LcT p l e s m below meth c b i cells slots 1564 Q) : W p l e room_1 s m #[Value.ref b] below meth c H locs cells slots Q (F0 m 1222 ls []) := by
  obtain ⟨hst, hL, C0, E0, hi, hc, hs⟩ := hX
  obtain ⟨hx, hb, hr, hml, hown, hts, hXs, hbl, hlocks, hgv⟩ := id C0
  obtain ⟨hK, hO, hXO, hLD, h51, hLE, hD1⟩ := id E0
  have hown : s.vm.findClass "MountPeersLaw" = some m.cls := hown
  have hts2 := lw_g2 hts
  obtain ⟨hH, hI, ⟨hE, hR⟩, hFS, k1, k2, k3, ⟨fo, oo⟩, hN⟩ := id hW
  obtain ⟨⟨ro_70, ro_71, ro_72, ro_73, ro_74⟩, nu_, nu_20, nu_23, ro_100, ro_z⟩ := id hFS
  refine lv_aload_n hx hb dL_law_1222 rfl (lv_at hl 3 rfl) ?_
  obtain ⟨_, ⟨rfl, tc_, mc_⟩, o_x⟩ := hH s.heap.size _ k1
  refine va_calli (va_runV (As := []) (rest := []) ⟨hx, hb, hml, hown, hts2⟩ (c_X11_denies l g Ty G H.size s.heap.size  k1 ) (cwV 0 hts2 (gwV mw_1065 mw_1066 mw_1067 mw_76 mw_1068) rfl rfl rfl hv_X11_denies ⟨Nat.le_of_ble_eq_true rfl, Nat.le_of_ble_eq_true rfl⟩) ⟨PcT_blind, hg_recv hK o_x rfl, PcT_pre hK hH⟩ rfl rfl hl.1 rfl (lv_room (Nat.le_of_ble_eq_true rfl)) dL_law_1223 ⟨by show _ ≤ 600002; omega, by show _ ≤ 7302232; omega⟩) hS (fun q _ h => af_in hN hS.1 q h) (fun q h => af_in hN hS.1 q h) (fun r_1 u_1 t_1 H_1 locs_1 ht_1 hv_1 hp_1 hB_1 hz_1 hk_1 hS_1 => ?_)
  obtain ⟨Ty_1, eT_⟩ : ∃ z, z = u_1.1 := ⟨_, rfl⟩
  obtain ⟨G_1, eG_⟩ : ∃ z, z = u_1.2 := ⟨_, rfl⟩
  have hH_1 : HT g Ty_1 G_1 H_1 := by rw [← ht_1, eT_, eG_]; exact hB_1
  have eT : Ty_1 = Ty := by rw [eT_]; exact hp_1.1
  have hrel := And.intro hp_1.2.1 hp_1.2.2
  rw [← eG_] at hrel
  have k2_1 := k2
  have hN_1 := hN
  rw [← eT] at k2_1 hN_1
  have hI_1 : OI g 1 G_1 := hI.ce (CE.gs hrel.2 (by decide)) h51
  refine lv_aload_n hx hb dL_law_1226 rfl (lv_at hl 2 rfl) ?_
  obtain ⟨_, ⟨rfl, tm_, mk_⟩, o_m⟩ := hH_1 _ _ k2_1
  refine va_calli (va_runV (As := []) (rest := [.int r_1]) ⟨hx, hb, hml, hown, hts2⟩ (c_X12_denies l g Ty_1 G_1 _ (s.heap.size + 40)  k2_1 ) (cwV 0 hts2 (gwV mw_1802 mw_1803 mw_1804 mw_88 mw_1805) rfl rfl rfl hv_X12_denies ⟨Nat.le_of_ble_eq_true rfl, Nat.le_of_ble_eq_true rfl⟩) ⟨PcT_blind, hg_recv hK o_m rfl, PcT_pre hK hH_1⟩ rfl rfl hl.1 rfl (lv_room (Nat.le_of_ble_eq_true rfl)) dL_law_1227 ⟨by show _ ≤ 600002; omega, by show _ ≤ 7302232; omega⟩) hS_1 (fun q _ h => af_in hN_1 hS_1.1 q h) (fun q h => af_in hN_1 hS_1.1 q h) (fun r_2 u_2 t_2 H_2 locs_2 ht_2 hv_2 hp_2 hB_2 hz_2 hk_2 hS_2 => ?_)
  obtain ⟨hr_2, hE_2⟩ := EQ5.dn hE hrel hp_2.2
  refine lv_icmp_eq (tgt := 1564) hx hb dL_law_1230 (by decide) (fun _ => ?_) (fun q_ => absurd hr_2 q_)
  exact W.widen (k := cells + 160) (n := slots + 3160) (by omega) (by omega) (kk _ _ _ hS_2 hl)
set_option maxHeartbeats 4000000 in
set_option maxRecDepth 100000 in
theorem lc_33 {Ty : TyM} {G : Gh} (hX : LcX p l s m meth c b L xs g i cells slots) (hl : lv_has ls 8 (lvL s b i)) (hW : LW g s.heap.size Ty G H) (hS : va_S (fun q => s.heap.size ≤ q) s.heap H locs) (kk : LcT p l e s m below meth c b i cells slots 1564 Q) : W p l e room_1 s m #[Value.ref b] below meth c H locs cells slots Q (F0 m 1235 ls []) := by
  obtain ⟨hst, hL, C0, E0, hi, hc, hs⟩ := hX
  obtain ⟨hx, hb, hr, hml, hown, hts, hXs, hbl, hlocks, hgv⟩ := id C0
  obtain ⟨hK, hO, hXO, hLD, h51, hLE, hD1⟩ := id E0
  have hown : s.vm.findClass "MountPeersLaw" = some m.cls := hown
  have hts2 := lw_g2 hts
  obtain ⟨hH, hI, ⟨hE, hR⟩, hFS, k1, k2, k3, ⟨fo, oo⟩, hN⟩ := id hW
  obtain ⟨⟨ro_70, ro_71, ro_72, ro_73, ro_74⟩, nu_, nu_20, nu_23, ro_100, ro_z⟩ := id hFS
  refine lv_aload_n hx hb dL_law_1235 rfl (lv_at hl 3 rfl) ?_
  obtain ⟨_, ⟨rfl, tc_, mc_⟩, o_x⟩ := hH s.heap.size _ k1
  refine va_calli (va_runV (As := []) (rest := []) ⟨hx, hb, hml, hown, hts2⟩ (c_X11_laws l g Ty G H.size s.heap.size  k1 hD1) (cwV 0 hts2 (gwV mw_1069 mw_1070 mw_1071 mw_76 mw_1072) rfl rfl rfl hv_X11_laws ⟨Nat.le_of_ble_eq_true rfl, Nat.le_of_ble_eq_true rfl⟩) ⟨PcT_blind, hg_recv hK o_x rfl, PcT_pre hK hH⟩ rfl rfl hl.1 rfl (lv_room (Nat.le_of_ble_eq_true rfl)) dL_law_1236 ⟨by show _ ≤ 600002; omega, by show _ ≤ 7302232; omega⟩) hS (fun q _ h => af_in hN hS.1 q h) (fun q h => af_in hN hS.1 q h) (fun r_1 u_1 t_1 H_1 locs_1 ht_1 hv_1 hp_1 hB_1 hz_1 hk_1 hS_1 => ?_)
  obtain ⟨Ty_1, eT_⟩ : ∃ z, z = u_1.1 := ⟨_, rfl⟩
  obtain ⟨G_1, eG_⟩ : ∃ z, z = u_1.2 := ⟨_, rfl⟩
  have hH_1 : HT g Ty_1 G_1 H_1 := by rw [← ht_1, eT_, eG_]; exact hB_1
  have hr_1 := hp_1.1
  have eT : Ty_1 = Ty := by rw [eT_]; exact hp_1.2.1
  have hF_1 : FR [27] [] [] G G_1 := by rw [eG_]; exact hp_1.2.2
  have k2_1 := k2
  have hN_1 := hN
  rw [← eT] at k2_1 hN_1
  have hI_1 : OI g 1 G_1 := hI.frc hF_1 (by decide) rfl trivial trivial trivial trivial
  refine lv_aload_n hx hb dL_law_1239 rfl (lv_at hl 2 rfl) ?_
  obtain ⟨_, ⟨rfl, tm_, mk_⟩, o_m⟩ := hH_1 _ _ k2_1
  refine va_calli (va_runV (As := []) (rest := [.int r_1]) ⟨hx, hb, hml, hown, hts2⟩ (c_X12_laws_x l g Ty_1 G_1 _ (s.heap.size + 40)  k2_1 1 hI_1 (by omega) hLD) (cwV 0 hts2 (gwV mw_1806 mw_1807 mw_1808 mw_88 mw_1809) rfl rfl rfl hv_X12_laws ⟨Nat.le_of_ble_eq_true rfl, Nat.le_of_ble_eq_true rfl⟩) ⟨PcT_blind, hg_recv hK o_m rfl, PcT_pre hK hH_1⟩ rfl rfl hl.1 rfl (lv_room (Nat.le_of_ble_eq_true rfl)) dL_law_1240 ⟨by show _ ≤ 600002; omega, by show _ ≤ 7302232; omega⟩) hS_1 (fun q _ h => af_in hN_1 hS_1.1 q h) (fun q h => af_in hN_1 hS_1.1 q h) (fun r_2 u_2 t_2 H_2 locs_2 ht_2 hv_2 hp_2 hB_2 hz_2 hk_2 hS_2 => ?_)
  have hm_2 := hp_2.2.2.2
  rw [hF_1.2.1 _ trivial, hF_1.2.1 _ trivial, hF_1.2.1 _ trivial, hF_1.1 137 (by decide)] at hm_2
  rw [hR.1, hR.2.1, hR.2.2, hE.2.2.1] at hr_1
  have hr_2 : r_1 = r_2 := by rw [hr_1, hm_2]; exact laws_eq hI.a137
  refine lv_icmp_eq (tgt := 1564) hx hb dL_law_1243 (by decide) (fun _ => ?_) (fun q_ => absurd hr_2 q_)
  exact W.widen (k := cells + 160) (n := slots + 3160) (by omega) (by omega) (kk _ _ _ hS_2 hl)
set_option maxHeartbeats 4000000 in
set_option maxRecDepth 100000 in
theorem lc_34 {Ty : TyM} {G : Gh} (hX : LcX p l s m meth c b L xs g i cells slots) (hl : lv_has ls 8 (lvL s b i)) (hW : LW g s.heap.size Ty G H) (hS : va_S (fun q => s.heap.size ≤ q) s.heap H locs) (kk : LcT p l e s m below meth c b i cells slots 1564 Q) : W p l e room_1 s m #[Value.ref b] below meth c H locs cells slots Q (F0 m 1248 ls []) := by
  obtain ⟨hst, hL, C0, E0, hi, hc, hs⟩ := hX
  obtain ⟨hx, hb, hr, hml, hown, hts, hXs, hbl, hlocks, hgv⟩ := id C0
  obtain ⟨hK, hO, hXO, hLD, h51, hLE, hD1⟩ := id E0
  have hown : s.vm.findClass "MountPeersLaw" = some m.cls := hown
  have hts2 := lw_g2 hts
  obtain ⟨hH, hI, ⟨hE, hR⟩, hFS, k1, k2, k3, ⟨fo, oo⟩, hN⟩ := id hW
  obtain ⟨⟨ro_70, ro_71, ro_72, ro_73, ro_74⟩, nu_, nu_20, nu_23, ro_100, ro_z⟩ := id hFS
  refine lv_aload_n hx hb dL_law_1248 rfl (lv_at hl 3 rfl) ?_
  obtain ⟨_, ⟨rfl, tc_, mc_⟩, o_x⟩ := hH s.heap.size _ k1
  refine va_calli (va_runV (As := []) (rest := []) ⟨hx, hb, hml, hown, hts2⟩ (c_X11_looks l g Ty G H.size s.heap.size  k1 hD1) (cwV 0 hts2 (gwV mw_1096 mw_1097 mw_1098 mw_76 mw_1099) rfl rfl rfl hv_X11_looks ⟨Nat.le_of_ble_eq_true rfl, Nat.le_of_ble_eq_true rfl⟩) ⟨PcT_blind, hg_recv hK o_x rfl, PcT_pre hK hH⟩ rfl rfl hl.1 rfl (lv_room (Nat.le_of_ble_eq_true rfl)) dL_law_1249 ⟨by show _ ≤ 600002; omega, by show _ ≤ 7302232; omega⟩) hS (fun q _ h => af_in hN hS.1 q h) (fun q h => af_in hN hS.1 q h) (fun r_1 u_1 t_1 H_1 locs_1 ht_1 hv_1 hp_1 hB_1 hz_1 hk_1 hS_1 => ?_)
  obtain ⟨Ty_1, eT_⟩ : ∃ z, z = u_1.1 := ⟨_, rfl⟩
  obtain ⟨G_1, eG_⟩ : ∃ z, z = u_1.2 := ⟨_, rfl⟩
  have hH_1 : HT g Ty_1 G_1 H_1 := by rw [← ht_1, eT_, eG_]; exact hB_1
  have hr_1 := hp_1.1
  have eT : Ty_1 = Ty := by rw [eT_]; exact hp_1.2.1
  have hF_1 : FR [27] [] [] G G_1 := by rw [eG_]; exact hp_1.2.2
  have k2_1 := k2
  have hN_1 := hN
  rw [← eT] at k2_1 hN_1
  have hI_1 : OI g 1 G_1 := hI.frc hF_1 (by decide) rfl trivial trivial trivial trivial
  refine lv_aload_n hx hb dL_law_1252 rfl (lv_at hl 2 rfl) ?_
  obtain ⟨_, ⟨rfl, tm_, mk_⟩, o_m⟩ := hH_1 _ _ k2_1
  refine va_calli (va_runV (As := []) (rest := [.int r_1]) ⟨hx, hb, hml, hown, hts2⟩ (c_X12_looks_x l g Ty_1 G_1 _ (s.heap.size + 40)  k2_1 1 hI_1 (by omega) hLD) (cwV 0 hts2 (gwV mw_1817 mw_1818 mw_1819 mw_88 mw_1820) rfl rfl rfl hv_X12_looks ⟨Nat.le_of_ble_eq_true rfl, Nat.le_of_ble_eq_true rfl⟩) ⟨PcT_blind, hg_recv hK o_m rfl, PcT_pre hK hH_1⟩ rfl rfl hl.1 rfl (lv_room (Nat.le_of_ble_eq_true rfl)) dL_law_1253 ⟨by show _ ≤ 600002; omega, by show _ ≤ 7302232; omega⟩) hS_1 (fun q _ h => af_in hN_1 hS_1.1 q h) (fun q h => af_in hN_1 hS_1.1 q h) (fun r_2 u_2 t_2 H_2 locs_2 ht_2 hv_2 hp_2 hB_2 hz_2 hk_2 hS_2 => ?_)
  have hm_2 := hp_2.2.2.2
  rw [hF_1.2.1 _ trivial, hF_1.2.1 _ trivial, hF_1.2.1 _ trivial, hF_1.1 137 (by decide)] at hm_2
  rw [hR.1, hR.2.1, hR.2.2, hE.2.2.1] at hr_1
  have hr_2 := looks_eq hI.a137 hr_1 hm_2
  refine lv_icmp_eq (tgt := 1564) hx hb dL_law_1256 (by decide) (fun _ => ?_) (fun q_ => absurd hr_2 q_)
  exact W.widen (k := cells + 160) (n := slots + 3160) (by omega) (by omega) (kk _ _ _ hS_2 hl)
set_option maxHeartbeats 4000000 in
set_option maxRecDepth 100000 in
theorem lc_35 {Ty : TyM} {G : Gh} (hX : LcX p l s m meth c b L xs g i cells slots) (hl : lv_has ls 8 (lvL s b i)) (hW : LW g s.heap.size Ty G H) (hS : va_S (fun q => s.heap.size ≤ q) s.heap H locs) (kk : LcT p l e s m below meth c b i cells slots 1564 Q) : W p l e room_1 s m #[Value.ref b] below meth c H locs cells slots Q (F0 m 1261 ls []) := by
  obtain ⟨hst, hL, C0, E0, hi, hc, hs⟩ := hX
  obtain ⟨hx, hb, hr, hml, hown, hts, hXs, hbl, hlocks, hgv⟩ := id C0
  obtain ⟨hK, hO, hXO, hLD, h51, hLE, hD1⟩ := id E0
  have hown : s.vm.findClass "MountPeersLaw" = some m.cls := hown
  have hts2 := lw_g2 hts
  obtain ⟨hH, hI, ⟨hE, hR⟩, hFS, k1, k2, k3, ⟨fo, oo⟩, hN⟩ := id hW
  obtain ⟨⟨ro_70, ro_71, ro_72, ro_73, ro_74⟩, nu_, nu_20, nu_23, ro_100, ro_z⟩ := id hFS
  refine lv_aload_n hx hb dL_law_1261 rfl (lv_at hl 3 rfl) ?_
  refine lw_arg (k := 1) hx hb hXs hbl hS hl hi hL (by decide) (by decide +kernel) dL_law_1262 dL_law_1263 dL_law_1265 dL_law_1266 dL_law_1267 ?_
  refine lw_arg (k := 2) hx hb hXs hbl hS hl hi hL (by decide) (by decide +kernel) dL_law_1268 dL_law_1269 dL_law_1271 dL_law_1272 dL_law_1273 ?_
  refine lw_arg (k := 3) hx hb hXs hbl hS hl hi hL (by decide) (by decide +kernel) dL_law_1274 dL_law_1275 dL_law_1277 dL_law_1278 dL_law_1279 ?_
  obtain ⟨_, ⟨rfl, tc_, mc_⟩, o_x⟩ := hH s.heap.size _ k1
  refine va_calli (va_runV (As := [.int (xs (i + 1)), .int (xs (i + 2)), .int (xs (i + 3))]) (rest := []) ⟨hx, hb, hml, hown, hts2⟩ (c_X11_odds l g Ty G H.size s.heap.size (xs (i + 1)) (xs (i + 2)) (xs (i + 3)) k1 hD1) (cwV 3 hts2 (gwV mw_1107 mw_1108 mw_1109 mw_76 mw_1110) rfl rfl rfl hv_X11_odds ⟨Nat.le_of_ble_eq_true rfl, Nat.le_of_ble_eq_true rfl⟩) ⟨PcT_blind, hg_recv hK o_x rfl, PcT_pre hK hH⟩ rfl rfl hl.1 rfl (lv_room (Nat.le_of_ble_eq_true rfl)) dL_law_1280 ⟨by show _ ≤ 600002; omega, by show _ ≤ 7302232; omega⟩) hS (fun q _ h => af_in hN hS.1 q h) (fun q h => af_in hN hS.1 q h) (fun r_1 u_1 t_1 H_1 locs_1 ht_1 hv_1 hp_1 hB_1 hz_1 hk_1 hS_1 => ?_)
  obtain ⟨Ty_1, eT_⟩ : ∃ z, z = u_1.1 := ⟨_, rfl⟩
  obtain ⟨G_1, eG_⟩ : ∃ z, z = u_1.2 := ⟨_, rfl⟩
  have hH_1 : HT g Ty_1 G_1 H_1 := by rw [← ht_1, eT_, eG_]; exact hB_1
  have eT : Ty_1 = Ty := by rw [eT_]; exact hp_1.1
  have hF_1 : FR [27] [] [] G G_1 := by rw [eG_]; exact hp_1.2.1
  have q_1 := hp_1.2.2
  rw [ro_71, ro_72, nu_20] at q_1
  have e_1 := q_1.symm
  have k2_1 := k2
  have hN_1 := hN
  rw [← eT] at k2_1 hN_1
  have hI_1 : OI g 1 G_1 := hI.frc hF_1 (by decide) rfl trivial trivial trivial trivial
  refine lv_aload_n hx hb dL_law_1283 rfl (lv_at hl 2 rfl) ?_
  refine lw_arg (k := 1) hx hb hXs hbl hS_1 hl hi hL (by decide) (by decide +kernel) dL_law_1284 dL_law_1285 dL_law_1287 dL_law_1288 dL_law_1289 ?_
  refine lw_arg (k := 2) hx hb hXs hbl hS_1 hl hi hL (by decide) (by decide +kernel) dL_law_1290 dL_law_1291 dL_law_1293 dL_law_1294 dL_law_1295 ?_
  refine lw_arg (k := 3) hx hb hXs hbl hS_1 hl hi hL (by decide) (by decide +kernel) dL_law_1296 dL_law_1297 dL_law_1299 dL_law_1300 dL_law_1301 ?_
  obtain ⟨_, ⟨rfl, tm_, mk_⟩, o_m⟩ := hH_1 _ _ k2_1
  refine va_calli (va_runV (As := [.int (xs (i + 1)), .int (xs (i + 2)), .int (xs (i + 3))]) (rest := [.int r_1]) ⟨hx, hb, hml, hown, hts2⟩ (c_X12_odds_x l g Ty_1 G_1 _ (s.heap.size + 40) (xs (i + 1)) (xs (i + 2)) (xs (i + 3)) k2_1 1 hI_1 (by omega) hLD) (cwV 3 hts2 (gwV mw_1821 mw_1822 mw_1823 mw_88 mw_1824) rfl rfl rfl hv_X12_odds ⟨Nat.le_of_ble_eq_true rfl, Nat.le_of_ble_eq_true rfl⟩) ⟨PcT_blind, hg_recv hK o_m rfl, PcT_pre hK hH_1⟩ rfl rfl hl.1 rfl (lv_room (Nat.le_of_ble_eq_true rfl)) dL_law_1302 ⟨by show _ ≤ 600002; omega, by show _ ≤ 7302232; omega⟩) hS_1 (fun q _ h => af_in hN_1 hS_1.1 q h) (fun q h => af_in hN_1 hS_1.1 q h) (fun r_2 u_2 t_2 H_2 locs_2 ht_2 hv_2 hp_2 hB_2 hz_2 hk_2 hS_2 => ?_)
  have q_2 := hp_2.2.2.2
  rw [((hF_1.2.1 _ trivial).trans ro_100)] at q_2
  have e_2 := q_2.symm
  have hr_2 : r_1 = r_2 := e_1.trans ((fr_odds (xs (i + 1)) (xs (i + 2)) (xs (i + 3))).trans e_2.symm)
  refine lv_icmp_eq (tgt := 1564) hx hb dL_law_1305 (by decide) (fun _ => ?_) (fun q_ => absurd hr_2 q_)
  exact W.widen (k := cells + 160) (n := slots + 3160) (by omega) (by omega) (kk _ _ _ hS_2 hl)
set_option maxHeartbeats 4000000 in
set_option maxRecDepth 100000 in
theorem lc_36 {Ty : TyM} {G : Gh} (hX : LcX p l s m meth c b L xs g i cells slots) (hl : lv_has ls 8 (lvL s b i)) (hW : LW g s.heap.size Ty G H) (hS : va_S (fun q => s.heap.size ≤ q) s.heap H locs) (kk : LcT p l e s m below meth c b i cells slots 1564 Q) : W p l e room_1 s m #[Value.ref b] below meth c H locs cells slots Q (F0 m 1310 ls []) := by
  obtain ⟨hst, hL, C0, E0, hi, hc, hs⟩ := hX
  obtain ⟨hx, hb, hr, hml, hown, hts, hXs, hbl, hlocks, hgv⟩ := id C0
  obtain ⟨hK, hO, hXO, hLD, h51, hLE, hD1⟩ := id E0
  have hown : s.vm.findClass "MountPeersLaw" = some m.cls := hown
  have hts2 := lw_g2 hts
  obtain ⟨hH, hI, ⟨hE, hR⟩, hFS, k1, k2, k3, ⟨fo, oo⟩, hN⟩ := id hW
  obtain ⟨⟨ro_70, ro_71, ro_72, ro_73, ro_74⟩, nu_, nu_20, nu_23, ro_100, ro_z⟩ := id hFS
  refine lv_aload_n hx hb dL_law_1310 rfl (lv_at hl 3 rfl) ?_
  refine lw_arg (k := 1) hx hb hXs hbl hS hl hi hL (by decide) (by decide +kernel) dL_law_1311 dL_law_1312 dL_law_1314 dL_law_1315 dL_law_1316 ?_
  obtain ⟨_, ⟨rfl, tc_, mc_⟩, o_x⟩ := hH s.heap.size _ k1
  refine va_calli (va_runV (As := [.int (xs (i + 1))]) (rest := []) ⟨hx, hb, hml, hown, hts2⟩ (c_X11_hacks l g Ty G H.size s.heap.size (xs (i + 1)) k1 hD1 nu_20 ro_70) (cwV 1 hts2 (gwV mw_1124 mw_1125 mw_1126 mw_76 mw_1127) rfl rfl rfl hv_X11_hacks ⟨Nat.le_of_ble_eq_true rfl, Nat.le_of_ble_eq_true rfl⟩) ⟨PcT_blind, hg_recv hK o_x rfl, PcT_pre hK hH⟩ rfl rfl hl.1 rfl (lv_room (Nat.le_of_ble_eq_true rfl)) dL_law_1317 ⟨by show _ ≤ 600002; omega, by show _ ≤ 7302232; omega⟩) hS (fun q _ h => af_in hN hS.1 q h) (fun q h => af_in hN hS.1 q h) (fun r_1 u_1 t_1 H_1 locs_1 ht_1 hv_1 hp_1 hB_1 hz_1 hk_1 hS_1 => ?_)
  obtain ⟨Ty_1, eT_⟩ : ∃ z, z = u_1.1 := ⟨_, rfl⟩
  obtain ⟨G_1, eG_⟩ : ∃ z, z = u_1.2 := ⟨_, rfl⟩
  have hH_1 : HT g Ty_1 G_1 H_1 := by rw [← ht_1, eT_, eG_]; exact hB_1
  have eT : Ty_1 = Ty := by rw [eT_]; exact hp_1.1
  have hF_1 : FR [27] [] [] G G_1 := by rw [eG_]; exact hp_1.2.1
  have q_1 := hp_1.2.2
  have e_1 := q_1.symm
  have k2_1 := k2
  have hN_1 := hN
  rw [← eT] at k2_1 hN_1
  have hI_1 : OI g 1 G_1 := hI.frc hF_1 (by decide) rfl trivial trivial trivial trivial
  refine lv_aload_n hx hb dL_law_1320 rfl (lv_at hl 2 rfl) ?_
  refine lw_arg (k := 1) hx hb hXs hbl hS_1 hl hi hL (by decide) (by decide +kernel) dL_law_1321 dL_law_1322 dL_law_1324 dL_law_1325 dL_law_1326 ?_
  obtain ⟨_, ⟨rfl, tm_, mk_⟩, o_m⟩ := hH_1 _ _ k2_1
  refine va_calli (va_runV (As := [.int (xs (i + 1))]) (rest := [.int r_1]) ⟨hx, hb, hml, hown, hts2⟩ (c_X12_hacks_z l g Ty_1 G_1 _ (s.heap.size + 40) (xs (i + 1)) k2_1 1 hI_1 (by omega) hLD ((hF_1.2.1 _ trivial).trans ro_100)) (cwV 1 hts2 (gwV mw_1829 mw_1830 mw_1831 mw_88 mw_1832) rfl rfl rfl hv_X12_hacks ⟨Nat.le_of_ble_eq_true rfl, Nat.le_of_ble_eq_true rfl⟩) ⟨PcT_blind, hg_recv hK o_m rfl, PcT_pre hK hH_1⟩ rfl rfl hl.1 rfl (lv_room (Nat.le_of_ble_eq_true rfl)) dL_law_1327 ⟨by show _ ≤ 600002; omega, by show _ ≤ 7302232; omega⟩) hS_1 (fun q _ h => af_in hN_1 hS_1.1 q h) (fun q h => af_in hN_1 hS_1.1 q h) (fun r_2 u_2 t_2 H_2 locs_2 ht_2 hv_2 hp_2 hB_2 hz_2 hk_2 hS_2 => ?_)
  have q_2 := hp_2.2.2.2
  rw [((hF_1.2.1 _ trivial).trans ro_100), ((hF_1.1 104 (by decide)).trans (nu_ 104 (by decide)))] at q_2
  have e_2 := (congrArg Prod.fst q_2).symm
  have hr_2 : r_1 = r_2 := e_1.trans ((fr_hacks (xs (i + 1))).trans e_2.symm)
  refine lv_icmp_eq (tgt := 1564) hx hb dL_law_1330 (by decide) (fun _ => ?_) (fun q_ => absurd hr_2 q_)
  exact W.widen (k := cells + 160) (n := slots + 3160) (by omega) (by omega) (kk _ _ _ hS_2 hl)
set_option maxHeartbeats 4000000 in
set_option maxRecDepth 100000 in
theorem lc_37 {Ty : TyM} {G : Gh} (hX : LcX p l s m meth c b L xs g i cells slots) (hl : lv_has ls 8 (lvL s b i)) (hW : LW g s.heap.size Ty G H) (hS : va_S (fun q => s.heap.size ≤ q) s.heap H locs) (kk : LcT p l e s m below meth c b i cells slots 1564 Q) : W p l e room_1 s m #[Value.ref b] below meth c H locs cells slots Q (F0 m 1335 ls []) := by
  obtain ⟨hst, hL, C0, E0, hi, hc, hs⟩ := hX
  obtain ⟨hx, hb, hr, hml, hown, hts, hXs, hbl, hlocks, hgv⟩ := id C0
  obtain ⟨hK, hO, hXO, hLD, h51, hLE, hD1⟩ := id E0
  have hown : s.vm.findClass "MountPeersLaw" = some m.cls := hown
  have hts2 := lw_g2 hts
  obtain ⟨hH, hI, ⟨hE, hR⟩, hFS, k1, k2, k3, ⟨fo, oo⟩, hN⟩ := id hW
  obtain ⟨⟨ro_70, ro_71, ro_72, ro_73, ro_74⟩, nu_, nu_20, nu_23, ro_100, ro_z⟩ := id hFS
  refine lv_aload_n hx hb dL_law_1335 rfl (lv_at hl 3 rfl) ?_
  refine lw_arg (k := 1) hx hb hXs hbl hS hl hi hL (by decide) (by decide +kernel) dL_law_1336 dL_law_1337 dL_law_1339 dL_law_1340 dL_law_1341 ?_
  obtain ⟨_, ⟨rfl, tc_, mc_⟩, o_x⟩ := hH s.heap.size _ k1
  refine va_calli (va_runV (As := [.int (xs (i + 1))]) (rest := []) ⟨hx, hb, hml, hown, hts2⟩ (c_X11_rests l g Ty G H.size s.heap.size (xs (i + 1)) k1 hD1) (cwV 1 hts2 (gwV mw_1131 mw_1132 mw_1133 mw_76 mw_1134) rfl rfl rfl hv_X11_rests ⟨Nat.le_of_ble_eq_true rfl, Nat.le_of_ble_eq_true rfl⟩) ⟨PcT_blind, hg_recv hK o_x rfl, PcT_pre hK hH⟩ rfl rfl hl.1 rfl (lv_room (Nat.le_of_ble_eq_true rfl)) dL_law_1342 ⟨by show _ ≤ 600002; omega, by show _ ≤ 7302232; omega⟩) hS (fun q _ h => af_in hN hS.1 q h) (fun q h => af_in hN hS.1 q h) (fun r_1 u_1 t_1 H_1 locs_1 ht_1 hv_1 hp_1 hB_1 hz_1 hk_1 hS_1 => ?_)
  obtain ⟨Ty_1, eT_⟩ : ∃ z, z = u_1.1 := ⟨_, rfl⟩
  obtain ⟨G_1, eG_⟩ : ∃ z, z = u_1.2 := ⟨_, rfl⟩
  have hH_1 : HT g Ty_1 G_1 H_1 := by rw [← ht_1, eT_, eG_]; exact hB_1
  have eT : Ty_1 = Ty := by rw [eT_]; exact hp_1.1
  have hF_1 : FR [27] [] [] G G_1 := by rw [eG_]; exact hp_1.2.1
  have q_1 := hp_1.2.2
  have e_1 := q_1.symm
  have k2_1 := k2
  have hN_1 := hN
  rw [← eT] at k2_1 hN_1
  have hI_1 : OI g 1 G_1 := hI.frc hF_1 (by decide) rfl trivial trivial trivial trivial
  refine lv_aload_n hx hb dL_law_1345 rfl (lv_at hl 2 rfl) ?_
  refine lw_arg (k := 1) hx hb hXs hbl hS_1 hl hi hL (by decide) (by decide +kernel) dL_law_1346 dL_law_1347 dL_law_1349 dL_law_1350 dL_law_1351 ?_
  obtain ⟨_, ⟨rfl, tm_, mk_⟩, o_m⟩ := hH_1 _ _ k2_1
  refine va_calli (va_runV (As := [.int (xs (i + 1))]) (rest := [.int r_1]) ⟨hx, hb, hml, hown, hts2⟩ (c_X12_rests_x l g Ty_1 G_1 _ (s.heap.size + 40) (xs (i + 1)) k2_1 1 hI_1 (by omega) hLD) (cwV 1 hts2 (gwV mw_1839 mw_1840 mw_1841 mw_88 mw_1842) rfl rfl rfl hv_X12_rests ⟨Nat.le_of_ble_eq_true rfl, Nat.le_of_ble_eq_true rfl⟩) ⟨PcT_blind, hg_recv hK o_m rfl, PcT_pre hK hH_1⟩ rfl rfl hl.1 rfl (lv_room (Nat.le_of_ble_eq_true rfl)) dL_law_1352 ⟨by show _ ≤ 600002; omega, by show _ ≤ 7302232; omega⟩) hS_1 (fun q _ h => af_in hN_1 hS_1.1 q h) (fun q h => af_in hN_1 hS_1.1 q h) (fun r_2 u_2 t_2 H_2 locs_2 ht_2 hv_2 hp_2 hB_2 hz_2 hk_2 hS_2 => ?_)
  have q_2 := hp_2.2.2.2
  have e_2 := q_2.symm
  have hr_2 : r_1 = r_2 := e_1.trans ((fr_rests (xs (i + 1))).trans e_2.symm)
  refine lv_icmp_eq (tgt := 1564) hx hb dL_law_1355 (by decide) (fun _ => ?_) (fun q_ => absurd hr_2 q_)
  exact W.widen (k := cells + 160) (n := slots + 3160) (by omega) (by omega) (kk _ _ _ hS_2 hl)
set_option maxHeartbeats 4000000 in
set_option maxRecDepth 100000 in
theorem lc_38 {Ty : TyM} {G : Gh} (hX : LcX p l s m meth c b L xs g i cells slots) (hl : lv_has ls 8 (lvL s b i)) (hW : LW g s.heap.size Ty G H) (hS : va_S (fun q => s.heap.size ≤ q) s.heap H locs) (kk : LcT p l e s m below meth c b i cells slots 1564 Q) : W p l e room_1 s m #[Value.ref b] below meth c H locs cells slots Q (F0 m 1360 ls []) := by
  obtain ⟨hst, hL, C0, E0, hi, hc, hs⟩ := hX
  obtain ⟨hx, hb, hr, hml, hown, hts, hXs, hbl, hlocks, hgv⟩ := id C0
  obtain ⟨hK, hO, hXO, hLD, h51, hLE, hD1⟩ := id E0
  have hown : s.vm.findClass "MountPeersLaw" = some m.cls := hown
  have hts2 := lw_g2 hts
  obtain ⟨hH, hI, ⟨hE, hR⟩, hFS, k1, k2, k3, ⟨fo, oo⟩, hN⟩ := id hW
  obtain ⟨⟨ro_70, ro_71, ro_72, ro_73, ro_74⟩, nu_, nu_20, nu_23, ro_100, ro_z⟩ := id hFS
  refine lv_aload_n hx hb dL_law_1360 rfl (lv_at hl 3 rfl) ?_
  refine lw_arg (k := 1) hx hb hXs hbl hS hl hi hL (by decide) (by decide +kernel) dL_law_1361 dL_law_1362 dL_law_1364 dL_law_1365 dL_law_1366 ?_
  refine lw_arg (k := 2) hx hb hXs hbl hS hl hi hL (by decide) (by decide +kernel) dL_law_1367 dL_law_1368 dL_law_1370 dL_law_1371 dL_law_1372 ?_
  obtain ⟨_, ⟨rfl, tc_, mc_⟩, o_x⟩ := hH s.heap.size _ k1
  refine va_calli (va_runV (As := [.int (xs (i + 1)), .int (xs (i + 2))]) (rest := []) ⟨hx, hb, hml, hown, hts2⟩ (c_X11_law l g Ty G H.size s.heap.size (xs (i + 1)) (xs (i + 2)) k1 hD1 (nu_ 0 (by decide)) nu_20 (nu_ 24 (by decide)) ro_70 ro_71 ro_72) (cwV 2 hts2 (gwV mw_1141 mw_1142 mw_1143 mw_76 mw_1144) rfl rfl rfl hv_X11_law ⟨Nat.le_of_ble_eq_true rfl, Nat.le_of_ble_eq_true rfl⟩) ⟨PcO_blind, hg_recv hK o_x rfl, PcO_pre hK hH (hO.narrow (af_in hN (Nat.le_refl _))) (vaS_af hS)⟩ rfl rfl hl.1 rfl (lv_room (Nat.le_of_ble_eq_true rfl)) dL_law_1373 ⟨by show _ ≤ 600002; omega, by show _ ≤ 7302232; omega⟩) hS (fun q _ h => af_in hN hS.1 q h) (fun q h => af_in hN hS.1 q h) (fun r_1 u_1 t_1 H_1 locs_1 ht_1 hv_1 hp_1 hB_1 hz_1 hk_1 hS_1 => ?_)
  obtain ⟨Ty_1, eT_⟩ : ∃ z, z = u_1.1 := ⟨_, rfl⟩
  obtain ⟨G_1, eG_⟩ : ∃ z, z = u_1.2 := ⟨_, rfl⟩
  have hH_1 : HT g Ty_1 G_1 H_1 := by rw [← ht_1, eT_, eG_]; exact hB_1
  have eT : Ty_1 = Ty := by rw [eT_]; exact hp_1.1
  have hF_1 : FR [0, 5, 6, 27] [(g.2.2 51)] [] G G_1 := by rw [eG_]; exact hp_1.2.1
  have q_1 := hp_1.2.2
  have e_1 := q_1.symm
  have k2_1 := k2
  have hN_1 := hN
  rw [← eT] at k2_1 hN_1
  have hI_1 : OI g 1 G_1 := hI.frc hF_1 (by decide) rfl ⟨hD1 100 (by decide) 51 (by decide) (by decide), trivial⟩ ⟨hD1 121 (by decide) 51 (by decide) (by decide), trivial⟩ ⟨hD1 140 (by decide) 51 (by decide) (by decide), trivial⟩ ⟨hD1 141 (by decide) 51 (by decide) (by decide), trivial⟩
  refine lv_aload_n hx hb dL_law_1376 rfl (lv_at hl 2 rfl) ?_
  refine lw_arg (k := 1) hx hb hXs hbl hS_1 hl hi hL (by decide) (by decide +kernel) dL_law_1377 dL_law_1378 dL_law_1380 dL_law_1381 dL_law_1382 ?_
  refine lw_arg (k := 2) hx hb hXs hbl hS_1 hl hi hL (by decide) (by decide +kernel) dL_law_1383 dL_law_1384 dL_law_1386 dL_law_1387 dL_law_1388 ?_
  obtain ⟨_, ⟨rfl, tm_, mk_⟩, o_m⟩ := hH_1 _ _ k2_1
  refine va_calli (va_runV (As := [.int (xs (i + 1)), .int (xs (i + 2))]) (rest := [.int r_1]) ⟨hx, hb, hml, hown, hts2⟩ (c_X12_law_z l g Ty_1 G_1 _ (s.heap.size + 40) (xs (i + 1)) (xs (i + 2)) k2_1 1 hI_1 (by omega) hLD ((hF_1.1 102 (by decide)).trans (nu_ 102 (by decide))) ((hF_1.2.1 _ ⟨hD1 100 (by decide) 51 (by decide) (by decide), trivial⟩).trans ro_100) ((hF_1.1 113 (by decide)).trans (nu_ 113 (by decide)))) (cwV 2 hts2 (gwV mw_1849 mw_1850 mw_1851 mw_88 mw_1852) rfl rfl rfl hv_X12_law ⟨Nat.le_of_ble_eq_true rfl, Nat.le_of_ble_eq_true rfl⟩) ⟨PcT_blind, hg_recv hK o_m rfl, PcT_pre hK hH_1⟩ rfl rfl hl.1 rfl (lv_room (Nat.le_of_ble_eq_true rfl)) dL_law_1389 ⟨by show _ ≤ 600002; omega, by show _ ≤ 7302232; omega⟩) hS_1 (fun q _ h => af_in hN_1 hS_1.1 q h) (fun q h => af_in hN_1 hS_1.1 q h) (fun r_2 u_2 t_2 H_2 locs_2 ht_2 hv_2 hp_2 hB_2 hz_2 hk_2 hS_2 => ?_)
  have q_2 := hp_2.2.2.2
  rw [((hF_1.2.1 _ ⟨hD1 100 (by decide) 51 (by decide) (by decide), trivial⟩).trans ro_100)] at q_2
  have e_2 := q_2.symm
  have hr_2 : r_1 = r_2 := e_1.trans ((fr_law (xs (i + 1)) (xs (i + 2))).trans e_2.symm)
  refine lv_icmp_eq (tgt := 1564) hx hb dL_law_1392 (by decide) (fun _ => ?_) (fun q_ => absurd hr_2 q_)
  exact W.widen (k := cells + 160) (n := slots + 3160) (by omega) (by omega) (kk _ _ _ hS_2 hl)
set_option maxHeartbeats 4000000 in
set_option maxRecDepth 100000 in
theorem lc_39 {Ty : TyM} {G : Gh} (hX : LcX p l s m meth c b L xs g i cells slots) (hl : lv_has ls 8 (lvL s b i)) (hW : LW g s.heap.size Ty G H) (hS : va_S (fun q => s.heap.size ≤ q) s.heap H locs) (kk : LcT p l e s m below meth c b i cells slots 1564 Q) : W p l e room_1 s m #[Value.ref b] below meth c H locs cells slots Q (F0 m 1397 ls []) := by
  obtain ⟨hst, hL, C0, E0, hi, hc, hs⟩ := hX
  obtain ⟨hx, hb, hr, hml, hown, hts, hXs, hbl, hlocks, hgv⟩ := id C0
  obtain ⟨hK, hO, hXO, hLD, h51, hLE, hD1⟩ := id E0
  have hown : s.vm.findClass "MountPeersLaw" = some m.cls := hown
  have hts2 := lw_g2 hts
  obtain ⟨hH, hI, ⟨hE, hR⟩, hFS, k1, k2, k3, ⟨fo, oo⟩, hN⟩ := id hW
  obtain ⟨⟨ro_70, ro_71, ro_72, ro_73, ro_74⟩, nu_, nu_20, nu_23, ro_100, ro_z⟩ := id hFS
  refine lv_aload_n hx hb dL_law_1397 rfl (lv_at hl 3 rfl) ?_
  refine lw_arg (k := 1) hx hb hXs hbl hS hl hi hL (by decide) (by decide +kernel) dL_law_1398 dL_law_1399 dL_law_1401 dL_law_1402 dL_law_1403 ?_
  refine lw_arg (k := 2) hx hb hXs hbl hS hl hi hL (by decide) (by decide +kernel) dL_law_1404 dL_law_1405 dL_law_1407 dL_law_1408 dL_law_1409 ?_
  obtain ⟨_, ⟨rfl, tc_, mc_⟩, o_x⟩ := hH s.heap.size _ k1
  refine va_calli (va_runV (As := [.int (xs (i + 1)), .int (xs (i + 2))]) (rest := []) ⟨hx, hb, hml, hown, hts2⟩ (c_X11_years l g Ty G H.size s.heap.size (xs (i + 1)) (xs (i + 2)) k1 hD1 (nu_ 24 (by decide))) (cwV 2 hts2 (gwV mw_1150 mw_1151 mw_1152 mw_76 mw_1153) rfl rfl rfl hv_X11_years ⟨Nat.le_of_ble_eq_true rfl, Nat.le_of_ble_eq_true rfl⟩) ⟨PcT_blind, hg_recv hK o_x rfl, PcT_pre hK hH⟩ rfl rfl hl.1 rfl (lv_room (Nat.le_of_ble_eq_true rfl)) dL_law_1410 ⟨by show _ ≤ 600002; omega, by show _ ≤ 7302232; omega⟩) hS (fun q _ h => af_in hN hS.1 q h) (fun q h => af_in hN hS.1 q h) (fun r_1 u_1 t_1 H_1 locs_1 ht_1 hv_1 hp_1 hB_1 hz_1 hk_1 hS_1 => ?_)
  obtain ⟨Ty_1, eT_⟩ : ∃ z, z = u_1.1 := ⟨_, rfl⟩
  obtain ⟨G_1, eG_⟩ : ∃ z, z = u_1.2 := ⟨_, rfl⟩
  have hH_1 : HT g Ty_1 G_1 H_1 := by rw [← ht_1, eT_, eG_]; exact hB_1
  have hX_1 : Ext H.size Ty Ty_1 := by rw [eT_]; exact hp_1.1
  have hF_1 : FR [20, 21, 22, 23, 25, 27, 28] [(g.2.2 70), (g.2.2 71), (g.2.2 72), (g.2.2 73)] [] G G_1 := by rw [eG_]; exact hp_1.2.1
  have q_1 := hp_1.2.2
  rw [ro_70, ro_71, ro_72, ro_73, nu_20, (nu_ 21 (by decide)), (nu_ 22 (by decide)), nu_23, (nu_ 25 (by decide))] at q_1
  have e_1 := (congrArg Prod.fst q_1).symm
  have k2_1 := hX_1.1 _ _ k2
  have hN_1 := ext_in hX_1 hN hS.1
  have hI_1 : OI g 1 G_1 := hI.frc hF_1 (by decide) rfl ⟨hD1 100 (by decide) 70 (by decide) (by decide), hD1 100 (by decide) 71 (by decide) (by decide), hD1 100 (by decide) 72 (by decide) (by decide), hD1 100 (by decide) 73 (by decide) (by decide), trivial⟩ ⟨hD1 121 (by decide) 70 (by decide) (by decide), hD1 121 (by decide) 71 (by decide) (by decide), hD1 121 (by decide) 72 (by decide) (by decide), hD1 121 (by decide) 73 (by decide) (by decide), trivial⟩ ⟨hD1 140 (by decide) 70 (by decide) (by decide), hD1 140 (by decide) 71 (by decide) (by decide), hD1 140 (by decide) 72 (by decide) (by decide), hD1 140 (by decide) 73 (by decide) (by decide), trivial⟩ ⟨hD1 141 (by decide) 70 (by decide) (by decide), hD1 141 (by decide) 71 (by decide) (by decide), hD1 141 (by decide) 72 (by decide) (by decide), hD1 141 (by decide) 73 (by decide) (by decide), trivial⟩
  refine lv_aload_n hx hb dL_law_1413 rfl (lv_at hl 2 rfl) ?_
  refine lw_arg (k := 1) hx hb hXs hbl hS_1 hl hi hL (by decide) (by decide +kernel) dL_law_1414 dL_law_1415 dL_law_1417 dL_law_1418 dL_law_1419 ?_
  refine lw_arg (k := 2) hx hb hXs hbl hS_1 hl hi hL (by decide) (by decide +kernel) dL_law_1420 dL_law_1421 dL_law_1423 dL_law_1424 dL_law_1425 ?_
  obtain ⟨_, ⟨rfl, tm_, mk_⟩, o_m⟩ := hH_1 _ _ k2_1
  refine va_calli (va_runV (As := [.int (xs (i + 1)), .int (xs (i + 2))]) (rest := [.int r_1]) ⟨hx, hb, hml, hown, hts2⟩ (c_X12_years_x l g Ty_1 G_1 _ (s.heap.size + 40) (xs (i + 1)) (xs (i + 2)) k2_1 1 hI_1 (by omega) hLD) (cwV 2 hts2 (gwV mw_1857 mw_1858 mw_1859 mw_88 mw_1860) rfl rfl rfl hv_X12_years ⟨Nat.le_of_ble_eq_true rfl, Nat.le_of_ble_eq_true rfl⟩) ⟨PcT_blind, hg_recv hK o_m rfl, PcT_pre hK hH_1⟩ rfl rfl hl.1 rfl (lv_room (Nat.le_of_ble_eq_true rfl)) dL_law_1426 ⟨by show _ ≤ 600002; omega, by show _ ≤ 7302232; omega⟩) hS_1 (fun q _ h => af_in hN_1 hS_1.1 q h) (fun q h => af_in hN_1 hS_1.1 q h) (fun r_2 u_2 t_2 H_2 locs_2 ht_2 hv_2 hp_2 hB_2 hz_2 hk_2 hS_2 => ?_)
  have q_2 := hp_2.2.2.2
  rw [((hF_1.2.1 _ ⟨hD1 100 (by decide) 70 (by decide) (by decide), hD1 100 (by decide) 71 (by decide) (by decide), hD1 100 (by decide) 72 (by decide) (by decide), hD1 100 (by decide) 73 (by decide) (by decide), trivial⟩).trans ro_100), ((hF_1.2.1 _ ⟨hD1 111 (by decide) 70 (by decide) (by decide), hD1 111 (by decide) 71 (by decide) (by decide), hD1 111 (by decide) 72 (by decide) (by decide), hD1 111 (by decide) 73 (by decide) (by decide), trivial⟩).trans (ro_z 111 (by decide))), ((hF_1.2.1 _ ⟨hD1 124 (by decide) 70 (by decide) (by decide), hD1 124 (by decide) 71 (by decide) (by decide), hD1 124 (by decide) 72 (by decide) (by decide), hD1 124 (by decide) 73 (by decide) (by decide), trivial⟩).trans (ro_z 124 (by decide))), ((hF_1.2.1 _ ⟨hD1 125 (by decide) 70 (by decide) (by decide), hD1 125 (by decide) 71 (by decide) (by decide), hD1 125 (by decide) 72 (by decide) (by decide), hD1 125 (by decide) 73 (by decide) (by decide), trivial⟩).trans (ro_z 125 (by decide))), ((hF_1.2.1 _ ⟨hD1 126 (by decide) 70 (by decide) (by decide), hD1 126 (by decide) 71 (by decide) (by decide), hD1 126 (by decide) 72 (by decide) (by decide), hD1 126 (by decide) 73 (by decide) (by decide), trivial⟩).trans (ro_z 126 (by decide))), ((hF_1.1 113 (by decide)).trans (nu_ 113 (by decide))), ((hF_1.1 127 (by decide)).trans (nu_ 127 (by decide))), ((hF_1.1 139 (by decide)).trans (nu_ 139 (by decide)))] at q_2
  have e_2 := (congrArg Prod.fst q_2).symm
  have hr_2 : r_1 = r_2 := e_1.trans ((years_same Z0 Z0 Z0 Z0 Z0 0 0 0 0 (xs (i + 1)) (xs (i + 2))).trans e_2.symm)
  refine lv_icmp_eq (tgt := 1564) hx hb dL_law_1429 (by decide) (fun _ => ?_) (fun q_ => absurd hr_2 q_)
  exact W.widen (k := cells + 160) (n := slots + 3160) (by omega) (by omega) (kk _ _ _ hS_2 hl)
set_option maxHeartbeats 4000000 in
set_option maxRecDepth 100000 in
theorem lc_40 {Ty : TyM} {G : Gh} (hX : LcX p l s m meth c b L xs g i cells slots) (hl : lv_has ls 8 (lvL s b i)) (hW : LW g s.heap.size Ty G H) (hS : va_S (fun q => s.heap.size ≤ q) s.heap H locs) (kk : LcT p l e s m below meth c b i cells slots 1564 Q) : W p l e room_1 s m #[Value.ref b] below meth c H locs cells slots Q (F0 m 1434 ls []) := by
  obtain ⟨hst, hL, C0, E0, hi, hc, hs⟩ := hX
  obtain ⟨hx, hb, hr, hml, hown, hts, hXs, hbl, hlocks, hgv⟩ := id C0
  obtain ⟨hK, hO, hXO, hLD, h51, hLE, hD1⟩ := id E0
  have hown : s.vm.findClass "MountPeersLaw" = some m.cls := hown
  have hts2 := lw_g2 hts
  obtain ⟨hH, hI, ⟨hE, hR⟩, hFS, k1, k2, k3, ⟨fo, oo⟩, hN⟩ := id hW
  obtain ⟨⟨ro_70, ro_71, ro_72, ro_73, ro_74⟩, nu_, nu_20, nu_23, ro_100, ro_z⟩ := id hFS
  refine lv_aload_n hx hb dL_law_1434 rfl (lv_at hl 3 rfl) ?_
  refine lw_arg (k := 1) hx hb hXs hbl hS hl hi hL (by decide) (by decide +kernel) dL_law_1435 dL_law_1436 dL_law_1438 dL_law_1439 dL_law_1440 ?_
  obtain ⟨_, ⟨rfl, tc_, mc_⟩, o_x⟩ := hH s.heap.size _ k1
  refine va_calli (va_runV (As := [.int (xs (i + 1))]) (rest := []) ⟨hx, hb, hml, hown, hts2⟩ (c_X11_keep l g Ty G H.size s.heap.size (xs (i + 1)) k1 ) (cwV 1 hts2 (gwV mw_1163 mw_1164 mw_1165 mw_76 mw_1166) rfl rfl rfl hv_X11_keep ⟨Nat.le_of_ble_eq_true rfl, Nat.le_of_ble_eq_true rfl⟩) ⟨PcT_blind, hg_recv hK o_x rfl, PcT_pre hK hH⟩ rfl rfl hl.1 rfl (lv_room (Nat.le_of_ble_eq_true rfl)) dL_law_1441 ⟨by show _ ≤ 600002; omega, by show _ ≤ 7302232; omega⟩) hS (fun q _ h => af_in hN hS.1 q h) (fun q h => af_in hN hS.1 q h) (fun r_1 u_1 t_1 H_1 locs_1 ht_1 hv_1 hp_1 hB_1 hz_1 hk_1 hS_1 => ?_)
  obtain ⟨Ty_1, eT_⟩ : ∃ z, z = u_1.1 := ⟨_, rfl⟩
  obtain ⟨G_1, eG_⟩ : ∃ z, z = u_1.2 := ⟨_, rfl⟩
  have hH_1 : HT g Ty_1 G_1 H_1 := by rw [← ht_1, eT_, eG_]; exact hB_1
  have hX_1 : Ext H.size Ty Ty_1 := by rw [eT_]; exact hp_1.2.1
  have hrel := hp_1.2.2
  rw [← eG_] at hrel
  have k2_1 := hX_1.1 _ _ k2
  have hN_1 := ext_in hX_1 hN hS.1
  have hI_1 : OI g 1 G_1 := hI.ce (CE.keep hrel) h51
  refine lv_aload_n hx hb dL_law_1444 rfl (lv_at hl 2 rfl) ?_
  refine lw_arg (k := 1) hx hb hXs hbl hS_1 hl hi hL (by decide) (by decide +kernel) dL_law_1445 dL_law_1446 dL_law_1448 dL_law_1449 dL_law_1450 ?_
  obtain ⟨_, ⟨rfl, tm_, mk_⟩, o_m⟩ := hH_1 _ _ k2_1
  refine va_calli (va_runV (As := [.int (xs (i + 1))]) (rest := [.int r_1]) ⟨hx, hb, hml, hown, hts2⟩ (c_X12_keep l g Ty_1 G_1 _ (s.heap.size + 40) (xs (i + 1)) k2_1 1 hI_1 (by omega) hLD) (cwV 1 hts2 (gwV mw_1866 mw_1867 mw_1868 mw_88 mw_1869) rfl rfl rfl hv_X12_keep ⟨Nat.le_of_ble_eq_true rfl, Nat.le_of_ble_eq_true rfl⟩) ⟨PcT_blind, hg_recv hK o_m rfl, PcT_pre hK hH_1⟩ rfl rfl hl.1 rfl (lv_room (Nat.le_of_ble_eq_true rfl)) dL_law_1451 ⟨by show _ ≤ 600002; omega, by show _ ≤ 7302232; omega⟩) hS_1 (fun q _ h => af_in hN_1 hS_1.1 q h) (fun q h => af_in hN_1 hS_1.1 q h) (fun r_2 u_2 t_2 H_2 locs_2 ht_2 hv_2 hp_2 hB_2 hz_2 hk_2 hS_2 => ?_)
  obtain ⟨hr_2, hE_2⟩ := EQ5.keep hE hrel hp_2.2.2.1 hp_2.2.2.2.2
  refine lv_icmp_eq (tgt := 1564) hx hb dL_law_1454 (by decide) (fun _ => ?_) (fun q_ => absurd hr_2 q_)
  exact W.widen (k := cells + 160) (n := slots + 3160) (by omega) (by omega) (kk _ _ _ hS_2 hl)
set_option maxHeartbeats 4000000 in
set_option maxRecDepth 100000 in
theorem lc_41 {Ty : TyM} {G : Gh} (hX : LcX p l s m meth c b L xs g i cells slots) (hl : lv_has ls 8 (lvL s b i)) (hW : LW g s.heap.size Ty G H) (hS : va_S (fun q => s.heap.size ≤ q) s.heap H locs) (kk : LcT p l e s m below meth c b i cells slots 1564 Q) : W p l e room_1 s m #[Value.ref b] below meth c H locs cells slots Q (F0 m 1459 ls []) := by
  obtain ⟨hst, hL, C0, E0, hi, hc, hs⟩ := hX
  obtain ⟨hx, hb, hr, hml, hown, hts, hXs, hbl, hlocks, hgv⟩ := id C0
  obtain ⟨hK, hO, hXO, hLD, h51, hLE, hD1⟩ := id E0
  have hown : s.vm.findClass "MountPeersLaw" = some m.cls := hown
  have hts2 := lw_g2 hts
  obtain ⟨hH, hI, ⟨hE, hR⟩, hFS, k1, k2, k3, ⟨fo, oo⟩, hN⟩ := id hW
  obtain ⟨⟨ro_70, ro_71, ro_72, ro_73, ro_74⟩, nu_, nu_20, nu_23, ro_100, ro_z⟩ := id hFS
  refine lv_aload_n hx hb dL_law_1459 rfl (lv_at hl 3 rfl) ?_
  refine lw_arg (k := 1) hx hb hXs hbl hS hl hi hL (by decide) (by decide +kernel) dL_law_1460 dL_law_1461 dL_law_1463 dL_law_1464 dL_law_1465 ?_
  obtain ⟨_, ⟨rfl, tc_, mc_⟩, o_x⟩ := hH s.heap.size _ k1
  refine va_calli (va_runV (As := [.int (xs (i + 1))]) (rest := []) ⟨hx, hb, hml, hown, hts2⟩ (c_X11_again l g Ty G H.size s.heap.size (xs (i + 1)) k1 (nu_ 3 (by decide)) (nu_ 4 (by decide))) (cwV 1 hts2 (gwV mw_1167 mw_1168 mw_1169 mw_76 mw_1170) rfl rfl rfl hv_X11_again ⟨Nat.le_of_ble_eq_true rfl, Nat.le_of_ble_eq_true rfl⟩) ⟨PcT_blind, hg_recv hK o_x rfl, PcT_pre hK hH⟩ rfl rfl hl.1 rfl (lv_room (Nat.le_of_ble_eq_true rfl)) dL_law_1466 ⟨by show _ ≤ 600002; omega, by show _ ≤ 7302232; omega⟩) hS (fun q _ h => af_in hN hS.1 q h) (fun q h => af_in hN hS.1 q h) (fun r_1 u_1 t_1 H_1 locs_1 ht_1 hv_1 hp_1 hB_1 hz_1 hk_1 hS_1 => ?_)
  obtain ⟨Ty_1, eT_⟩ : ∃ z, z = u_1.1 := ⟨_, rfl⟩
  obtain ⟨G_1, eG_⟩ : ∃ z, z = u_1.2 := ⟨_, rfl⟩
  have hH_1 : HT g Ty_1 G_1 H_1 := by rw [← ht_1, eT_, eG_]; exact hB_1
  have rg_1 := hp_1.1
  have eT : Ty_1 = Ty := by rw [eT_, hp_1.2]
  have eG : G_1 = G := by rw [eG_, hp_1.2]
  have hF_1 : FR [] [] [] G G_1 := by rw [eG]; exact FR.rf
  have k2_1 := k2
  have hN_1 := hN
  rw [← eT] at k2_1 hN_1
  have hI_1 : OI g 1 G_1 := hI.frc hF_1 (by decide) rfl trivial trivial trivial trivial
  refine lv_aload_n hx hb dL_law_1469 rfl (lv_at hl 2 rfl) ?_
  refine lw_arg (k := 1) hx hb hXs hbl hS_1 hl hi hL (by decide) (by decide +kernel) dL_law_1470 dL_law_1471 dL_law_1473 dL_law_1474 dL_law_1475 ?_
  obtain ⟨_, ⟨rfl, tm_, mk_⟩, o_m⟩ := hH_1 _ _ k2_1
  refine va_calli (va_runV (As := [.int (xs (i + 1))]) (rest := [.int r_1]) ⟨hx, hb, hml, hown, hts2⟩ (c_X12_again l g Ty_1 G_1 _ (s.heap.size + 40) (xs (i + 1)) k2_1 1 hI_1 (by omega) hLD) (cwV 1 hts2 (gwV mw_1870 mw_1871 mw_1872 mw_88 mw_1873) rfl rfl rfl hv_X12_again ⟨Nat.le_of_ble_eq_true rfl, Nat.le_of_ble_eq_true rfl⟩) ⟨PcT_blind, hg_recv hK o_m rfl, PcT_pre hK hH_1⟩ rfl rfl hl.1 rfl (lv_room (Nat.le_of_ble_eq_true rfl)) dL_law_1476 ⟨by show _ ≤ 600002; omega, by show _ ≤ 7302232; omega⟩) hS_1 (fun q _ h => af_in hN_1 hS_1.1 q h) (fun q h => af_in hN_1 hS_1.1 q h) (fun r_2 u_2 t_2 H_2 locs_2 ht_2 hv_2 hp_2 hB_2 hz_2 hk_2 hS_2 => ?_)
  have hr_2 : r_1 = r_2 := (EQ5.again hLD (by rw [eG]; exact hE) (Or.inr ⟨rg_is0 rg_1, by rw [eG]; exact kp_no (nu_ 3 (by decide)) (nu_ 4 (by decide))⟩) hp_2.2.2.1 hp_2.2.2.2.2.1).1
  refine lv_icmp_eq (tgt := 1564) hx hb dL_law_1479 (by decide) (fun _ => ?_) (fun q_ => absurd hr_2 q_)
  exact W.widen (k := cells + 160) (n := slots + 3160) (by omega) (by omega) (kk _ _ _ hS_2 hl)
set_option maxHeartbeats 4000000 in
set_option maxRecDepth 100000 in
theorem lc_42 {Ty : TyM} {G : Gh} (hX : LcX p l s m meth c b L xs g i cells slots) (hl : lv_has ls 8 (lvL s b i)) (hW : LW g s.heap.size Ty G H) (hS : va_S (fun q => s.heap.size ≤ q) s.heap H locs) (kk : LcT p l e s m below meth c b i cells slots 1564 Q) : W p l e room_1 s m #[Value.ref b] below meth c H locs cells slots Q (F0 m 1484 ls []) := by
  obtain ⟨hst, hL, C0, E0, hi, hc, hs⟩ := hX
  obtain ⟨hx, hb, hr, hml, hown, hts, hXs, hbl, hlocks, hgv⟩ := id C0
  obtain ⟨hK, hO, hXO, hLD, h51, hLE, hD1⟩ := id E0
  have hown : s.vm.findClass "MountPeersLaw" = some m.cls := hown
  have hts2 := lw_g2 hts
  obtain ⟨hH, hI, ⟨hE, hR⟩, hFS, k1, k2, k3, ⟨fo, oo⟩, hN⟩ := id hW
  obtain ⟨⟨ro_70, ro_71, ro_72, ro_73, ro_74⟩, nu_, nu_20, nu_23, ro_100, ro_z⟩ := id hFS
  refine lv_aload_n hx hb dL_law_1484 rfl (lv_at hl 3 rfl) ?_
  refine lw_arg (k := 1) hx hb hXs hbl hS hl hi hL (by decide) (by decide +kernel) dL_law_1485 dL_law_1486 dL_law_1488 dL_law_1489 dL_law_1490 ?_
  obtain ⟨_, ⟨rfl, tc_, mc_⟩, o_x⟩ := hH s.heap.size _ k1
  refine vp_callSi (W.runV (As := [.int (xs (i + 1))]) (rest := []) ⟨hx, hb, hml, hown, hts2⟩ (c_X11_count l g Ty G s.heap.size (xs (i + 1)) k1 ) (cwV 1 hts2 (gwV mw_1171 mw_1172 mw_1173 mw_76 mw_1174) rfl rfl rfl hv_X11_count ⟨Nat.le_of_ble_eq_true rfl, Nat.le_of_ble_eq_true rfl⟩) ⟨PcH_blind, hg_recv hK o_x rfl, PcH_pre hK hH⟩ rfl rfl hl.1 rfl (lv_room (Nat.le_of_ble_eq_true rfl)) dL_law_1491 ⟨by show _ ≤ 600002; omega, by show _ ≤ 7302232; omega⟩) (fun r_1 hp_1 => ?_)
  have hS_1 := hS
  have hH_1 := hH
  obtain ⟨Ty_1, eT⟩ : ∃ z, z = Ty := ⟨_, rfl⟩
  obtain ⟨G_1, eG⟩ : ∃ z, z = G := ⟨_, rfl⟩
  rw [← eT, ← eG] at hH_1
  have hF_1 : FR [] [] [] G G_1 := by rw [eG]; exact FR.rf
  have q_1 := hp_1.symm
  rw [ro_71, ro_72, (nu_ 0 (by decide)), (nu_ 1 (by decide)), (nu_ 2 (by decide)), nu_20, (nu_ 21 (by decide)), (nu_ 22 (by decide)), nu_23, (nu_ 27 (by decide)), (nu_ 28 (by decide))] at q_1
  have e_1 := q_1.symm
  have k2_1 := k2
  have hN_1 := hN
  rw [← eT] at k2_1 hN_1
  have hI_1 : OI g 1 G_1 := hI.frc hF_1 (by decide) rfl trivial trivial trivial trivial
  refine lv_aload_n hx hb dL_law_1494 rfl (lv_at hl 2 rfl) ?_
  refine lw_arg (k := 1) hx hb hXs hbl hS_1 hl hi hL (by decide) (by decide +kernel) dL_law_1495 dL_law_1496 dL_law_1498 dL_law_1499 dL_law_1500 ?_
  obtain ⟨_, ⟨rfl, tm_, mk_⟩, o_m⟩ := hH_1 _ _ k2_1
  refine va_calli (va_runV (As := [.int (xs (i + 1))]) (rest := [.int r_1]) ⟨hx, hb, hml, hown, hts2⟩ (c_X12_count_x l g Ty_1 G_1 _ (s.heap.size + 40) (xs (i + 1)) k2_1 1 hI_1 (by omega) hLD) (cwV 1 hts2 (gwV mw_1874 mw_1875 mw_1876 mw_88 mw_1877) rfl rfl rfl hv_X12_count ⟨Nat.le_of_ble_eq_true rfl, Nat.le_of_ble_eq_true rfl⟩) ⟨PcT_blind, hg_recv hK o_m rfl, PcT_pre hK hH_1⟩ rfl rfl hl.1 rfl (lv_room (Nat.le_of_ble_eq_true rfl)) dL_law_1501 ⟨by show _ ≤ 600002; omega, by show _ ≤ 7302232; omega⟩) hS_1 (fun q _ h => af_in hN_1 hS_1.1 q h) (fun q h => af_in hN_1 hS_1.1 q h) (fun r_2 u_2 t_2 H_2 locs_2 ht_2 hv_2 hp_2 hB_2 hz_2 hk_2 hS_2 => ?_)
  have q_2 := hp_2.2.2.2
  rw [((hF_1.2.1 _ trivial).trans ro_100), ((hF_1.1 133 (by decide)).trans (nu_ 133 (by decide))), ((hF_1.1 137 (by decide)).trans (nu_ 137 (by decide))), ((hF_1.1 122 (by decide)).trans (nu_ 122 (by decide))), ((hF_1.1 104 (by decide)).trans (nu_ 104 (by decide))), ((hF_1.1 102 (by decide)).trans (nu_ 102 (by decide)))] at q_2
  have e_2 := q_2.symm
  have hr_2 : r_1 = r_2 := e_1.trans ((fr_count (xs (i + 1))).trans e_2.symm)
  refine lv_icmp_eq (tgt := 1564) hx hb dL_law_1504 (by decide) (fun _ => ?_) (fun q_ => absurd hr_2 q_)
  exact W.widen (k := cells + 160) (n := slots + 3160) (by omega) (by omega) (kk _ _ _ hS_2 hl)
set_option maxHeartbeats 4000000 in
set_option maxRecDepth 100000 in
theorem lc_43 {Ty : TyM} {G : Gh} (hX : LcX p l s m meth c b L xs g i cells slots) (hl : lv_has ls 8 (lvL s b i)) (hW : LW g s.heap.size Ty G H) (hS : va_S (fun q => s.heap.size ≤ q) s.heap H locs) (kk : LcT p l e s m below meth c b i cells slots 1564 Q) : W p l e room_1 s m #[Value.ref b] below meth c H locs cells slots Q (F0 m 1509 ls []) := by
  obtain ⟨hst, hL, C0, E0, hi, hc, hs⟩ := hX
  obtain ⟨hx, hb, hr, hml, hown, hts, hXs, hbl, hlocks, hgv⟩ := id C0
  obtain ⟨hK, hO, hXO, hLD, h51, hLE, hD1⟩ := id E0
  have hown : s.vm.findClass "MountPeersLaw" = some m.cls := hown
  have hts2 := lw_g2 hts
  obtain ⟨hH, hI, ⟨hE, hR⟩, hFS, k1, k2, k3, ⟨fo, oo⟩, hN⟩ := id hW
  obtain ⟨⟨ro_70, ro_71, ro_72, ro_73, ro_74⟩, nu_, nu_20, nu_23, ro_100, ro_z⟩ := id hFS
  refine lv_aload_n hx hb dL_law_1509 rfl (lv_at hl 3 rfl) ?_
  refine lw_arg (k := 1) hx hb hXs hbl hS hl hi hL (by decide) (by decide +kernel) dL_law_1510 dL_law_1511 dL_law_1513 dL_law_1514 dL_law_1515 ?_
  refine lv_aload_n hx hb dL_law_1516 rfl (lv_at hl 1 rfl) ?_
  have af0 : ∀ q, (AF Ty H.size q ∨ q = s.heap.size + 63) → s.heap.size ≤ q := fun q h => h.elim (af_in hN hS.1 q) (fun w => by rw [w]; exact Nat.le_add_right _ _)
  refine va_calli (vx_noX (vx_runSX (As := [.ref s.heap.size, .int (xs (i + 1)), .ref (s.heap.size + 63)]) (rest := []) ⟨hx, hb, hml, hown, hts2⟩ (c_L_row_z l hst g Ty G H.size s.heap.size (s.heap.size + 63) (xs (i + 1)) k1 k3 (nu_ 27 (by decide))) (vx_cwSW 3 hts2 (gwSW mw_1266 mw_1267 mw_75 mwL_row) rfl rfl rfl ⟨by decide +kernel, by decide +kernel, by decide +kernel⟩ ⟨Nat.le_of_ble_eq_true rfl, Nat.le_of_ble_eq_true rfl⟩) ⟨PcY_blind, PcY_pre hK hH (hXO.narrow (af_in hN (Nat.le_refl _))) (vaS_af hS) oo⟩ rfl rfl hl.1 rfl (lv_room (Nat.le_of_ble_eq_true rfl)) dL_law_1517 ⟨by show _ ≤ 600002; omega, by show _ ≤ 7302232; omega⟩)) hS (fun q _ h => af0 q h) (fun q h => af0 q h) (fun r_1 u_1 t_1 H_1 locs_1 ht_1 hv_1 hp_1 hB_1 hz_1 hk_1 hS_1 => ?_)
  obtain ⟨eT, eG, hP⟩ := hp_1
  obtain ⟨Ty_1, G_1, f_1⟩ := u_1
  have eT : Ty_1 = Ty := eT
  have eG : G_1 = G := eG
  subst eT eG
  obtain ⟨hH_1, o_1⟩ := hB_1
  rw [ht_1] at hH_1 o_1
  have hH_1 : HT g Ty_1 G_1 H_1 := hH_1
  have o_1 : va_at g.1 vwCl (s.heap.size + 63, .inl (g.2.1 2, 1, .inr (.inl f_1))) H_1 := o_1
  refine lv_istore (lv' := (5, .int r_1) :: lvL s b i) hx hb dL_law_1520 hl (by decide) rfl (fun ls hl5 => ?_)
  have hl : lv_has ls 8 (lvL s b i) := lv_sub hl5 [1, 2, 3, 4, 5] rfl
  refine lv_aload_n hx hb dL_law_1522 rfl (lv_at hl 2 rfl) ?_
  refine lw_arg (k := 1) hx hb hXs hbl hS_1 hl hi hL (by decide) (by decide +kernel) dL_law_1523 dL_law_1524 dL_law_1526 dL_law_1527 dL_law_1528 ?_
  obtain ⟨_, ⟨rfl, tm_, mk_⟩, o_m⟩ := hH_1 _ _ k2
  have hI_1 := hI
  refine va_calll (va_runV (As := [.int (xs (i + 1))]) (rest := []) ⟨hx, hb, hml, hown, hts2⟩ (c_X12_row_x l g Ty_1 G_1 _ (s.heap.size + 40) (xs (i + 1)) k2 1 hI_1 (by omega) hLD) (cwV 1 hts2 (gwV mw_1882 mw_1883 mw_1884 mw_88 mw_1885) rfl rfl rfl hv_X12_row ⟨Nat.le_of_ble_eq_true rfl, Nat.le_of_ble_eq_true rfl⟩) ⟨PcT_blind, hg_recv hK o_m rfl, PcT_pre hK hH_1⟩ rfl rfl hl.1 rfl (lv_room (Nat.le_of_ble_eq_true rfl)) dL_law_1529 ⟨by show _ ≤ 600002; omega, by show _ ≤ 7302232; omega⟩) hS_1 (fun q _ h => af_in hN hS_1.1 q h) (fun q h => af_in hN hS_1.1 q h) (fun r_2 u_2 t_2 H_2 locs_2 ht_2 hv_2 hp_2 hB_2 hz_2 hk_2 hS_2 => ?_)
  have hH_2 : HT g Ty_1 u_2.2 H_2 := by rw [← ht_2, ← hp_2.1]; exact hB_2
  have o_2 := ob_kept k3 rfl o_1 hk_2
  have q_2 := hp_2.2.2.2
  rw [(nu_ 104 (by decide)), nu_ 105 (by decide)] at q_2
  refine lv_lstore (lv' := (6, .long r_2) :: (5, .int r_1) :: lvL s b i) hx hb dL_law_1532 hl5 (by decide) rfl (fun ls hl6 => ?_)
  have hl : lv_has ls 8 (lvL s b i) := lv_sub hl6 [2, 3, 4, 5, 6] rfl
  refine lv_aload_n hx hb dL_law_1534 rfl (lv_at hl 2 rfl) ?_
  obtain ⟨_, ⟨rfl, tn_, mn_⟩, o_n⟩ := hH_2 _ _ k2
  refine vp_callSi (W.runV (As := []) (rest := []) ⟨hx, hb, hml, hown, hts2⟩ (c_X12_thrown_x l g Ty_1 u_2.2 (s.heap.size + 40) k2) (cwV 0 hts2 (gwV mw_1412 mw_1413 mw_1414 mw_88 mw_1415) rfl rfl rfl hv_X12_thrown ⟨Nat.le_of_ble_eq_true rfl, Nat.le_of_ble_eq_true rfl⟩) ⟨PcH_blind, hg_recv hK o_n rfl, PcH_pre hK hH_2⟩ rfl rfl hl.1 rfl (lv_room (Nat.le_of_ble_eq_true rfl)) dL_law_1535 ⟨by show _ ≤ 600002; omega, by show _ ≤ 7302232; omega⟩) (fun r_3 hp_3 => ?_)
  have e_3 : r_3 = u_2.2.1 105 := hp_3
  refine lv_iload hx hb dL_law_1538 (lv_at hl6 1 rfl) ?_
  have w_1 : r_1 = 1 := by rcases hP with ⟨ok, -⟩ | ⟨-, w⟩; exact ok.elim; exact w
  have e5 : r_3 = r_1 := by rw [w_1, e_3, ← q_2]; exact fr_row _
  refine lv_icmp_eq (tgt := 1545) hx hb dL_law_1540 (by decide) (fun _ => ?_) (fun q_ => absurd e5 q_)
  refine lv_iload hx hb dL_law_1545 (lv_at hl6 1 rfl) ?_
  refine lv_if_ne (tgt := 1561) hx hb dL_law_1547 (by decide) (fun c_ => ?_) (fun c_ => absurd (w_1.symm.trans c_) (by decide))
  refine lv_goto (tgt := 1564) hx hb dL_law_1561 (by decide) ?_
  exact W.widen (k := cells + 160) (n := slots + 3160) (by omega) (by omega) (kk _ _ _ hS_2 hl)
end LCc
