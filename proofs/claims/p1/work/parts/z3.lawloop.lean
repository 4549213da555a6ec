theorem law_end {p : Program} {l : Launch} {e : Env} {s : State} {m : MethodId} {below : List Frame} {meth : Method} {c : Code} {b L : Nat} {xs : Nat → Int32} {H : Heap} {locs : List Loc} {ls : Array Slot} (hL : L ≤ 5) (C0 : lw_At p s m meth c b L xs) {i cells slots : Nat} (hi : L < i + 5) (hi2 : i ≤ 100) (hc : cells ≤ 600002) (hs : slots ≤ 7302232) (hS : va_S (fun q => s.heap.size ≤ q) s.heap H locs) (hl : lv_has ls 8 (lvL s b i)) : W p l e room_1 s m #[Value.ref b] below meth c H locs cells slots (lw_Z below #[Value.ref b] s) (F0 m 23 ls []) := by
  obtain ⟨hx, hb, hr, hml, hown, hts, hXs, hbl, hlocks, hgv⟩ := id C0
  refine lv_iload hx hb dL_law_23 (lv_at hl 0 rfl) ?_
  refine lv_aload_n hx hb dL_law_25 rfl (lv_at hl 4 rfl) ?_
  refine va_slen hx hb hXs hbl (Nat.not_le.mpr hbl) hS dL_law_26 ?_
  refine lv_iconst (v := 5) hx hb dL_law_27 (by decide) ?_
  refine lv_isub hx hb dL_law_28 ?_
  have hLr : rgI (L : Int) (L : Int) (Int32.ofNat L) := by
    have : (nI L).toInt = (L : Int) := nI_toInt (by omega)
    exact ⟨by show (L : Int) ≤ (nI L).toInt; omega, by show (nI L).toInt ≤ (L : Int); omega⟩
  have hz := rg_sub hLr (show rgI 5 5 (5 : Int32) from ⟨by decide, by decide⟩) (by omega) (by omega)
  refine lv_icmp_gt (tgt := 1570) hx hb dL_law_29 (by decide) (fun c1 => ?_) (fun c1 => ?_)
  · refine lv_iconst (v := 1) hx hb dL_law_1570 (by decide) ?_
    refine va_forget (fun q hq => hS.2.2 q hq) ?_
    refine W.widen (k := 600002) (n := 7302232) hc hs ?_
    exact lw_ret hx hb hr hlocks dL_law_1571
  · exfalso
    have hk5 : (nI i).toInt = (i : Int) := nI_toInt (by omega)
    have z1 := hz.1
    have z2 := hz.2
    have c2 := mt fz_lt.mpr c1
    omega
set_option maxHeartbeats 4000000 in
set_option maxRecDepth 100000 in
theorem law_loop {p : Program} {l : Launch} {e : Env} {s : State} {m : MethodId} {below : List Frame} {meth : Method} {c : Code} {b L : Nat} {xs : Nat → Int32} {g : Gx} (hst : l.stackTraces = false) (hL : L ≤ 5) (C0 : lw_At p s m meth c b L xs) (E0 : LA g s) (Ty : TyM) (G : Gh) (H : Heap) (locs : List Loc) (ls : Array Slot) (hW : LW g s.heap.size Ty G H) (hS : va_S (fun q => s.heap.size ≤ q) s.heap H locs) (hl : lv_has ls 8 (lvL s b 0)) : W p l e room_1 s m #[Value.ref b] below meth c H locs 64 3754 (lw_Z below #[Value.ref b] s) (F0 m 23 ls []) := by
  by_cases hi : L < 0 + 5
  · exact law_end hL C0 hi (by decide) (by decide) (by decide) hS hl
  obtain ⟨hx, hb, hr, hml, hown, hts, hXs, hbl, hlocks, hgv⟩ := id C0
  refine lv_iload hx hb dL_law_23 (lv_at hl 0 rfl) ?_
  refine lv_aload_n hx hb dL_law_25 rfl (lv_at hl 4 rfl) ?_
  refine va_slen hx hb hXs hbl (Nat.not_le.mpr hbl) hS dL_law_26 ?_
  refine lv_iconst (v := 5) hx hb dL_law_27 (by decide) ?_
  refine lv_isub hx hb dL_law_28 ?_
  have hLr : rgI (L : Int) (L : Int) (Int32.ofNat L) := by
    have : (nI L).toInt = (L : Int) := nI_toInt (by omega)
    exact ⟨by show (L : Int) ≤ (nI L).toInt; omega, by show (nI L).toInt ≤ (L : Int); omega⟩
  have hz := rg_sub hLr (show rgI 5 5 (5 : Int32) from ⟨by decide, by decide⟩) (by omega) (by omega)
  refine lv_icmp_gt (tgt := 1570) hx hb dL_law_29 (by decide) (fun c1 => ?_) (fun c1 => ?_)
  · exfalso
    have hk5 : (nI 0).toInt = ((0 : Nat) : Int) := nI_toInt (by omega)
    have z1 := hz.1
    have z2 := hz.2
    have c2 := fz_lt.mp c1
    omega
  · refine lv_aload_n hx hb dL_law_32 rfl (lv_at hl 4 rfl) ?_
    refine lv_iload hx hb dL_law_33 (lv_at hl 0 rfl) ?_
    refine va_sld hx hb hXs hbl (Nat.not_le.mpr hbl) hS (vp_in_iff.mpr ⟨by rw [nI_toInt (by omega)]; omega, by rw [nI_toInt (by omega)]; omega⟩) dL_law_35 ?_
    refine lv_bipush (v := 63) hx hb dL_law_36 (by decide) ?_
    refine lv_iand hx hb dL_law_38 ?_
    refine lv_topi (fun v ev => ?_)
    have hX : LcX p l s m meth c b L xs g 0 64 3754 := ⟨hst, hL, C0, E0, by omega, by decide, by decide⟩
    have kk : LcT p l e s m below meth c b 0 64 3754 1564 (lw_Z below #[Value.ref b] s) := fun H locs ls hS hl => by
      refine lv_iinc (v := nI 5) (lv' := lvL s b 5) hx hb dL_law_1564 hl (k := 0) rfl (show nI 0 + nI 5 = nI (0 + 5) from nI_add _ _) (by decide) rfl (fun ls hl => ?_)
      refine lv_goto (tgt := 23) hx hb dL_law_1567 (by decide) ?_
      exact law_end hL C0 (by omega) (by decide) (by decide) (by decide) hS hl
    by_cases ho : v.toInt < 0 ∨ 43 < v.toInt
    · refine lv_tableOut (tgt := 1564) hx hb dL_law_39 ho (by decide) ?_
      exact W.widen (by decide) (by decide) (kk H locs ls hS hl)
    · obtain ⟨j, hj, rfl⟩ : ∃ j : Nat, j < 44 ∧ v = nI j := ⟨v.toInt.toNat, by omega, Int32.toInt_inj.mp (by rw [nI_toInt (by omega)]; omega)⟩
      match j, hj with
      | 0, _ => exact lv_tableIn (tgt := 228) (off := 189) hx hb dL_law_39 (by decide +kernel) (by decide +kernel) (by decide +kernel) (by decide) (lc_0 hX hl hW hS kk)
      | 1, _ => exact lv_tableIn (tgt := 253) (off := 214) hx hb dL_law_39 (by decide +kernel) (by decide +kernel) (by decide +kernel) (by decide) (lc_1 hX hl hW hS kk)
      | 2, _ => exact lv_tableIn (tgt := 278) (off := 239) hx hb dL_law_39 (by decide +kernel) (by decide +kernel) (by decide +kernel) (by decide) (lc_2 hX hl hW hS kk)
      | 3, _ => exact lv_tableIn (tgt := 291) (off := 252) hx hb dL_law_39 (by decide +kernel) (by decide +kernel) (by decide +kernel) (by decide) (lc_3 hX hl hW hS kk)
      | 4, _ => exact lv_tableIn (tgt := 304) (off := 265) hx hb dL_law_39 (by decide +kernel) (by decide +kernel) (by decide +kernel) (by decide) (lc_4 hX hl hW hS kk)
      | 5, _ => exact lv_tableIn (tgt := 372) (off := 333) hx hb dL_law_39 (by decide +kernel) (by decide +kernel) (by decide +kernel) (by decide) (lc_5 hX hl hW hS kk)
      | 6, _ => exact lv_tableIn (tgt := 440) (off := 401) hx hb dL_law_39 (by decide +kernel) (by decide +kernel) (by decide +kernel) (by decide) (lc_6 hX hl hW hS kk)
      | 7, _ => exact lv_tableIn (tgt := 501) (off := 462) hx hb dL_law_39 (by decide +kernel) (by decide +kernel) (by decide +kernel) (by decide) (lc_7 hX hl hW hS kk)
      | 8, _ => exact lv_tableIn (tgt := 538) (off := 499) hx hb dL_law_39 (by decide +kernel) (by decide +kernel) (by decide +kernel) (by decide) (lc_8 hX hl hW hS kk)
      | 9, _ => exact lv_tableIn (tgt := 587) (off := 548) hx hb dL_law_39 (by decide +kernel) (by decide +kernel) (by decide +kernel) (by decide) (lc_9 hX hl hW hS kk)
      | 10, _ => exact lv_tableIn (tgt := 636) (off := 597) hx hb dL_law_39 (by decide +kernel) (by decide +kernel) (by decide +kernel) (by decide) (lc_10 hX hl hW hS kk)
      | 11, _ => exact lv_tableIn (tgt := 673) (off := 634) hx hb dL_law_39 (by decide +kernel) (by decide +kernel) (by decide +kernel) (by decide) (lc_11 hX hl hW hS kk)
      | 12, _ => exact lv_tableIn (tgt := 710) (off := 671) hx hb dL_law_39 (by decide +kernel) (by decide +kernel) (by decide +kernel) (by decide) (lc_12 hX hl hW hS kk)
      | 13, _ => exact lv_tableIn (tgt := 759) (off := 720) hx hb dL_law_39 (by decide +kernel) (by decide +kernel) (by decide +kernel) (by decide) (lc_13 hX hl hW hS kk)
      | 14, _ => exact lv_tableIn (tgt := 772) (off := 733) hx hb dL_law_39 (by decide +kernel) (by decide +kernel) (by decide +kernel) (by decide) (lc_14 hX hl hW hS kk)
      | 15, _ => exact lv_tableIn (tgt := 785) (off := 746) hx hb dL_law_39 (by decide +kernel) (by decide +kernel) (by decide +kernel) (by decide) (lc_15 hX hl hW hS kk)
      | 16, _ => exact lv_tableIn (tgt := 810) (off := 771) hx hb dL_law_39 (by decide +kernel) (by decide +kernel) (by decide +kernel) (by decide) (lc_16 hX hl hW hS kk)
      | 17, _ => exact lv_tableIn (tgt := 835) (off := 796) hx hb dL_law_39 (by decide +kernel) (by decide +kernel) (by decide +kernel) (by decide) (lc_17 hX hl hW hS kk)
      | 18, _ => exact lv_tableIn (tgt := 860) (off := 821) hx hb dL_law_39 (by decide +kernel) (by decide +kernel) (by decide +kernel) (by decide) (lc_18 hX hl hW hS kk)
      | 19, _ => exact lv_tableIn (tgt := 873) (off := 834) hx hb dL_law_39 (by decide +kernel) (by decide +kernel) (by decide +kernel) (by decide) (lc_19 hX hl hW hS kk)
      | 20, _ => exact lv_tableIn (tgt := 910) (off := 871) hx hb dL_law_39 (by decide +kernel) (by decide +kernel) (by decide +kernel) (by decide) (lc_20 hX hl hW hS kk)
      | 21, _ => exact lv_tableIn (tgt := 935) (off := 896) hx hb dL_law_39 (by decide +kernel) (by decide +kernel) (by decide +kernel) (by decide) (lc_21 hX hl hW hS kk)
      | 22, _ => exact lv_tableIn (tgt := 960) (off := 921) hx hb dL_law_39 (by decide +kernel) (by decide +kernel) (by decide +kernel) (by decide) (lc_22 hX hl hW hS kk)
      | 23, _ => exact lv_tableIn (tgt := 997) (off := 958) hx hb dL_law_39 (by decide +kernel) (by decide +kernel) (by decide +kernel) (by decide) (lc_23 hX hl hW hS kk)
      | 24, _ => exact lv_tableIn (tgt := 1010) (off := 971) hx hb dL_law_39 (by decide +kernel) (by decide +kernel) (by decide +kernel) (by decide) (lc_24 hX hl hW hS kk)
      | 25, _ => exact lv_tableIn (tgt := 1047) (off := 1008) hx hb dL_law_39 (by decide +kernel) (by decide +kernel) (by decide +kernel) (by decide) (lc_25 hX hl hW hS kk)
      | 26, _ => exact lv_tableIn (tgt := 1084) (off := 1045) hx hb dL_law_39 (by decide +kernel) (by decide +kernel) (by decide +kernel) (by decide) (lc_26 hX hl hW hS kk)
      | 27, _ => exact lv_tableIn (tgt := 1097) (off := 1058) hx hb dL_law_39 (by decide +kernel) (by decide +kernel) (by decide +kernel) (by decide) (lc_27 hX hl hW hS kk)
      | 28, _ => exact lv_tableIn (tgt := 1134) (off := 1095) hx hb dL_law_39 (by decide +kernel) (by decide +kernel) (by decide +kernel) (by decide) (lc_28 hX hl hW hS kk)
      | 29, _ => exact lv_tableIn (tgt := 1147) (off := 1108) hx hb dL_law_39 (by decide +kernel) (by decide +kernel) (by decide +kernel) (by decide) (lc_29 hX hl hW hS kk)
      | 30, _ => exact lv_tableIn (tgt := 1160) (off := 1121) hx hb dL_law_39 (by decide +kernel) (by decide +kernel) (by decide +kernel) (by decide) (lc_30 hX hl hW hS kk)
      | 31, _ => exact lv_tableIn (tgt := 1173) (off := 1134) hx hb dL_law_39 (by decide +kernel) (by decide +kernel) (by decide +kernel) (by decide) (lc_31 hX hl hW hS kk)
      | 32, _ => exact lv_tableIn (tgt := 1222) (off := 1183) hx hb dL_law_39 (by decide +kernel) (by decide +kernel) (by decide +kernel) (by decide) (lc_32 hX hl hW hS kk)
      | 33, _ => exact lv_tableIn (tgt := 1235) (off := 1196) hx hb dL_law_39 (by decide +kernel) (by decide +kernel) (by decide +kernel) (by decide) (lc_33 hX hl hW hS kk)
      | 34, _ => exact lv_tableIn (tgt := 1248) (off := 1209) hx hb dL_law_39 (by decide +kernel) (by decide +kernel) (by decide +kernel) (by decide) (lc_34 hX hl hW hS kk)
      | 35, _ => exact lv_tableIn (tgt := 1261) (off := 1222) hx hb dL_law_39 (by decide +kernel) (by decide +kernel) (by decide +kernel) (by decide) (lc_35 hX hl hW hS kk)
      | 36, _ => exact lv_tableIn (tgt := 1310) (off := 1271) hx hb dL_law_39 (by decide +kernel) (by decide +kernel) (by decide +kernel) (by decide) (lc_36 hX hl hW hS kk)
      | 37, _ => exact lv_tableIn (tgt := 1335) (off := 1296) hx hb dL_law_39 (by decide +kernel) (by decide +kernel) (by decide +kernel) (by decide) (lc_37 hX hl hW hS kk)
      | 38, _ => exact lv_tableIn (tgt := 1360) (off := 1321) hx hb dL_law_39 (by decide +kernel) (by decide +kernel) (by decide +kernel) (by decide) (lc_38 hX hl hW hS kk)
      | 39, _ => exact lv_tableIn (tgt := 1397) (off := 1358) hx hb dL_law_39 (by decide +kernel) (by decide +kernel) (by decide +kernel) (by decide) (lc_39 hX hl hW hS kk)
      | 40, _ => exact lv_tableIn (tgt := 1434) (off := 1395) hx hb dL_law_39 (by decide +kernel) (by decide +kernel) (by decide +kernel) (by decide) (lc_40 hX hl hW hS kk)
      | 41, _ => exact lv_tableIn (tgt := 1459) (off := 1420) hx hb dL_law_39 (by decide +kernel) (by decide +kernel) (by decide +kernel) (by decide) (lc_41 hX hl hW hS kk)
      | 42, _ => exact lv_tableIn (tgt := 1484) (off := 1445) hx hb dL_law_39 (by decide +kernel) (by decide +kernel) (by decide +kernel) (by decide) (lc_42 hX hl hW hS kk)
      | 43, _ => exact lv_tableIn (tgt := 1509) (off := 1470) hx hb dL_law_39 (by decide +kernel) (by decide +kernel) (by decide +kernel) (by decide) (lc_43 hX hl hW hS kk)
      | j + 44, h => exact absurd h (by omega)
