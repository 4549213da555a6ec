theorem LW.up {g : Gx} {N : Nat} {B B2 : Int} {Ty : TyM} {G : Gh} {H : Heap} (h : LW g N B Ty G H) (hb : B ≤ B2) : LW g N B2 Ty G H := ⟨h.1, h.2.1.up hb, h.2.2⟩
set_option maxHeartbeats 4000000 in
set_option maxRecDepth 100000 in
theorem law_loop {p : Program} {l : Launch} {e : Env} {s : State} {m : MethodId} {below : List Frame} {meth : Method} {c : Code} {b L : Nat} {xs : Nat → Int32} {g : Gx} (hst : l.stackTraces = false) (hL : L ≤ 2560) (C0 : lw_At p s m meth c b L xs) (E0 : LA g s) :
    ∀ (n k : Nat) (Ty : TyM) (G : Gh) (H : Heap) (locs : List Loc) (ls : Array Slot), 513 ≤ k + n → k ≤ 512 → LW g s.heap.size (1 + 3000 * (k : Int)) Ty G H → va_S (fun q => s.heap.size ≤ q) s.heap H locs → lv_has ls 8 (lvL s b (5 * k)) → W p l e room_1 s m #[Value.ref b] below meth c H locs (64 + 160 * k) (3754 + 3160 * k) (lw_Z below #[Value.ref b] s) (F0 m 23 ls []) := by
  obtain ⟨hx, hb, hr, hml, hown, hts, hXs, hbl, hlocks, hgv⟩ := id C0
  intro n
  induction n with
  | zero => intro k Ty G H locs ls h1 h2; exact absurd h1 (by omega)
  | succ n ih =>
    intro k Ty G H locs ls h1 h2 hW hS hl
    refine lv_iload hx hb dL_law_23 (lv_at hl 0 rfl) ?_
    refine lv_aload_n hx hb dL_law_25 rfl (lv_at hl 4 rfl) ?_
    refine va_slen hx hb hXs hbl (Nat.not_le.mpr hbl) hS dL_law_26 ?_
    refine lv_iconst (v := 5) hx hb dL_law_27 (by decide) ?_
    refine lv_isub hx hb dL_law_28 ?_
    have hLr : rgI (L : Int) (L : Int) (Int32.ofNat L) := by
      have : (nI L).toInt = (L : Int) := nI_toInt (by omega)
      exact ⟨by show (L : Int) ≤ (nI L).toInt; omega, by show (nI L).toInt ≤ (L : Int); omega⟩
    have hz := rg_sub hLr (show rgI 5 5 (5 : Int32) from ⟨by decide, by decide⟩) (by omega) (by omega)
    refine lv_icmp_gt (tgt := 1487) hx hb dL_law_29 (by decide) (fun c1 => ?_) (fun c1 => ?_)
    · refine lv_iconst (v := 1) hx hb dL_law_1487 (by decide) ?_
      refine va_forget (fun q hq => hS.2.2 q hq) ?_
      refine W.widen (k := 1157971) (n := 5622190) (by omega) (by omega) ?_
      exact lw_ret hx hb hr hlocks dL_law_1488
    · have c2 := mt fz_lt.mpr c1
      have hk5 : (nI (5 * k)).toInt = ((5 * k : Nat) : Int) := nI_toInt (by omega)
      have hi : 5 * k + 5 ≤ L := by
        have z1 := hz.1; have z2 := hz.2
        omega
      refine lv_aload_n hx hb dL_law_32 rfl (lv_at hl 4 rfl) ?_
      refine lv_iload hx hb dL_law_33 (lv_at hl 0 rfl) ?_
      refine va_sld hx hb hXs hbl (Nat.not_le.mpr hbl) hS (vp_in_iff.mpr ⟨by omega, by omega⟩) dL_law_35 ?_
      refine lv_bipush (v := 63) hx hb dL_law_36 (by decide) ?_
      refine lv_iand hx hb dL_law_38 ?_
      refine lv_topi (fun v ev => ?_)
      have hX : LcX p l s m meth c b L xs g (5 * k) (1 + 3000 * (k : Int)) (64 + 160 * k) (3754 + 3160 * k) := ⟨hst, hL, C0, E0, hi, by omega, by omega, by omega⟩
      have kk : LcT p l e s m below meth c b g (5 * k) (1 + 3000 * (k : Int)) (64 + 160 * k) (3754 + 3160 * k) 1481 (lw_Z below #[Value.ref b] s) := fun Ty G H locs ls hW hS hl => by
        refine lv_iinc (v := nI (5 * (k + 1))) (lv' := lvL s b (5 * (k + 1))) hx hb dL_law_1481 hl (k := 0) rfl (show nI (5 * k) + nI 5 = nI (5 * k + 5) from nI_add _ _) (by decide) rfl (fun ls hl => ?_)
        refine lv_goto (tgt := 23) hx hb dL_law_1484 (by decide) ?_
        have e1 : (1 + 3000 * (k : Int)) + 3000 = 1 + 3000 * ((k + 1 : Nat) : Int) := by omega
        rw [e1] at hW
        exact W.widen (by omega) (by omega) (ih (k + 1) Ty G H locs ls (by omega) (by omega) hW hS hl)
      by_cases ho : v.toInt < 0 ∨ 43 < v.toInt
      · refine lv_tableOut (tgt := 1481) hx hb dL_law_39 ho (by decide) ?_
        exact W.widen (by omega) (by omega) (kk Ty G H locs ls (hW.up (by omega)) hS hl)
      · obtain ⟨j, hj, rfl⟩ : ∃ j : Nat, j < 44 ∧ v = nI j := ⟨v.toInt.toNat, by omega, Int32.toInt_inj.mp (by rw [nI_toInt (by omega)]; omega)⟩
        match j, hj with
        | 0, _ => exact lv_tableIn (tgt := 228) (off := 189) hx hb dL_law_39 (by decide +kernel) (by decide +kernel) (by decide +kernel) (by decide) (lc_0 hX hl hW hS kk)
        | 1, _ => exact lv_tableIn (tgt := 253) (off := 214) hx hb dL_law_39 (by decide +kernel) (by decide +kernel) (by decide +kernel) (by decide) (lc_1 hX hl hW hS kk)
        | 2, _ => exact lv_tableIn (tgt := 278) (off := 239) hx hb dL_law_39 (by decide +kernel) (by decide +kernel) (by decide +kernel) (by decide) (lc_2 hX hl hW hS kk)
        | 3, _ => exact lv_tableIn (tgt := 291) (off := 252) hx hb dL_law_39 (by decide +kernel) (by decide +kernel) (by decide +kernel) (by decide) (lc_3 hX hl hW hS kk)
        | 4, _ => exact lv_tableIn (tgt := 304) (off := 265) hx hb dL_law_39 (by decide +kernel) (by decide +kernel) (by decide +kernel) (by decide) (lc_4 hX hl hW hS kk)
        | 5, _ => exact lv_tableIn (tgt := 344) (off := 305) hx hb dL_law_39 (by decide +kernel) (by decide +kernel) (by decide +kernel) (by decide) (lc_5 hX hl hW hS kk)
        | 6, _ => exact lv_tableIn (tgt := 384) (off := 345) hx hb dL_law_39 (by decide +kernel) (by decide +kernel) (by decide +kernel) (by decide) (lc_6 hX hl hW hS kk)
        | 7, _ => exact lv_tableIn (tgt := 445) (off := 406) hx hb dL_law_39 (by decide +kernel) (by decide +kernel) (by decide +kernel) (by decide) (lc_7 hX hl hW hS kk)
        | 8, _ => exact lv_tableIn (tgt := 482) (off := 443) hx hb dL_law_39 (by decide +kernel) (by decide +kernel) (by decide +kernel) (by decide) (lc_8 hX hl hW hS kk)
        | 9, _ => exact lv_tableIn (tgt := 531) (off := 492) hx hb dL_law_39 (by decide +kernel) (by decide +kernel) (by decide +kernel) (by decide) (lc_9 hX hl hW hS kk)
        | 10, _ => exact lv_tableIn (tgt := 580) (off := 541) hx hb dL_law_39 (by decide +kernel) (by decide +kernel) (by decide +kernel) (by decide) (lc_10 hX hl hW hS kk)
        | 11, _ => exact lv_tableIn (tgt := 617) (off := 578) hx hb dL_law_39 (by decide +kernel) (by decide +kernel) (by decide +kernel) (by decide) (lc_11 hX hl hW hS kk)
        | 12, _ => exact lv_tableIn (tgt := 654) (off := 615) hx hb dL_law_39 (by decide +kernel) (by decide +kernel) (by decide +kernel) (by decide) (lc_12 hX hl hW hS kk)
        | 13, _ => exact lv_tableIn (tgt := 703) (off := 664) hx hb dL_law_39 (by decide +kernel) (by decide +kernel) (by decide +kernel) (by decide) (lc_13 hX hl hW hS kk)
        | 14, _ => exact lv_tableIn (tgt := 716) (off := 677) hx hb dL_law_39 (by decide +kernel) (by decide +kernel) (by decide +kernel) (by decide) (lc_14 hX hl hW hS kk)
        | 15, _ => exact lv_tableIn (tgt := 729) (off := 690) hx hb dL_law_39 (by decide +kernel) (by decide +kernel) (by decide +kernel) (by decide) (lc_15 hX hl hW hS kk)
        | 16, _ => exact lv_tableIn (tgt := 754) (off := 715) hx hb dL_law_39 (by decide +kernel) (by decide +kernel) (by decide +kernel) (by decide) (lc_16 hX hl hW hS kk)
        | 17, _ => exact lv_tableIn (tgt := 779) (off := 740) hx hb dL_law_39 (by decide +kernel) (by decide +kernel) (by decide +kernel) (by decide) (lc_17 hX hl hW hS kk)
        | 18, _ => exact lv_tableIn (tgt := 804) (off := 765) hx hb dL_law_39 (by decide +kernel) (by decide +kernel) (by decide +kernel) (by decide) (lc_18 hX hl hW hS kk)
        | 19, _ => exact lv_tableIn (tgt := 817) (off := 778) hx hb dL_law_39 (by decide +kernel) (by decide +kernel) (by decide +kernel) (by decide) (lc_19 hX hl hW hS kk)
        | 20, _ => exact lv_tableIn (tgt := 854) (off := 815) hx hb dL_law_39 (by decide +kernel) (by decide +kernel) (by decide +kernel) (by decide) (lc_20 hX hl hW hS kk)
        | 21, _ => exact lv_tableIn (tgt := 879) (off := 840) hx hb dL_law_39 (by decide +kernel) (by decide +kernel) (by decide +kernel) (by decide) (lc_21 hX hl hW hS kk)
        | 22, _ => exact lv_tableIn (tgt := 904) (off := 865) hx hb dL_law_39 (by decide +kernel) (by decide +kernel) (by decide +kernel) (by decide) (lc_22 hX hl hW hS kk)
        | 23, _ => exact lv_tableIn (tgt := 941) (off := 902) hx hb dL_law_39 (by decide +kernel) (by decide +kernel) (by decide +kernel) (by decide) (lc_23 hX hl hW hS kk)
        | 24, _ => exact lv_tableIn (tgt := 954) (off := 915) hx hb dL_law_39 (by decide +kernel) (by decide +kernel) (by decide +kernel) (by decide) (lc_24 hX hl hW hS kk)
        | 25, _ => exact lv_tableIn (tgt := 991) (off := 952) hx hb dL_law_39 (by decide +kernel) (by decide +kernel) (by decide +kernel) (by decide) (lc_25 hX hl hW hS kk)
        | 26, _ => exact lv_tableIn (tgt := 1028) (off := 989) hx hb dL_law_39 (by decide +kernel) (by decide +kernel) (by decide +kernel) (by decide) (lc_26 hX hl hW hS kk)
        | 27, _ => exact lv_tableIn (tgt := 1041) (off := 1002) hx hb dL_law_39 (by decide +kernel) (by decide +kernel) (by decide +kernel) (by decide) (lc_27 hX hl hW hS kk)
        | 28, _ => exact lv_tableIn (tgt := 1078) (off := 1039) hx hb dL_law_39 (by decide +kernel) (by decide +kernel) (by decide +kernel) (by decide) (lc_28 hX hl hW hS kk)
        | 29, _ => exact lv_tableIn (tgt := 1091) (off := 1052) hx hb dL_law_39 (by decide +kernel) (by decide +kernel) (by decide +kernel) (by decide) (lc_29 hX hl hW hS kk)
        | 30, _ => exact lv_tableIn (tgt := 1104) (off := 1065) hx hb dL_law_39 (by decide +kernel) (by decide +kernel) (by decide +kernel) (by decide) (lc_30 hX hl hW hS kk)
        | 31, _ => exact lv_tableIn (tgt := 1117) (off := 1078) hx hb dL_law_39 (by decide +kernel) (by decide +kernel) (by decide +kernel) (by decide) (lc_31 hX hl hW hS kk)
        | 32, _ => exact lv_tableIn (tgt := 1166) (off := 1127) hx hb dL_law_39 (by decide +kernel) (by decide +kernel) (by decide +kernel) (by decide) (lc_32 hX hl hW hS kk)
        | 33, _ => exact lv_tableIn (tgt := 1179) (off := 1140) hx hb dL_law_39 (by decide +kernel) (by decide +kernel) (by decide +kernel) (by decide) (lc_33 hX hl hW hS kk)
        | 34, _ => exact lv_tableIn (tgt := 1192) (off := 1153) hx hb dL_law_39 (by decide +kernel) (by decide +kernel) (by decide +kernel) (by decide) (lc_34 hX hl hW hS kk)
        | 35, _ => exact lv_tableIn (tgt := 1205) (off := 1166) hx hb dL_law_39 (by decide +kernel) (by decide +kernel) (by decide +kernel) (by decide) (lc_35 hX hl hW hS kk)
        | 36, _ => exact lv_tableIn (tgt := 1254) (off := 1215) hx hb dL_law_39 (by decide +kernel) (by decide +kernel) (by decide +kernel) (by decide) (lc_36 hX hl hW hS kk)
        | 37, _ => exact lv_tableIn (tgt := 1279) (off := 1240) hx hb dL_law_39 (by decide +kernel) (by decide +kernel) (by decide +kernel) (by decide) (lc_37 hX hl hW hS kk)
        | 38, _ => exact lv_tableIn (tgt := 1304) (off := 1265) hx hb dL_law_39 (by decide +kernel) (by decide +kernel) (by decide +kernel) (by decide) (lc_38 hX hl hW hS kk)
        | 39, _ => exact lv_tableIn (tgt := 1341) (off := 1302) hx hb dL_law_39 (by decide +kernel) (by decide +kernel) (by decide +kernel) (by decide) (lc_39 hX hl hW hS kk)
        | 40, _ => exact lv_tableIn (tgt := 1378) (off := 1339) hx hb dL_law_39 (by decide +kernel) (by decide +kernel) (by decide +kernel) (by decide) (lc_40 hX hl hW hS kk)
        | 41, _ => exact lv_tableIn (tgt := 1403) (off := 1364) hx hb dL_law_39 (by decide +kernel) (by decide +kernel) (by decide +kernel) (by decide) (lc_41 hX hl hW hS kk)
        | 42, _ => exact lv_tableIn (tgt := 1428) (off := 1389) hx hb dL_law_39 (by decide +kernel) (by decide +kernel) (by decide +kernel) (by decide) (lc_42 hX hl hW hS kk)
        | 43, _ => exact lv_tableIn (tgt := 1453) (off := 1414) hx hb dL_law_39 (by decide +kernel) (by decide +kernel) (by decide +kernel) (by decide) (lc_43 hX hl hW hS kk)
        | j + 44, h => exact absurd h (by omega)
