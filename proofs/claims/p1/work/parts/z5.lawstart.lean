def tyC (Ty : TyM) (sz h0 : Nat) : TyM := tset (tset (tset (tset (tset (tset (tset (tset (tset (tset (tset (tset (tset (tset (tset (tset (tset (tset (tset (tset (tset (tset (tset (tset (tset (tset (tset (tset (tset (tset (tset (tset (tset (tset (tset (tset (tset (tset (tset (tset Ty (sz + 2) (30, 24)) (sz + 3) (30, 24)) (sz + 1) (30, 24)) sz (24, 0)) (sz + 5) (0, 24)) (sz + 6) (0, 24)) (sz + 7) (0, 24)) (sz + 4) (20, 0)) (sz + 9) (4, 12)) (sz + 8) (14, 0)) (sz + 10) (5, 2)) (sz + 12) (0, 80)) (sz + 11) (19, 0)) (sz + 14) (1, 24)) (sz + 13) (17, 0)) (sz + 16) (0, 40)) (sz + 17) (0, 40)) (sz + 18) (0, 7)) (sz + 19) (0, 40)) (sz + 15) (18, 0)) (sz + 21) (0, 40)) (sz + 22) (30, 40)) (sz + 23) (0, 7)) (sz + 24) (0, 40)) (sz + 20) (23, 0)) (sz + 26) (30, 24)) (sz + 25) (10, 0)) (sz + 27) (16, 0)) (sz + 28) (12, 0)) (sz + 30) (0, 12)) (sz + 31) (0, 12)) (sz + 32) (30, 24)) (sz + 29) (13, 0)) (sz + 34) (30, 10)) (sz + 35) (30, 10)) (sz + 36) (30, 10)) (sz + 33) (15, 0)) (sz + 38) (1, 17)) (sz + 37) (11, 0)) h0 (21, 0)
def tyM (Ty : TyM) (sz h0 : Nat) : TyM := tset (tset (tset (tset (tset (tset (tset (tset (tset (tset (tset (tset (tset (tset (tset (tset (tset (tset (tset (tset (tset (tset (tset Ty (sz + 1) (31, 80)) (sz + 2) (1, 32)) (sz + 3) (31, 40)) (sz + 4) (31, 40)) (sz + 5) (30, 7)) (sz + 6) (31, 160)) (sz + 7) (30, 1464)) (sz + 8) (30, 122)) (sz + 9) (30, 122)) (sz + 10) (30, 24)) (sz + 11) (30, 24)) (sz + 12) (30, 122)) (sz + 13) (30, 320)) (sz + 14) (0, 12)) (sz + 15) (0, 12)) (sz + 16) (30, 10)) (sz + 17) (30, 10)) (sz + 18) (30, 10)) (sz + 19) (1, 17)) (sz + 20) (30, 244)) (sz + 21) (33, 2)) sz (30, 122)) h0 (22, 0)
theorem lo_ts {Ty : TyM} {N x : Nat} {kd : Kd} (h : ∀ a k, Ty a = some k → N ≤ a) (hx : N ≤ x) : ∀ a k, tset Ty x kd a = some k → N ≤ a := fun a k q => by
  by_cases e : a = x
  · rw [e]; exact hx
  · rw [ts_ne e] at q; exact h a k q
theorem tyC_lo {Ty : TyM} {N sz h0 : Nat} (h : ∀ a k, Ty a = some k → N ≤ a) (h1 : N ≤ sz) (h2 : N ≤ h0) : ∀ a k, tyC Ty sz h0 a = some k → N ≤ a := by
  unfold tyC
  repeat (refine lo_ts ?_ (by omega))
  exact h
theorem tyM_lo {Ty : TyM} {N sz h0 : Nat} (h : ∀ a k, Ty a = some k → N ≤ a) (h1 : N ≤ sz) (h2 : N ≤ h0) : ∀ a k, tyM Ty sz h0 a = some k → N ≤ a := by
  unfold tyM
  repeat (refine lo_ts ?_ (by omega))
  exact h
theorem tyC_eq {Ty : TyM} {sz h0 : Nat} : tyC Ty sz h0 h0 = some (21, 0) := ts_eq
theorem tyM_eq {Ty : TyM} {sz h0 : Nat} : tyM Ty sz h0 h0 = some (22, 0) := ts_eq
theorem tyM_ne {Ty : TyM} {sz h0 a : Nat} (h1 : a < h0) (h2 : h0 < sz) : tyM Ty sz h0 a = Ty a := by
  unfold tyM
  rw [ts_ne (by omega), ts_ne (by omega), ts_ne (by omega), ts_ne (by omega), ts_ne (by omega), ts_ne (by omega), ts_ne (by omega), ts_ne (by omega), ts_ne (by omega), ts_ne (by omega), ts_ne (by omega), ts_ne (by omega), ts_ne (by omega), ts_ne (by omega), ts_ne (by omega), ts_ne (by omega), ts_ne (by omega), ts_ne (by omega), ts_ne (by omega), ts_ne (by omega), ts_ne (by omega), ts_ne (by omega), ts_ne (by omega)]
set_option maxHeartbeats 4000000 in
set_option maxRecDepth 100000 in
/-- THE LAW, from its entry -/
theorem whole_start {p : Program} {e : Env} {s : State} {m : MethodId} {below : List Frame} {meth : Method} {c : Code} (l : Launch) (hflags : l.flags = flags0) {b L : Nat} {xs : Nat → Int32} (hL : L ≤ 5) (C0 : lw_At p s m meth c b L xs) : W p l e room_1 s m #[Value.ref b] below meth c s.heap [] 0 0 (lw_Z below #[Value.ref b] s) (entryFrame m ([Value.ref b] : List Value).toArray 8) := by
  obtain ⟨hx, hb, hr, hml, hown, hts, hXs, hbl, hlocks, hgv⟩ := id C0
  have hown : s.vm.findClass "MountPeersLaw" = some m.cls := hown
  have hst : l.stackTraces = false := by
    unfold Launch.stackTraces
    rw [hflags]
    decide +kernel
  have hts2 := lw_g2 hts
  have hG : ∀ w ∈ GW, w.before #[Value.ref b] s = true := fun w h => hts _ (List.mem_filter.mp h).1
  obtain ⟨D, AC, hKK⟩ := law_known hts
  obtain ⟨ta, sa, va, hOC⟩ := law_old hts hgv
  obtain ⟨g, eg⟩ : ∃ z : Gx, z = (D, AC, layF s.heap.size ta sa va) := ⟨_, rfl⟩
  have E0 : LA g s := by rw [eg]; exact ⟨hKK _, hOC D AC _, law_xo hts hgv, lay_LD, lay_51, lay_LE, lay_LD1⟩
  have hI0 : OI g 1 (G00 s.heap.size) := by rw [eg]; exact G00_OI
  have hE0 : EQ5 g (G00 s.heap.size) ∧ RW3 g (G00 s.heap.size) := by rw [eg]; exact ⟨G00_EQ, G00_RW⟩
  have hK := E0.1
  have hAO : va_AO "MountPeers$Tree" s := va_AO.of (hts _ (tbt1 78 (by decide +kernel)))
  have hS : va_S (fun q : Nat => s.heap.size ≤ q) s.heap s.heap [] := va_S.rf
  have hH : HT g (fun _ => none) (G00 s.heap.size) s.heap := fun a k h => nomatch h
  have hl := lv_entry ([.ref b]) (n := 8) (Nat.le_of_ble_eq_true rfl)
  rw [lg_entry_eq]
  generalize (lg_sl ([.ref b]) ++ List.replicate (8 - (lg_sl ([.ref b])).length) Slot.unset).toArray = ls at hl ⊢
  have hl : lv_has ls 8 [(0, .ref b)] := hl
  refine hg_new (ci := 11) (fs := [.null, .null, .null, .null, .null, .null, .null, .null, .null, .null, .null, .null, .null, .null, .int 0]) (C := RX11) (T := TX11) (N := 15) hx hb hG igX11 tyX11 tyX11_ok hown (hG _ mw_101) (hG _ mw_102) (hG _ mw_76) hK hS rfl (fun j hj => by rcases (show j = 0 ∨ j = 1 ∨ j = 2 ∨ j = 3 ∨ j = 4 ∨ j = 5 ∨ j = 6 ∨ j = 7 ∨ j = 8 ∨ j = 9 ∨ j = 10 ∨ j = 11 ∨ j = 12 ∨ j = 13 ∨ j = 14 by omega) with rfl | rfl | rfl | rfl | rfl | rfl | rfl | rfl | rfl | rfl | rfl | rfl | rfl | rfl | rfl <;> rfl) (Nat.le_of_ble_eq_true rfl) (Nat.le_of_ble_eq_true rfl) dL_law_0 (fun H o_0 z_0 p_0 hS => ?_)
  have hH : HT g (fun _ => none) (G00 s.heap.size) H := hH.more p_0
  clear p_0
  refine lv_dup hx hb dL_law_3 rfl ?_
  refine va_callv (va_runI (As := []) (rest := [.ref s.heap.size]) ⟨hx, hb, hml, hown, hts2⟩ (c_X11_init l g (fun _ => none) (G00 s.heap.size) (s.heap.size + 1) s.heap.size rfl (by rw [eg]; rfl) (by rw [eg]; rfl) (by rw [eg]; rfl) (by rw [eg]; rfl) (by rw [eg]; rfl) (by rw [eg]; rfl) (by rw [eg]; rfl) (by rw [eg]; rfl) (by rw [eg]; rfl) (by rw [eg]; rfl) (by rw [eg]; rfl) (by rw [eg]; rfl) (by rw [eg]; rfl) (by rw [eg]; rfl) (by rw [eg]; rfl) (by rw [eg]; rfl) (by rw [eg]; rfl) (by rw [eg]; rfl) (by rw [eg]; rfl) (by rw [eg]; rfl) (by rw [eg]; rfl) (by rw [eg]; rfl) (by rw [eg]; rfl) (by rw [eg]; rfl) rfl rfl rfl rfl rfl rfl rfl rfl rfl rfl rfl rfl rfl rfl rfl rfl rfl (G00_p (by omega)) (G00_0 (by omega)) (G00_0 (by omega)) (G00_0 (by omega)) (G00_0 (by omega)) (G00_0 (by omega)) (G00_0 (by omega)) (G00_0 (by omega)) (G00_0 (by omega))) (cwI 0 hts2 (gwC mw_105) rfl rfl rfl (hG _ mw_76) (hG _ mw_103) (hG _ mw_104) rfl hd_X11_init ⟨Nat.le_of_ble_eq_true rfl, Nat.le_of_ble_eq_true rfl⟩) ⟨PcA_blind, fun U hU hW => by have h := PcA_pre (av := [.ref s.heap.size]) hK hAO hH o_0 U hU hW; rw [z_0] at h; exact h⟩ rfl rfl hl.1 rfl (lv_room (Nat.le_of_ble_eq_true rfl)) dL_law_4 ⟨Nat.le_of_ble_eq_true rfl, Nat.le_of_ble_eq_true rfl⟩) hS (fun q _ h => h.elim (fun w => by rw [w]; exact Nat.le_refl _) (fun w => by omega)) (fun q h => h.elim (fun w => by rw [w]; exact Nat.le_refl _) (fun w => by omega)) (fun _ t H1 locs ht hvm _ hB hzz hk hS => ?_)
  rw [ht] at hB
  obtain ⟨hH, z_1⟩ := hB
  have hH : HT g (tyC (fun _ => none) (s.heap.size + 1) s.heap.size) (G00 s.heap.size) H1 := hH
  refine lv_astore_n (lv' := [(1, .ref s.heap.size), (0, .ref b)]) hx hb dL_law_7 rfl hl (by decide) rfl (fun ls hl => ?_)
  have hno : tyC (fun _ => none) (s.heap.size + 1) s.heap.size (s.heap.size + 40) = none := hH.free (by omega)
  refine hg_newQ (ci := 12) (fs := [.null, .null, .int 0, .null, .int 0, .int 0, .null, .int 0, .int 0, .int 0, .int 0, .null, .null, .int 0, .int 0, .null, .null, .int 0, .int 0, .int 0, .int 0, .null, .int 0, .null, .null, .null, .null, .int 0, .int 0, .null, .null, .null, .null, .int 0, .null, .null, .null, .int 0, .null, .int 0, .null, .null]) (C := RX12) (T := TX12) (N := 42) hx hb hG igX12 tyX12 tyX12_ok hown (hG _ mw_1278) (hG _ mw_1279) (hG _ mw_88) hK hS rfl (fun j hj => by rcases (show j = 0 ∨ j = 1 ∨ j = 2 ∨ j = 3 ∨ j = 4 ∨ j = 5 ∨ j = 6 ∨ j = 7 ∨ j = 8 ∨ j = 9 ∨ j = 10 ∨ j = 11 ∨ j = 12 ∨ j = 13 ∨ j = 14 ∨ j = 15 ∨ j = 16 ∨ j = 17 ∨ j = 18 ∨ j = 19 ∨ j = 20 ∨ j = 21 ∨ j = 22 ∨ j = 23 ∨ j = 24 ∨ j = 25 ∨ j = 26 ∨ j = 27 ∨ j = 28 ∨ j = 29 ∨ j = 30 ∨ j = 31 ∨ j = 32 ∨ j = 33 ∨ j = 34 ∨ j = 35 ∨ j = 36 ∨ j = 37 ∨ j = 38 ∨ j = 39 ∨ j = 40 ∨ j = 41 by omega) with rfl | rfl | rfl | rfl | rfl | rfl | rfl | rfl | rfl | rfl | rfl | rfl | rfl | rfl | rfl | rfl | rfl | rfl | rfl | rfl | rfl | rfl | rfl | rfl | rfl | rfl | rfl | rfl | rfl | rfl | rfl | rfl | rfl | rfl | rfl | rfl | rfl | rfl | rfl | rfl | rfl | rfl <;> rfl) (Nat.le_of_ble_eq_true rfl) (Nat.le_of_ble_eq_true rfl) dL_law_8 (q := s.heap.size + 40) (by omega) (fun H2 o_2 z_2 p_2 hS => ?_)
  have hH : HT g (tyC (fun _ => none) (s.heap.size + 1) s.heap.size) (G00 s.heap.size) H2 := hH.more p_2
  have z_2 : H2.size = s.heap.size + 41 := z_2
  clear p_2
  refine lv_dup hx hb dL_law_11 rfl ?_
  refine va_callv (va_runI (As := []) (rest := [.ref (s.heap.size + 40)]) ⟨hx, hb, hml, hown, hts2⟩ (c_X12_init l g (tyC (fun _ => none) (s.heap.size + 1) s.heap.size) (G00 s.heap.size) (s.heap.size + 41) (s.heap.size + 40) hno (by rw [eg]; rfl) (by rw [eg]; rfl) (by rw [eg]; rfl) (by rw [eg]; rfl) (by rw [eg]; rfl) (by rw [eg]; rfl) (by rw [eg]; rfl) (by rw [eg]; rfl) (by rw [eg]; rfl) (by rw [eg]; rfl) (by rw [eg]; rfl) (by rw [eg]; rfl) (by rw [eg]; rfl) (by rw [eg]; rfl) (by rw [eg]; rfl) (by rw [eg]; rfl) (by rw [eg]; rfl) (by rw [eg]; rfl) (by rw [eg]; rfl) (by rw [eg]; rfl) (by rw [eg]; rfl) (by rw [eg]; rfl) (by rw [eg]; rfl) rfl rfl rfl rfl rfl rfl rfl rfl rfl rfl rfl rfl rfl rfl rfl rfl rfl rfl rfl rfl rfl rfl G00_n (G00_0 (by omega)) (G00_0 (by omega)) (G00_0 (by omega)) (G00_0 (by omega)) (G00_0 (by omega)) (G00_0 (by omega)) (G00_0 (by omega)) (G00_0 (by omega)) (G00_0 (by omega)) (G00_0 (by omega)) (G00_0 (by omega)) (G00_0 (by omega)) (G00_0 (by omega)) (G00_0 (by omega)) (G00_0 (by omega)) (G00_0 (by omega)) (G00_0 (by omega))) (cwI 0 hts2 (gwC mw_1282) rfl rfl rfl (hG _ mw_88) (hG _ mw_1280) (hG _ mw_1281) rfl hd_X12_init ⟨Nat.le_of_ble_eq_true rfl, Nat.le_of_ble_eq_true rfl⟩) ⟨PcC_blind, fun U hU hW => by have h := PcC_pre (av := [.ref (s.heap.size + 40)]) hK hH o_2 U hU hW; rw [z_2] at h; exact h⟩ rfl rfl hl.1 rfl (lv_room (Nat.le_of_ble_eq_true rfl)) dL_law_12 ⟨Nat.le_of_ble_eq_true rfl, Nat.le_of_ble_eq_true rfl⟩) hS (fun q _ h => h.elim (fun w => by rw [w]; exact Nat.le_add_right _ _) (fun w => by omega)) (fun q h => h.elim (fun w => by rw [w]; exact Nat.le_add_right _ _) (fun w => by omega)) (fun _ t H3 locs ht hvm _ hB hzz hk hS => ?_)
  rw [ht] at hB
  obtain ⟨hH, z_3⟩ := hB
  have hH : HT g (tyM (tyC (fun _ => none) (s.heap.size + 1) s.heap.size) (s.heap.size + 41) (s.heap.size + 40)) (G00 s.heap.size) H3 := hH
  have z_3 : H3.size = s.heap.size + 63 := z_3
  refine lv_astore_n (lv' := [(2, .ref (s.heap.size + 40)), (1, .ref s.heap.size), (0, .ref b)]) hx hb dL_law_15 rfl hl (by decide) rfl (fun ls hl => ?_)
  refine lv_iconst (v := 1) hx hb dL_law_16 (by decide) ?_
  refine hg_newl (N := 1) hx hb (hG _ mw_195) hK hS (by decide) (by decide) (by decide) (Nat.le_of_ble_eq_true rfl) (Nat.le_of_ble_eq_true rfl) dL_law_17 (fun H4 o_4 z_4 p_4 hS => ?_)
  have k3 : (tyM (tyC (fun _ => none) (s.heap.size + 1) s.heap.size) (s.heap.size + 41) (s.heap.size + 40)) (s.heap.size + 63) = none := hH.free (by omega)
  have hH : HT g (tyM (tyC (fun _ => none) (s.heap.size + 1) s.heap.size) (s.heap.size + 41) (s.heap.size + 40)) (G00 s.heap.size) H4 := hH.more p_4
  rw [z_3] at o_4 ⊢
  refine lv_astore_n (lv' := [(3, .ref (s.heap.size + 63)), (2, .ref (s.heap.size + 40)), (1, .ref s.heap.size), (0, .ref b)]) hx hb dL_law_19 rfl hl (by decide) rfl (fun ls hl => ?_)
  refine lv_iconst (v := nI 0) hx hb dL_law_20 (by decide) ?_
  refine lv_istore (lv' := lvL s b 0) hx hb dL_law_21 hl (by decide) rfl (fun ls hl => ?_)
  refine W.widen (k := 64) (n := 3754) (by decide) (by decide) ?_
  refine law_loop hst hL C0 E0 _ _ _ _ _ ⟨hH, hI0, hE0, by rw [eg]; exact G00_FS, ?_, tyM_eq, k3, ⟨_, o_4⟩, ?_⟩ hS hl
  · rw [tyM_ne (by omega) (by omega)]; exact tyC_eq
  · exact tyM_lo (tyC_lo (fun a k h => nomatch h) (by omega) (Nat.le_refl _)) (by omega) (by omega)
