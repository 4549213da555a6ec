def F_X11_toldWithSize (a0 : Int32) : Int32 := a0
set_option maxHeartbeats 4000000 in
set_option maxRecDepth 100000 in
theorem c_X11_toldWithSize (l : Launch) (g : Gx) (Ty : TyM) (G : Gh) (sz : Nat) (h0 : Nat) (a0 : Int32) (k_h0 : Ty h0 = some (21, 0)) (hD1 : LD1 g) : Met l yX11_toldWithSize (wsG yX11_toldWithSize cX11_toldWithSize 2 (some .int)) ({ frames := 2, cells := 0, slots := 0, locals := 44 }) (PcT g Ty G sz [.ref h0, .int a0]) (QwI g Ty sz (fun r u => u.1 = Ty ∧ FR [27] [] [] G u.2 ∧ F_X11_toldWithSize a0 = r)) 0 0 (AF Ty sz) := by
  refine Met.ofW (cc := cX11_toldWithSize) (maxL := 2) (ret := (some .int)) (by decide) rfl ?_
  intro p e s m args below meth c s₁ B hml hv
  obtain ⟨rfl, hsz, hK, hH⟩ := hv
  subst hsz
  have hx := B.exec
  have hb := B.bytes
  have hr := B.returns
  have hts := atoms_spec (ws := (wsG yX11_toldWithSize cX11_toldWithSize 2 (some .int))) B.pre
  have hG : ∀ w ∈ GW, w.before ([.ref h0, .int a0] : List Value).toArray s = true := fun w h => hts w (List.mem_cons_of_mem _ h)
  have hown : s.vm.findClass RX11 = some m.cls := findClass_of_methodNamed B.named
  have hlocks := B.notSynchronized
  have hl := lv_entry [.ref h0, .int a0] (n := 2) (Nat.le_of_ble_eq_true rfl)
  rw [lg_entry_eq]
  generalize (lg_sl [.ref h0, .int a0] ++ List.replicate (2 - (lg_sl [.ref h0, .int a0]).length) Slot.unset).toArray = ls at hl ⊢
  have hl : lv_has ls 2 [(0, .ref h0), (1, .int a0)] := hl
  have hv : a0 = F_X11_toldWithSize a0 := rfl
  have hS : va_S (AF Ty s.heap.size) s.heap s.heap [] := va_S.rf
  refine lv_aload_n hx hb dX11_toldWithSize_0 rfl (lv_at hl 0 rfl) ?_
  obtain ⟨_, ⟨rfl, kq_2, kq_3, kq_4, kq_5, kq_6, kq_7, kq_8, kq_9, kq_10, kq_11, kq_12, kq_13, kq_14, kq_15, t_17⟩, o_c_1⟩ := hH h0 _ k_h0
  refine hg_get hx hb hG igX11 hown hK o_c_1 rfl 5 (by decide) (hG _ mw_362) rfl dX11_toldWithSize_1 ?_
  refine lv_iload_n hx hb dX11_toldWithSize_4 rfl (lv_at hl 1 rfl) ?_
  refine vp_callSi (W.runS (As := [.int a0]) (rest := [.ref (g.2.2 5)]) ⟨hx, hb, hml, hown, hts⟩ (c_J6_bitCount_x l g Ty G a0 ) (cwSx 1 hts hG (gwC mw_620) mw_99 mw_618 mw_619 rfl rfl rfl hd_J6_bitCount_0f7a4 ⟨Nat.le_of_ble_eq_true rfl, Nat.le_of_ble_eq_true rfl⟩) ⟨PcH_blind, PcH_pre hK hH⟩ rfl rfl hl.1 rfl (lv_room (Nat.le_of_ble_eq_true rfl)) dX11_toldWithSize_5 ⟨Nat.zero_le _, Nat.zero_le _⟩) (fun x_18 hx_18 => ?_)
  have rx_18 : rgI (0) (63) x_18 := hx_18.1
  try rw [← hx_18.2] at hv
  try rw [← hx_18.2] at hv
  refine lv_i2l hx hb dX11_toldWithSize_8 rfl ?_
  refine lv_topl (fun u_19 eu_19 => ?_)
  obtain ⟨_, ⟨q_21, rfl, kq_21, rq_22, t_23⟩, o_c_20⟩ := hH (g.2.2 5) _ kq_7
  refine va_callv (va_runV (As := [.long u_19]) (rest := []) ⟨hx, hb, hml, hown, hts⟩ (c_X7_tell_x l g Ty G s.heap.size (g.2.2 5) u_19 kq_7 hD1) (cwV 1 hts (gwV mw_583 mw_584 mw_585 mw_80 mw_586) rfl rfl rfl hv_X7_tell ⟨Nat.le_of_ble_eq_true rfl, Nat.le_of_ble_eq_true rfl⟩) ⟨PcT_blind, hg_recv hK o_c_20 rfl, PcT_pre hK hH⟩ rfl rfl hl.1 rfl (lv_room (Nat.le_of_ble_eq_true rfl)) dX11_toldWithSize_9 ⟨Nat.zero_le _, Nat.zero_le _⟩) hS (fun q _ h => AF.mono hS.1 h) (fun q h => AF.mono hS.1 h) (fun ux_24 t H locs ht hvm hx_24 hB hz hk hS => ?_)
  obtain ⟨eTx_24, eGx_24⟩ := hx_24
  obtain ⟨G_25, eG_25⟩ : ∃ z, z = ux_24.2 := ⟨_, rfl⟩
  rw [← eG_25] at eGx_24
  obtain ⟨hfr_26, hex_27⟩ := eGx_24
  have fr_28 : FR [27] [] [] G G_25 := FR.tr FR.rf hfr_26 (by decide) (fun _ _ => trivial) (by decide)
  have hH : HT g Ty G_25 H := by rw [← ht, ← eTx_24, eG_25]; exact hB
  refine lv_iload_n hx hb dX11_toldWithSize_12 rfl (lv_at hl 1 rfl) ?_
  exact W.iret hx hb hr (fun t ht hWm => ⟨⟨a0, (Ty, G_25), rfl, ⟨rfl, ⟨fr_28, hv.symm⟩⟩, by show HT g Ty G_25 t.heap; rw [ht]; exact hH⟩, hS.F ht⟩) hS.2.2 dX11_toldWithSize_13

def F_X11_asWide (a0 : Int32) (a1 : Int32) : Int32 := (if a0 = (0 : Int32) then (Int8.toInt32 (Int32.toInt8 a1)) else (if a0 = (1 : Int32) then (Int16.toInt32 (Int32.toInt16 a1)) else a1))
set_option maxHeartbeats 4000000 in
set_option maxRecDepth 100000 in
theorem c_X11_asWide (l : Launch) (g : Gx) (Ty : TyM) (G : Gh) (a0 : Int32) (a1 : Int32) : Met l yX11_asWide (wsG yX11_asWide cX11_asWide 2 (some .int)) ({ frames := 0, cells := 0, slots := 0, locals := 0 }) (PcH g Ty G [.int a0, .int a1]) (vp_Si (fun r => r = F_X11_asWide a0 a1)) 0 0 (fun _ => False) := by
  refine Met.ofW (cc := cX11_asWide) (maxL := 2) (ret := (some .int)) (by decide) rfl ?_
  intro p e s m args below meth c s₁ B hml hv
  obtain ⟨rfl, hK, hH⟩ := hv
  have hx := B.exec
  have hb := B.bytes
  have hr := B.returns
  have hts := atoms_spec (ws := (wsG yX11_asWide cX11_asWide 2 (some .int))) B.pre
  have hG : ∀ w ∈ GW, w.before ([.int a0, .int a1] : List Value).toArray s = true := fun w h => hts w (List.mem_cons_of_mem _ h)
  have hown : s.vm.findClass RX11 = some m.cls := findClass_of_methodNamed B.named
  have hlocks := B.notSynchronized
  have hl := lv_entry [.int a0, .int a1] (n := 2) (Nat.le_of_ble_eq_true rfl)
  rw [lg_entry_eq]
  generalize (lg_sl [.int a0, .int a1] ++ List.replicate (2 - (lg_sl [.int a0, .int a1]).length) Slot.unset).toArray = ls at hl ⊢
  have hl : lv_has ls 2 [(0, .int a0), (1, .int a1)] := hl
  have hv : (if a0 = (0 : Int32) then (Int8.toInt32 (Int32.toInt8 a1)) else (if a0 = (1 : Int32) then (Int16.toInt32 (Int32.toInt16 a1)) else a1)) = F_X11_asWide a0 a1 := rfl
  refine lv_iload_n hx hb dX11_asWide_0 rfl (lv_at hl 0 rfl) ?_
  refine lv_if_ne (tgt := 9) hx hb dX11_asWide_1 (by decide) (fun c_1 => ?_) (fun c_1 => ?_)
  · rw [if_neg c_1] at hv
    refine lv_iload_n hx hb dX11_asWide_9 rfl (lv_at hl 0 rfl) ?_
    refine lv_iconst (v := 1) hx hb dX11_asWide_10 (by decide) ?_
    refine lv_icmp_ne (tgt := 19) hx hb dX11_asWide_11 (by decide) (fun c_2 => ?_) (fun c_2 => ?_)
    · rw [if_neg c_2] at hv
      refine lv_iload_n hx hb dX11_asWide_19 rfl (lv_at hl 1 rfl) ?_
      exact W.iret hx hb hr (fun t ht hW => ⟨a1, rfl, hv, ht⟩) (fun q h => by cases h) dX11_asWide_20
    · rw [if_pos c_2] at hv
      have r_3 : rgI (1) (1) a0 := rg_w (rg_eq rl_1 c_2) (by decide) (by decide)
      refine lv_iload_n hx hb dX11_asWide_14 rfl (lv_at hl 1 rfl) ?_
      refine lv_i2s hx hb dX11_asWide_15 rfl ?_
      refine lv_topi (fun x_4 ex_4 => ?_)
      try rw [← ex_4] at hv
      refine lv_goto (tgt := 20) hx hb dX11_asWide_16 (by decide) ?_
      exact W.iret hx hb hr (fun t ht hW => ⟨x_4, rfl, hv, ht⟩) (fun q h => by cases h) dX11_asWide_20
  · rw [if_pos c_1] at hv
    have r_5 : rgI (0) (0) a0 := rg_w (rg_eq rl_0 c_1) (by decide) (by decide)
    refine lv_iload_n hx hb dX11_asWide_4 rfl (lv_at hl 1 rfl) ?_
    refine lv_i2b hx hb dX11_asWide_5 rfl ?_
    refine lv_topi (fun x_6 ex_6 => ?_)
    try rw [← ex_6] at hv
    refine lv_goto (tgt := 20) hx hb dX11_asWide_6 (by decide) ?_
    exact W.iret hx hb hr (fun t ht hW => ⟨x_6, rfl, hv, ht⟩) (fun q h => by cases h) dX11_asWide_20

def F_X11_toldBySheet_9 : Nat → Int32 → Int32 → Int32 → Int32 → Int32 → Int32 → Int32 → (Nat → Int32) → (Nat → Int32) → Int32 → Int32
  | 0, _, _, _, _, y5, _, _, _, _, _ => y5
  | n + 1, y1, y2, y3, y4, y5, y6, y7, yr0, yr1, yn20 => (if (24 : Int32) ≤ y7 then y5 else (if y2 ≤ y6 then y5 else (if (F_X10_has yn20 y7) = (0 : Int32) then (F_X11_toldBySheet_9 n y1 y2 y3 y4 y5 y6 (y7 + (1 : Int32)) yr0 yr1 yn20) else (if (F_X10_groupOf yr0 y7) = (0 : Int32) then (if (F_X10_masterOf yr1 y7) = (0 : Int32) then (if (F_X11_asWide y1 (y3 + (y6 * y4))) ≤ (0 : Int32) then (F_X11_toldBySheet_9 n y1 y2 y3 y4 y5 (y6 + (1 : Int32)) (y7 + (1 : Int32)) yr0 yr1 yn20) else (F_X11_toldBySheet_9 n y1 y2 y3 y4 (y5 ||| ((1 : Int32) <<< (y7 &&& 31))) (y6 + (1 : Int32)) (y7 + (1 : Int32)) yr0 yr1 yn20)) else (F_X11_toldBySheet_9 n y1 y2 y3 y4 y5 (y6 + (1 : Int32)) (y7 + (1 : Int32)) yr0 yr1 yn20)) else (F_X11_toldBySheet_9 n y1 y2 y3 y4 y5 (y6 + (1 : Int32)) (y7 + (1 : Int32)) yr0 yr1 yn20)))))
def F_X11_toldBySheet (r0 : Nat → Int32) (r1 : Nat → Int32) (m20 : Int32) (a0 : Int32) (a1 : Int32) (a2 : Int32) (a3 : Int32) : Int32 := (F_X11_toldBySheet_9 26 a0 a1 a2 a3 (0 : Int32) (0 : Int32) (0 : Int32) r0 r1 m20)
set_option maxHeartbeats 4000000 in
set_option maxRecDepth 100000 in
theorem c_X11_toldBySheet (l : Launch) (g : Gx) (Ty : TyM) (G : Gh) (h0 : Nat) (a0 : Int32) (a1 : Int32) (a2 : Int32) (a3 : Int32) (k_h0 : Ty h0 = some (21, 0)) : Met l yX11_toldBySheet (wsG yX11_toldBySheet cX11_toldBySheet 9 (some .int)) ({ frames := 1, cells := 0, slots := 0, locals := 21 }) (PcH g Ty G [.ref h0, .int a0, .int a1, .int a2, .int a3]) (vp_Si (fun r => r = F_X11_toldBySheet (G.2.1 (g.2.2 71)) (G.2.1 (g.2.2 72)) (G.1 20) a0 a1 a2 a3)) 0 0 (fun _ => False) := by
  refine Met.ofW (cc := cX11_toldBySheet) (maxL := 9) (ret := (some .int)) (by decide) rfl ?_
  intro p e s m args below meth c s₁ B hml hv
  obtain ⟨rfl, hK, hH⟩ := hv
  have hx := B.exec
  have hb := B.bytes
  have hr := B.returns
  have hts := atoms_spec (ws := (wsG yX11_toldBySheet cX11_toldBySheet 9 (some .int))) B.pre
  have hG : ∀ w ∈ GW, w.before ([.ref h0, .int a0, .int a1, .int a2, .int a3] : List Value).toArray s = true := fun w h => hts w (List.mem_cons_of_mem _ h)
  have hown : s.vm.findClass RX11 = some m.cls := findClass_of_methodNamed B.named
  have hlocks := B.notSynchronized
  have hl := lv_entry [.ref h0, .int a0, .int a1, .int a2, .int a3] (n := 9) (Nat.le_of_ble_eq_true rfl)
  rw [lg_entry_eq]
  generalize (lg_sl [.ref h0, .int a0, .int a1, .int a2, .int a3] ++ List.replicate (9 - (lg_sl [.ref h0, .int a0, .int a1, .int a2, .int a3]).length) Slot.unset).toArray = ls at hl ⊢
  have hl : lv_has ls 9 [(0, .ref h0), (1, .int a0), (2, .int a1), (3, .int a2), (4, .int a3)] := hl
  have hv : (F_X11_toldBySheet_9 26 a0 a1 a2 a3 (0 : Int32) (0 : Int32) (0 : Int32) (G.2.1 (g.2.2 71)) (G.2.1 (g.2.2 72)) (G.1 20)) = F_X11_toldBySheet (G.2.1 (g.2.2 71)) (G.2.1 (g.2.2 72)) (G.1 20) a0 a1 a2 a3 := rfl
  have L_94 : ∀ (y5_94 : Int32) (ls : Array Slot), lv_has ls 9 [(5, .int y5_94)] → y5_94 = F_X11_toldBySheet (G.2.1 (g.2.2 71)) (G.2.1 (g.2.2 72)) (G.1 20) a0 a1 a2 a3 → Wm p l e (wsG yX11_toldBySheet cX11_toldBySheet 9 (some .int)) ({ frames := 1, cells := 0, slots := 0, locals := 21 }) s m [.ref h0, .int a0, .int a1, .int a2, .int a3] below meth c s.heap [] (0) (0) (vp_Si (fun r => r = F_X11_toldBySheet (G.2.1 (g.2.2 71)) (G.2.1 (g.2.2 72)) (G.1 20) a0 a1 a2 a3)) 0 0 (fun _ => False) (F0 m 94 ls []) := by
    intro y5_94 ls hl hv
    refine lv_iload hx hb dX11_toldBySheet_94 (lv_at hl 0 rfl) ?_
    exact W.iret hx hb hr (fun t ht hW => ⟨y5_94, rfl, hv, ht⟩) (fun q h => by cases h) dX11_toldBySheet_96
  have L_9 : ∀ (n_9 : Nat) (y5_9 : Int32) (y6_9 : Int32) (y7_9 : Int32) (ls : Array Slot), rgI (0) (2147483647) y6_9 → rgI (0) (24) y7_9 → (24 - (y7_9).toInt).toNat < n_9 → lv_has ls 9 [(0, .ref h0), (1, .int a0), (2, .int a1), (3, .int a2), (4, .int a3), (5, .int y5_9), (6, .int y6_9), (7, .int y7_9)] → (F_X11_toldBySheet_9 n_9 a0 a1 a2 a3 y5_9 y6_9 y7_9 (G.2.1 (g.2.2 71)) (G.2.1 (g.2.2 72)) (G.1 20)) = F_X11_toldBySheet (G.2.1 (g.2.2 71)) (G.2.1 (g.2.2 72)) (G.1 20) a0 a1 a2 a3 → Wm p l e (wsG yX11_toldBySheet cX11_toldBySheet 9 (some .int)) ({ frames := 1, cells := 0, slots := 0, locals := 21 }) s m [.ref h0, .int a0, .int a1, .int a2, .int a3] below meth c s.heap [] (0) (0) (vp_Si (fun r => r = F_X11_toldBySheet (G.2.1 (g.2.2 71)) (G.2.1 (g.2.2 72)) (G.1 20) a0 a1 a2 a3)) 0 0 (fun _ => False) (F0 m 9 ls []) := by
    intro n_9
    induction n_9 with
    | zero => intro y5_9 y6_9 y7_9 ls ry6_9 ry7_9 hm; exact absurd hm (Nat.not_lt_zero _)
    | succ n_9 ih_9 =>
      intro y5_9 y6_9 y7_9 ls ry6_9 ry7_9 hm_9 hl hv
      have L_88 : ∀ (y5_88 : Int32) (y6_88 : Int32) (ls : Array Slot), rgI (1) (2147483647) a1 → rgI (0) (2147483647) y6_88 → rgI (0) (23) y7_9 → lv_has ls 9 [(0, .ref h0), (1, .int a0), (2, .int a1), (3, .int a2), (4, .int a3), (5, .int y5_88), (6, .int y6_88), (7, .int y7_9)] → (F_X11_toldBySheet_9 n_9 a0 a1 a2 a3 y5_88 y6_88 (y7_9 + (1 : Int32)) (G.2.1 (g.2.2 71)) (G.2.1 (g.2.2 72)) (G.1 20)) = F_X11_toldBySheet (G.2.1 (g.2.2 71)) (G.2.1 (g.2.2 72)) (G.1 20) a0 a1 a2 a3 → Wm p l e (wsG yX11_toldBySheet cX11_toldBySheet 9 (some .int)) ({ frames := 1, cells := 0, slots := 0, locals := 21 }) s m [.ref h0, .int a0, .int a1, .int a2, .int a3] below meth c s.heap [] (0) (0) (vp_Si (fun r => r = F_X11_toldBySheet (G.2.1 (g.2.2 71)) (G.2.1 (g.2.2 72)) (G.1 20) a0 a1 a2 a3)) 0 0 (fun _ => False) (F0 m 88 ls []) := by
        intro y5_88 y6_88 ls ry2_88 ry6_88 ry7_88 hl hv
        obtain ⟨x_1, ex_1⟩ : ∃ y : Int32, y = y7_9 + 1 := ⟨_, rfl⟩
        try rw [← ex_1] at hv
        have rx_1 : rgI (1) (24) x_1 := by rw [ex_1]; exact rg_w (rg_add ry7_88 rl_1 (by decide) (by decide)) (by decide) (by decide)
        have qx_1 : x_1.toInt = (y7_9 : Int32).toInt + 1 := by rw [ex_1]; exact rg_addE ry7_88 rl_1 (by decide) (by decide)
        refine lv_iinc (v := x_1) (lv' := [(7, .int x_1), (0, .ref h0), (1, .int a0), (2, .int a1), (3, .int a2), (4, .int a3), (5, .int y5_88), (6, .int y6_88)]) hx hb dX11_toldBySheet_88 hl (k := 7) rfl (by rw [ex_1]; rfl) (by decide) rfl (fun ls hl => ?_)
        refine lv_goto (tgt := 9) hx hb dX11_toldBySheet_91 (by decide) ?_
        exact ih_9 y5_88 y6_88 x_1 ls ry6_88 (rg_w rx_1 (by decide) (by decide)) (by have h1 := qx_1; have h2 := ry7_88.1; have h3 := ry7_88.2; have h4 := hm_9; omega) (lv_sub hl [1, 2, 3, 4, 5, 6, 7, 0] rfl) hv
      rw [F_X11_toldBySheet_9] at hv
      refine lv_iload hx hb dX11_toldBySheet_9 (lv_at hl 7 rfl) ?_
      refine lv_bipush (v := 24) hx hb dX11_toldBySheet_11 (by decide) ?_
      refine lv_icmp_ge (tgt := 94) hx hb dX11_toldBySheet_13 (by decide) (fun c_2 => ?_) (fun c_2 => ?_)
      · rw [if_pos c_2] at hv
        have r_3 : rgI (24) (24) y7_9 := rg_w (rg_leR rl_24 ry7_9 c_2) (by decide) (by decide)
        exact L_94 y5_9 ls (lv_sub hl [5] rfl) hv
      · rw [if_neg c_2] at hv
        have r_4 : rgI (0) (23) y7_9 := rg_w (rg_ltL ry7_9 rl_24 (nle_lt c_2)) (by decide) (by decide)
        refine lv_iload hx hb dX11_toldBySheet_16 (lv_at hl 6 rfl) ?_
        refine lv_iload_n hx hb dX11_toldBySheet_18 rfl (lv_at hl 2 rfl) ?_
        refine lv_icmp_ge (tgt := 94) hx hb dX11_toldBySheet_19 (by decide) (fun c_5 => ?_) (fun c_5 => ?_)
        · rw [if_pos c_5] at hv
          exact L_94 y5_9 ls (lv_sub hl [5] rfl) hv
        · rw [if_neg c_5] at hv
          have r_6 : rgI (0) (2147483646) y6_9 := rg_w (rg_ltL ry6_9 (rg_top a1) (nle_lt c_5)) (by decide) (by decide)
          have r_7 : rgI (1) (2147483647) a1 := rg_w (rg_ltR ry6_9 (rg_top a1) (nle_lt c_5)) (by decide) (by decide)
          refine lv_aload_n hx hb dX11_toldBySheet_22 rfl (lv_at hl 0 rfl) ?_
          obtain ⟨_, ⟨rfl, kq_9, kq_10, kq_11, kq_12, kq_13, kq_14, kq_15, kq_16, kq_17, kq_18, kq_19, kq_20, kq_21, kq_22, t_24⟩, o_c_8⟩ := hH h0 _ k_h0
          refine hg_get hx hb hG igX11 hown hK o_c_8 rfl 0 (by decide) (hG _ mw_357) rfl dX11_toldBySheet_23 ?_
          refine lv_iload hx hb dX11_toldBySheet_26 (lv_at hl 7 rfl) ?_
          obtain ⟨_, ⟨rfl, kq_26, kq_27, kq_28, t_33⟩, o_c_25⟩ := hH (g.2.2 0) _ kq_9
          refine vp_callSi (W.runV (As := [.int y7_9]) (rest := []) ⟨hx, hb, hml, hown, hts⟩ (c_X10_has l g Ty G (g.2.2 0) y7_9 kq_9) (cwV 1 hts (gwV mw_603 mw_604 mw_605 mw_77 mw_606) rfl rfl rfl hv_X10_has ⟨Nat.le_of_ble_eq_true rfl, Nat.le_of_ble_eq_true rfl⟩) ⟨PcH_blind, hg_recv hK o_c_25 rfl, PcH_pre hK hH⟩ rfl rfl hl.1 rfl (lv_room (Nat.le_of_ble_eq_true rfl)) dX11_toldBySheet_28 ⟨Nat.zero_le _, Nat.zero_le _⟩) (fun x_34 hx_34 => ?_)
          have rx_34 : rgI (0) (1) x_34 := hx_34.1
          try rw [← hx_34.2.2] at hv
          have ex_35 : x_34 = F_X10_has (G.1 20) y7_9 := hx_34.2.2
          try rw [← ex_35] at hv
          refine lv_if_eq (tgt := 88) hx hb dX11_toldBySheet_31 (by decide) (fun c_36 => ?_) (fun c_36 => ?_)
          · rw [if_pos c_36] at hv
            have r_37 : rgI (0) (0) x_34 := rg_w (rg_eq rl_0 c_36) (by decide) (by decide)
            exact L_88 y5_9 y6_9 ls r_7 (rg_w r_6 (by decide) (by decide)) r_4 (lv_sub hl [0, 1, 2, 3, 4, 5, 6, 7] rfl) hv
          · rw [if_neg c_36] at hv
            have r_38 : rgI (1) (1) x_34 := rg_w (rg_neL rx_34 rl_0 c_36) (by decide) (by decide)
            refine lv_iload_n hx hb dX11_toldBySheet_34 rfl (lv_at hl 3 rfl) ?_
            refine lv_iload hx hb dX11_toldBySheet_35 (lv_at hl 6 rfl) ?_
            refine lv_iload hx hb dX11_toldBySheet_37 (lv_at hl 4 rfl) ?_
            refine lv_imul hx hb dX11_toldBySheet_39 ?_
            refine lv_topi (fun x_39 ex_39 => ?_)
            try rw [← ex_39] at hv
            refine lv_iadd hx hb dX11_toldBySheet_40 ?_
            refine lv_topi (fun x_40 ex_40 => ?_)
            try rw [← ex_40] at hv
            refine lv_istore (lv' := [(8, .int x_40), (0, .ref h0), (1, .int a0), (2, .int a1), (3, .int a2), (4, .int a3), (5, .int y5_9), (6, .int y6_9), (7, .int y7_9)]) hx hb dX11_toldBySheet_41 hl (by decide) rfl (fun ls hl => ?_)
            obtain ⟨x_41, ex_41⟩ : ∃ y : Int32, y = y6_9 + 1 := ⟨_, rfl⟩
            try rw [← ex_41] at hv
            have rx_41 : rgI (1) (2147483647) x_41 := by rw [ex_41]; exact rg_w (rg_add r_6 rl_1 (by decide) (by decide)) (by decide) (by decide)
            have qx_41 : x_41.toInt = (y6_9 : Int32).toInt + 1 := by rw [ex_41]; exact rg_addE r_6 rl_1 (by decide) (by decide)
            refine lv_iinc (v := x_41) (lv' := [(6, .int x_41), (8, .int x_40), (0, .ref h0), (1, .int a0), (2, .int a1), (3, .int a2), (4, .int a3), (5, .int y5_9), (7, .int y7_9)]) hx hb dX11_toldBySheet_43 hl (k := 7) rfl (by rw [ex_41]; rfl) (by decide) rfl (fun ls hl => ?_)
            refine lv_aload_n hx hb dX11_toldBySheet_46 rfl (lv_at hl 2 rfl) ?_
            refine hg_get hx hb hG igX11 hown hK o_c_8 rfl 0 (by decide) (hG _ mw_357) rfl dX11_toldBySheet_47 ?_
            refine lv_iload hx hb dX11_toldBySheet_50 (lv_at hl 8 rfl) ?_
            refine vp_callSi (W.runV (As := [.int y7_9]) (rest := []) ⟨hx, hb, hml, hown, hts⟩ (c_X10_groupOf l g Ty G (g.2.2 0) y7_9 kq_9) (cwV 1 hts (gwV mw_607 mw_608 mw_609 mw_77 mw_610) rfl rfl rfl hv_X10_groupOf ⟨Nat.le_of_ble_eq_true rfl, Nat.le_of_ble_eq_true rfl⟩) ⟨PcH_blind, hg_recv hK o_c_25 rfl, PcH_pre hK hH⟩ rfl rfl hl.1 rfl (lv_room (Nat.le_of_ble_eq_true rfl)) dX11_toldBySheet_52 ⟨Nat.zero_le _, Nat.zero_le _⟩) (fun x_42 hx_42 => ?_)
            try rw [← hx_42] at hv
            have ex_43 : x_42 = F_X10_groupOf (G.2.1 (g.2.2 71)) y7_9 := hx_42
            try rw [← ex_43] at hv
            refine lv_if_ne (tgt := 88) hx hb dX11_toldBySheet_55 (by decide) (fun c_44 => ?_) (fun c_44 => ?_)
            · rw [if_neg c_44] at hv
              exact L_88 y5_9 x_41 ls r_7 (rg_w rx_41 (by decide) (by decide)) r_4 (lv_sub hl [2, 3, 4, 5, 6, 7, 0, 8] rfl) hv
            · rw [if_pos c_44] at hv
              have r_45 : rgI (0) (0) x_42 := rg_w (rg_eq rl_0 c_44) (by decide) (by decide)
              refine lv_aload_n hx hb dX11_toldBySheet_58 rfl (lv_at hl 2 rfl) ?_
              refine hg_get hx hb hG igX11 hown hK o_c_8 rfl 0 (by decide) (hG _ mw_357) rfl dX11_toldBySheet_59 ?_
              refine lv_iload hx hb dX11_toldBySheet_62 (lv_at hl 8 rfl) ?_
              refine vp_callSi (W.runV (As := [.int y7_9]) (rest := []) ⟨hx, hb, hml, hown, hts⟩ (c_X10_masterOf l g Ty G (g.2.2 0) y7_9 kq_9) (cwV 1 hts (gwV mw_611 mw_612 mw_613 mw_77 mw_614) rfl rfl rfl hv_X10_masterOf ⟨Nat.le_of_ble_eq_true rfl, Nat.le_of_ble_eq_true rfl⟩) ⟨PcH_blind, hg_recv hK o_c_25 rfl, PcH_pre hK hH⟩ rfl rfl hl.1 rfl (lv_room (Nat.le_of_ble_eq_true rfl)) dX11_toldBySheet_64 ⟨Nat.zero_le _, Nat.zero_le _⟩) (fun x_46 hx_46 => ?_)
              try rw [← hx_46] at hv
              have ex_47 : x_46 = F_X10_masterOf (G.2.1 (g.2.2 72)) y7_9 := hx_46
              try rw [← ex_47] at hv
              refine lv_if_ne (tgt := 88) hx hb dX11_toldBySheet_67 (by decide) (fun c_48 => ?_) (fun c_48 => ?_)
              · rw [if_neg c_48] at hv
                exact L_88 y5_9 x_41 ls r_7 (rg_w rx_41 (by decide) (by decide)) r_4 (lv_sub hl [2, 3, 4, 5, 6, 7, 0, 8] rfl) hv
              · rw [if_pos c_48] at hv
                have r_49 : rgI (0) (0) x_46 := rg_w (rg_eq rl_0 c_48) (by decide) (by decide)
                refine lv_iload_n hx hb dX11_toldBySheet_70 rfl (lv_at hl 3 rfl) ?_
                refine lv_iload hx hb dX11_toldBySheet_71 (lv_at hl 1 rfl) ?_
                refine vp_callSi (W.runS (As := [.int a0, .int x_40]) (rest := []) ⟨hx, hb, hml, hown, hts⟩ (c_X11_asWide l g Ty G a0 x_40 ) (cwSx 2 hts hG (gwC mw_617) mw_76 mw_615 mw_616 rfl rfl rfl hd_X11_asWide ⟨Nat.le_of_ble_eq_true rfl, Nat.le_of_ble_eq_true rfl⟩) ⟨PcH_blind, PcH_pre hK hH⟩ rfl rfl hl.1 rfl (lv_room (Nat.le_of_ble_eq_true rfl)) dX11_toldBySheet_73 ⟨Nat.zero_le _, Nat.zero_le _⟩) (fun x_50 hx_50 => ?_)
                try rw [← hx_50] at hv
                have ex_51 : x_50 = F_X11_asWide a0 x_40 := hx_50
                try rw [← ex_51] at hv
                refine lv_if_le (tgt := 88) hx hb dX11_toldBySheet_76 (by decide) (fun c_52 => ?_) (fun c_52 => ?_)
                · rw [if_pos c_52] at hv
                  have r_53 : rgI (-2147483648) (0) x_50 := rg_w (rg_leL (rg_top x_50) rl_0 c_52) (by decide) (by decide)
                  exact L_88 y5_9 x_41 ls r_7 (rg_w rx_41 (by decide) (by decide)) r_4 (lv_sub hl [2, 3, 4, 5, 6, 7, 0, 8] rfl) hv
                · rw [if_neg c_52] at hv
                  have r_54 : rgI (1) (2147483647) x_50 := rg_w (rg_ltR rl_0 (rg_top x_50) (nle_lt c_52)) (by decide) (by decide)
                  refine lv_iload hx hb dX11_toldBySheet_79 (lv_at hl 7 rfl) ?_
                  refine lv_iconst (v := 1) hx hb dX11_toldBySheet_81 (by decide) ?_
                  refine lv_iload hx hb dX11_toldBySheet_82 (lv_at hl 8 rfl) ?_
                  refine lv_ishl hx hb dX11_toldBySheet_84 ?_
                  refine lv_topi (fun x_55 ex_55 => ?_)
                  try rw [← ex_55] at hv
                  refine lv_ior hx hb dX11_toldBySheet_85 ?_
                  refine lv_topi (fun x_56 ex_56 => ?_)
                  try rw [← ex_56] at hv
                  refine lv_istore (lv' := [(5, .int x_56), (6, .int x_41), (8, .int x_40), (0, .ref h0), (1, .int a0), (2, .int a1), (3, .int a2), (4, .int a3), (7, .int y7_9)]) hx hb dX11_toldBySheet_86 hl (by decide) rfl (fun ls hl => ?_)
                  exact L_88 x_56 x_41 ls r_7 (rg_w rx_41 (by decide) (by decide)) r_4 (lv_sub hl [3, 4, 5, 6, 7, 0, 1, 8] rfl) hv
  refine lv_iconst (v := 0) hx hb dX11_toldBySheet_0 (by decide) ?_
  refine lv_istore (lv' := [(5, .int 0), (0, .ref h0), (1, .int a0), (2, .int a1), (3, .int a2), (4, .int a3)]) hx hb dX11_toldBySheet_1 hl (by decide) rfl (fun ls hl => ?_)
  refine lv_iconst (v := 0) hx hb dX11_toldBySheet_3 (by decide) ?_
  refine lv_istore (lv' := [(6, .int 0), (5, .int 0), (0, .ref h0), (1, .int a0), (2, .int a1), (3, .int a2), (4, .int a3)]) hx hb dX11_toldBySheet_4 hl (by decide) rfl (fun ls hl => ?_)
  refine lv_iconst (v := 0) hx hb dX11_toldBySheet_6 (by decide) ?_
  refine lv_istore (lv' := [(7, .int 0), (6, .int 0), (5, .int 0), (0, .ref h0), (1, .int a0), (2, .int a1), (3, .int a2), (4, .int a3)]) hx hb dX11_toldBySheet_7 hl (by decide) rfl (fun ls hl => ?_)
  exact L_9 26 0 0 0 ls (rg_w rl_0 (by decide) (by decide)) (rg_w rl_0 (by decide) (by decide)) (by decide) (lv_sub hl [3, 4, 5, 6, 7, 2, 1, 0] rfl) hv

def F_X11_sheet (r0 : Nat → Int32) (r1 : Nat → Int32) (m20 : Int32) (m21 : Int32) (a0 : Int32) (a1 : Int32) (a2 : Int32) (a3 : Int32) : Int32 × Int32 := (if a0 < (0 : Int32) then ((-1 : Int32), m21) else (if (3 : Int32) < a0 then ((-1 : Int32), m21) else (if a1 ≤ (24 : Int32) then (if a0 = (3 : Int32) then ((-3 : Int32), (0 : Int32)) else (if (0 : Int32) ≤ a1 then ((F_J6_bitCount_0f7a4 (F_X11_toldBySheet r0 r1 m20 a0 a1 a2 a3)), (F_X11_toldBySheet r0 r1 m20 a0 a1 a2 a3)) else ((-2 : Int32), m21))) else ((-1 : Int32), m21))))
set_option maxHeartbeats 4000000 in
set_option maxRecDepth 100000 in
theorem c_X11_sheet (l : Launch) (g : Gx) (Ty : TyM) (G : Gh) (sz : Nat) (h0 : Nat) (a0 : Int32) (a1 : Int32) (a2 : Int32) (a3 : Int32) (k_h0 : Ty h0 = some (21, 0)) (hD1 : LD1 g) : Met l yX11_sheet (wsG yX11_sheet cX11_sheet 5 (some .int)) ({ frames := 2, cells := 0, slots := 0, locals := 49 }) (PcT g Ty G sz [.ref h0, .int a0, .int a1, .int a2, .int a3]) (QwI g Ty sz (fun r u => u.1 = Ty ∧ FR [21] [] [] G u.2 ∧ F_X11_sheet (G.2.1 (g.2.2 71)) (G.2.1 (g.2.2 72)) (G.1 20) (G.1 21) a0 a1 a2 a3 = (r, (u.2.1 21)))) 0 0 (AF Ty sz) := by
  refine Met.ofW (cc := cX11_sheet) (maxL := 5) (ret := (some .int)) (by decide) rfl ?_
  intro p e s m args below meth c s₁ B hml hv
  obtain ⟨rfl, hsz, hK, hH⟩ := hv
  subst hsz
  have hx := B.exec
  have hb := B.bytes
  have hr := B.returns
  have hts := atoms_spec (ws := (wsG yX11_sheet cX11_sheet 5 (some .int))) B.pre
  have hG : ∀ w ∈ GW, w.before ([.ref h0, .int a0, .int a1, .int a2, .int a3] : List Value).toArray s = true := fun w h => hts w (List.mem_cons_of_mem _ h)
  have hown : s.vm.findClass RX11 = some m.cls := findClass_of_methodNamed B.named
  have hlocks := B.notSynchronized
  have hl := lv_entry [.ref h0, .int a0, .int a1, .int a2, .int a3] (n := 5) (Nat.le_of_ble_eq_true rfl)
  rw [lg_entry_eq]
  generalize (lg_sl [.ref h0, .int a0, .int a1, .int a2, .int a3] ++ List.replicate (5 - (lg_sl [.ref h0, .int a0, .int a1, .int a2, .int a3]).length) Slot.unset).toArray = ls at hl ⊢
  have hl : lv_has ls 5 [(0, .ref h0), (1, .int a0), (2, .int a1), (3, .int a2), (4, .int a3)] := hl
  have hv : (if a0 < (0 : Int32) then ((-1 : Int32), (G.1 21)) else (if (3 : Int32) < a0 then ((-1 : Int32), (G.1 21)) else (if a1 ≤ (24 : Int32) then (if a0 = (3 : Int32) then ((-3 : Int32), (0 : Int32)) else (if (0 : Int32) ≤ a1 then ((F_J6_bitCount_0f7a4 (F_X11_toldBySheet (G.2.1 (g.2.2 71)) (G.2.1 (g.2.2 72)) (G.1 20) a0 a1 a2 a3)), (F_X11_toldBySheet (G.2.1 (g.2.2 71)) (G.2.1 (g.2.2 72)) (G.1 20) a0 a1 a2 a3)) else ((-2 : Int32), (G.1 21)))) else ((-1 : Int32), (G.1 21))))) = F_X11_sheet (G.2.1 (g.2.2 71)) (G.2.1 (g.2.2 72)) (G.1 20) (G.1 21) a0 a1 a2 a3 := rfl
  have hS : va_S (AF Ty s.heap.size) s.heap s.heap [] := va_S.rf
  have L_15 : ∀ (H : Heap) (locs : List Loc) (G_15 : Gh) (nl21_15 : Int32) (ls : Array Slot), FR [21] [] [] G G_15 → G_15.1 21 = nl21_15 → lv_has ls 5 [] → ((-1 : Int32), nl21_15) = F_X11_sheet (G.2.1 (g.2.2 71)) (G.2.1 (g.2.2 72)) (G.1 20) (G.1 21) a0 a1 a2 a3 → HT g Ty G_15 H → va_S (AF Ty s.heap.size) s.heap H locs → Wm p l e (wsG yX11_sheet cX11_sheet 5 (some .int)) ({ frames := 2, cells := 0, slots := 0, locals := 49 }) s m [.ref h0, .int a0, .int a1, .int a2, .int a3] below meth c H locs (0) (0) (QwI g Ty s.heap.size (fun r u => u.1 = Ty ∧ FR [21] [] [] G u.2 ∧ F_X11_sheet (G.2.1 (g.2.2 71)) (G.2.1 (g.2.2 72)) (G.1 20) (G.1 21) a0 a1 a2 a3 = (r, (u.2.1 21)))) 0 0 (AF Ty s.heap.size) (F0 m 15 ls []) := by
    intro H locs G_15 nl21_15 ls frL_15 enl21_15 hl hv hH hS
    refine lv_iconst (v := (-1)) hx hb dX11_sheet_15 (by decide) ?_
    exact W.iret hx hb hr (fun t ht hWm => ⟨⟨(-1), (Ty, G_15), rfl, ⟨rfl, ⟨frL_15, hv.symm.trans (by rw [enl21_15])⟩⟩, by show HT g Ty G_15 t.heap; rw [ht]; exact hH⟩, hS.F ht⟩) hS.2.2 dX11_sheet_16
  refine lv_iload_n hx hb dX11_sheet_0 rfl (lv_at hl 1 rfl) ?_
  refine lv_if_lt (tgt := 15) hx hb dX11_sheet_1 (by decide) (fun c_1 => ?_) (fun c_1 => ?_)
  · rw [if_pos c_1] at hv
    have r_2 : rgI (-2147483648) (-1) a0 := rg_w (rg_ltL (rg_top a0) rl_0 c_1) (by decide) (by decide)
    exact L_15 s.heap [] G (G.1 21) ls FR.rf rfl (lv_sub hl [] rfl) hv hH hS
  · rw [if_neg c_1] at hv
    have r_3 : rgI (0) (2147483647) a0 := rg_w (rg_leR rl_0 (rg_top a0) (nlt_le c_1)) (by decide) (by decide)
    refine lv_iload_n hx hb dX11_sheet_4 rfl (lv_at hl 1 rfl) ?_
    refine lv_iconst (v := 3) hx hb dX11_sheet_5 (by decide) ?_
    refine lv_icmp_gt (tgt := 15) hx hb dX11_sheet_6 (by decide) (fun c_4 => ?_) (fun c_4 => ?_)
    · rw [if_pos c_4] at hv
      have r_5 : rgI (4) (2147483647) a0 := rg_w (rg_ltR rl_3 r_3 c_4) (by decide) (by decide)
      exact L_15 s.heap [] G (G.1 21) ls FR.rf rfl (lv_sub hl [] rfl) hv hH hS
    · rw [if_neg c_4] at hv
      have r_6 : rgI (0) (3) a0 := rg_w (rg_leL r_3 rl_3 (nlt_le c_4)) (by decide) (by decide)
      refine lv_iload_n hx hb dX11_sheet_9 rfl (lv_at hl 2 rfl) ?_
      refine lv_bipush (v := 24) hx hb dX11_sheet_10 (by decide) ?_
      refine lv_icmp_le (tgt := 17) hx hb dX11_sheet_12 (by decide) (fun c_7 => ?_) (fun c_7 => ?_)
      · rw [if_pos c_7] at hv
        have r_8 : rgI (-2147483648) (24) a1 := rg_w (rg_leL (rg_top a1) rl_24 c_7) (by decide) (by decide)
        refine lv_iload_n hx hb dX11_sheet_17 rfl (lv_at hl 1 rfl) ?_
        refine lv_iconst (v := 3) hx hb dX11_sheet_18 (by decide) ?_
        refine lv_icmp_ne (tgt := 33) hx hb dX11_sheet_19 (by decide) (fun c_9 => ?_) (fun c_9 => ?_)
        · rw [if_neg c_9] at hv
          have r_10 : rgI (0) (2) a0 := rg_w (rg_neR r_6 rl_3 c_9) (by decide) (by decide)
          refine lv_iload_n hx hb dX11_sheet_33 rfl (lv_at hl 2 rfl) ?_
          refine lv_if_ge (tgt := 40) hx hb dX11_sheet_34 (by decide) (fun c_11 => ?_) (fun c_11 => ?_)
          · rw [if_pos c_11] at hv
            have r_12 : rgI (0) (24) a1 := rg_w (rg_leR rl_0 r_8 c_11) (by decide) (by decide)
            refine lv_aload_n hx hb dX11_sheet_40 rfl (lv_at hl 0 rfl) ?_
            obtain ⟨_, ⟨rfl, kq_14, kq_15, kq_16, kq_17, kq_18, kq_19, kq_20, kq_21, kq_22, kq_23, kq_24, kq_25, kq_26, kq_27, t_29⟩, o_c_13⟩ := hH h0 _ k_h0
            refine hg_get hx hb hG igX11 hown hK o_c_13 rfl 0 (by decide) (hG _ mw_357) rfl dX11_sheet_41 ?_
            refine lv_aload_n hx hb dX11_sheet_44 rfl (lv_at hl 0 rfl) ?_
            refine lv_iload_n hx hb dX11_sheet_45 rfl (lv_at hl 1 rfl) ?_
            refine lv_iload_n hx hb dX11_sheet_46 rfl (lv_at hl 2 rfl) ?_
            refine lv_iload_n hx hb dX11_sheet_47 rfl (lv_at hl 3 rfl) ?_
            refine lv_iload hx hb dX11_sheet_48 (lv_at hl 4 rfl) ?_
            refine vp_callSi (W.runV (As := [.int a0, .int a1, .int a2, .int a3]) (rest := [.ref (g.2.2 0)]) ⟨hx, hb, hml, hown, hts⟩ (c_X11_toldBySheet l g Ty G h0 a0 a1 a2 a3 k_h0) (cwV 4 hts (gwV mw_599 mw_601 mw_8 mw_76 mw_602) rfl rfl rfl hv_X11_toldBySheet ⟨Nat.le_of_ble_eq_true rfl, Nat.le_of_ble_eq_true rfl⟩) ⟨PcH_blind, hg_recv hK o_c_13 rfl, PcH_pre hK hH⟩ rfl rfl hl.1 rfl (lv_room (Nat.le_of_ble_eq_true rfl)) dX11_sheet_50 ⟨Nat.zero_le _, Nat.zero_le _⟩) (fun x_30 hx_30 => ?_)
            try rw [← hx_30] at hv
            have ex_31 : x_30 = F_X11_toldBySheet (G.2.1 (g.2.2 71)) (G.2.1 (g.2.2 72)) (G.1 20) a0 a1 a2 a3 := hx_30
            try rw [← ex_31] at hv
            obtain ⟨_, ⟨rfl, kq_33, kq_34, kq_35, t_40⟩, o_c_32⟩ := hH (g.2.2 0) _ kq_14
            refine hg_putN (ty := .int) hx hb hG igX10 tyX10 tyX10_ok nmX10 hown hK hS o_c_32 (AF.of kq_14) rfl 4 (by decide) ((hK.2.1 _ nwf_123).use rfl) rfl (by decide +kernel) rfl rfl (Nat.le_of_ble_eq_true rfl) dX11_sheet_53 (fun H locs o_c_32 hz oq hS => ?_)
            obtain ⟨G_41, eG_41⟩ : ∃ z : Gh, z = gset G 21 x_30 := ⟨_, rfl⟩
            have hH : HT g Ty G_41 H := by rw [eG_41]; exact HT.putM 21 x_30 hH kq_14 ⟨rfl, kq_33, kq_34, kq_35, t_40⟩ o_c_32 oq (⟨⟨by decide, by decide⟩, t_40⟩)
            have fr_42 : FR [21] [] [] G G_41 := FR.n FR.rf eG_41 (by decide)
            have u_43 : G_41.1 20 = (G.1 20) := by rw [eG_41]; exact (gs_ne (by decide))
            have u_44 : G_41.1 21 = x_30 := by rw [eG_41]; exact gs_eq
            have w_45 : G_41.2.1 (g.2.2 71) = (G.2.1 (g.2.2 71)) := by rw [eG_41]; exact rfl
            have w_46 : G_41.2.1 (g.2.2 72) = (G.2.1 (g.2.2 72)) := by rw [eG_41]; exact rfl
            clear oq hz
            refine lv_aload_n hx hb dX11_sheet_56 rfl (lv_at hl 0 rfl) ?_
            obtain ⟨_, ⟨rfl, kq_48, kq_49, kq_50, kq_51, kq_52, kq_53, kq_54, kq_55, kq_56, kq_57, kq_58, kq_59, kq_60, kq_61, t_63⟩, o_c_47⟩ := hH h0 _ k_h0
            refine hg_get hx hb hG igX11 hown hK o_c_47 rfl 0 (by decide) (hG _ mw_357) rfl dX11_sheet_57 ?_
            obtain ⟨_, ⟨rfl, kq_65, kq_66, kq_67, t_72⟩, o_c_64⟩ := hH (g.2.2 0) _ kq_48
            refine hg_getN hx hb hG igX10 hown hK o_c_64 rfl 4 (by decide) ((hK.2.1 _ nwf_123).use rfl) rfl dX11_sheet_60 ?_
            rw [u_44]
            refine vp_callSi (W.runS (As := [.int x_30]) (rest := []) ⟨hx, hb, hml, hown, hts⟩ (c_J6_bitCount_x l g Ty G_41 x_30 ) (cwSx 1 hts hG (gwC mw_620) mw_99 mw_618 mw_619 rfl rfl rfl hd_J6_bitCount_0f7a4 ⟨Nat.le_of_ble_eq_true rfl, Nat.le_of_ble_eq_true rfl⟩) ⟨PcH_blind, PcH_pre hK hH⟩ rfl rfl hl.1 rfl (lv_room (Nat.le_of_ble_eq_true rfl)) dX11_sheet_63 ⟨Nat.zero_le _, Nat.zero_le _⟩) (fun x_73 hx_73 => ?_)
            have rx_73 : rgI (0) (63) x_73 := hx_73.1
            try rw [← hx_73.2] at hv
            try rw [← hx_73.2] at hv
            exact W.iret hx hb hr (fun t ht hWm => ⟨⟨x_73, (Ty, G_41), rfl, ⟨rfl, ⟨fr_42, hv.symm.trans (by rw [u_44])⟩⟩, by show HT g Ty G_41 t.heap; rw [ht]; exact hH⟩, hS.F ht⟩) hS.2.2 dX11_sheet_66
          · rw [if_neg c_11] at hv
            have r_74 : rgI (-2147483648) (-1) a1 := rg_w (rg_ltL r_8 rl_0 (nle_lt c_11)) (by decide) (by decide)
            refine lv_bipush (v := (-2)) hx hb dX11_sheet_37 (by decide) ?_
            exact W.iret hx hb hr (fun t ht hWm => ⟨⟨(-2), (Ty, G), rfl, ⟨rfl, ⟨FR.rf, hv.symm⟩⟩, by show HT g Ty G t.heap; rw [ht]; exact hH⟩, hS.F ht⟩) hS.2.2 dX11_sheet_39
        · rw [if_pos c_9] at hv
          have r_75 : rgI (3) (3) a0 := rg_w (rg_eq rl_3 c_9) (by decide) (by decide)
          refine lv_aload_n hx hb dX11_sheet_22 rfl (lv_at hl 0 rfl) ?_
          obtain ⟨_, ⟨rfl, kq_77, kq_78, kq_79, kq_80, kq_81, kq_82, kq_83, kq_84, kq_85, kq_86, kq_87, kq_88, kq_89, kq_90, t_92⟩, o_c_76⟩ := hH h0 _ k_h0
          refine hg_get hx hb hG igX11 hown hK o_c_76 rfl 0 (by decide) (hG _ mw_357) rfl dX11_sheet_23 ?_
          refine lv_iconst (v := 0) hx hb dX11_sheet_26 (by decide) ?_
          obtain ⟨_, ⟨rfl, kq_94, kq_95, kq_96, t_101⟩, o_c_93⟩ := hH (g.2.2 0) _ kq_77
          refine hg_putN (ty := .int) hx hb hG igX10 tyX10 tyX10_ok nmX10 hown hK hS o_c_93 (AF.of kq_77) rfl 4 (by decide) ((hK.2.1 _ nwf_123).use rfl) rfl (by decide +kernel) rfl rfl (Nat.le_of_ble_eq_true rfl) dX11_sheet_27 (fun H locs o_c_93 hz oq hS => ?_)
          obtain ⟨G_102, eG_102⟩ : ∃ z : Gh, z = gset G 21 0 := ⟨_, rfl⟩
          have hH : HT g Ty G_102 H := by rw [eG_102]; exact HT.putM 21 0 hH kq_77 ⟨rfl, kq_94, kq_95, kq_96, t_101⟩ o_c_93 oq (⟨⟨by decide, by decide⟩, t_101⟩)
          have fr_103 : FR [21] [] [] G G_102 := FR.n FR.rf eG_102 (by decide)
          have u_104 : G_102.1 20 = (G.1 20) := by rw [eG_102]; exact (gs_ne (by decide))
          have u_105 : G_102.1 21 = 0 := by rw [eG_102]; exact gs_eq
          have w_106 : G_102.2.1 (g.2.2 71) = (G.2.1 (g.2.2 71)) := by rw [eG_102]; exact rfl
          have w_107 : G_102.2.1 (g.2.2 72) = (G.2.1 (g.2.2 72)) := by rw [eG_102]; exact rfl
          clear oq hz
          refine lv_bipush (v := (-3)) hx hb dX11_sheet_30 (by decide) ?_
          exact W.iret hx hb hr (fun t ht hWm => ⟨⟨(-3), (Ty, G_102), rfl, ⟨rfl, ⟨fr_103, hv.symm.trans (by rw [u_105])⟩⟩, by show HT g Ty G_102 t.heap; rw [ht]; exact hH⟩, hS.F ht⟩) hS.2.2 dX11_sheet_32
      · rw [if_neg c_7] at hv
        have r_108 : rgI (25) (2147483647) a1 := rg_w (rg_ltR rl_24 (rg_top a1) (nle_lt c_7)) (by decide) (by decide)
        exact L_15 s.heap [] G (G.1 21) ls FR.rf rfl (lv_sub hl [] rfl) hv hH hS

def F_X11_spread (r0 : Nat → Int32) (r1 : Nat → Int32) (m20 : Int32) (a0 : Int32) : Int32 := (if (F_X10_has m20 a0) = (0 : Int32) then (-1 : Int32) else (F_X11_toldWithSize (F_X10_spreadOf r0 r1 a0)))
set_option maxHeartbeats 4000000 in
set_option maxRecDepth 100000 in
theorem c_X11_spread (l : Launch) (g : Gx) (Ty : TyM) (G : Gh) (sz : Nat) (h0 : Nat) (a0 : Int32) (k_h0 : Ty h0 = some (21, 0)) (hD1 : LD1 g) : Met l yX11_spread (wsG yX11_spread cX11_spread 2 (some .int)) ({ frames := 3, cells := 0, slots := 0, locals := 71 }) (PcT g Ty G sz [.ref h0, .int a0]) (QwI g Ty sz (fun r u => u.1 = Ty ∧ FR [27] [] [] G u.2 ∧ F_X11_spread (G.2.1 (g.2.2 71)) (G.2.1 (g.2.2 72)) (G.1 20) a0 = r)) 0 0 (AF Ty sz) := by
  refine Met.ofW (cc := cX11_spread) (maxL := 2) (ret := (some .int)) (by decide) rfl ?_
  intro p e s m args below meth c s₁ B hml hv
  obtain ⟨rfl, hsz, hK, hH⟩ := hv
  subst hsz
  have hx := B.exec
  have hb := B.bytes
  have hr := B.returns
  have hts := atoms_spec (ws := (wsG yX11_spread cX11_spread 2 (some .int))) B.pre
  have hG : ∀ w ∈ GW, w.before ([.ref h0, .int a0] : List Value).toArray s = true := fun w h => hts w (List.mem_cons_of_mem _ h)
  have hown : s.vm.findClass RX11 = some m.cls := findClass_of_methodNamed B.named
  have hlocks := B.notSynchronized
  have hl := lv_entry [.ref h0, .int a0] (n := 2) (Nat.le_of_ble_eq_true rfl)
  rw [lg_entry_eq]
  generalize (lg_sl [.ref h0, .int a0] ++ List.replicate (2 - (lg_sl [.ref h0, .int a0]).length) Slot.unset).toArray = ls at hl ⊢
  have hl : lv_has ls 2 [(0, .ref h0), (1, .int a0)] := hl
  have hv : (if (F_X10_has (G.1 20) a0) = (0 : Int32) then (-1 : Int32) else (F_X11_toldWithSize (F_X10_spreadOf (G.2.1 (g.2.2 71)) (G.2.1 (g.2.2 72)) a0))) = F_X11_spread (G.2.1 (g.2.2 71)) (G.2.1 (g.2.2 72)) (G.1 20) a0 := rfl
  have hS : va_S (AF Ty s.heap.size) s.heap s.heap [] := va_S.rf
  refine lv_aload_n hx hb dX11_spread_0 rfl (lv_at hl 0 rfl) ?_
  obtain ⟨_, ⟨rfl, kq_2, kq_3, kq_4, kq_5, kq_6, kq_7, kq_8, kq_9, kq_10, kq_11, kq_12, kq_13, kq_14, kq_15, t_17⟩, o_c_1⟩ := hH h0 _ k_h0
  refine hg_get hx hb hG igX11 hown hK o_c_1 rfl 0 (by decide) (hG _ mw_357) rfl dX11_spread_1 ?_
  refine lv_iload_n hx hb dX11_spread_4 rfl (lv_at hl 1 rfl) ?_
  obtain ⟨_, ⟨rfl, kq_19, kq_20, kq_21, t_26⟩, o_c_18⟩ := hH (g.2.2 0) _ kq_2
  refine vp_callSi (W.runV (As := [.int a0]) (rest := []) ⟨hx, hb, hml, hown, hts⟩ (c_X10_has l g Ty G (g.2.2 0) a0 kq_2) (cwV 1 hts (gwV mw_603 mw_604 mw_605 mw_77 mw_606) rfl rfl rfl hv_X10_has ⟨Nat.le_of_ble_eq_true rfl, Nat.le_of_ble_eq_true rfl⟩) ⟨PcH_blind, hg_recv hK o_c_18 rfl, PcH_pre hK hH⟩ rfl rfl hl.1 rfl (lv_room (Nat.le_of_ble_eq_true rfl)) dX11_spread_5 ⟨Nat.zero_le _, Nat.zero_le _⟩) (fun x_27 hx_27 => ?_)
  have rx_27 : rgI (0) (1) x_27 := hx_27.1
  try rw [← hx_27.2.2] at hv
  have ex_28 : x_27 = F_X10_has (G.1 20) a0 := hx_27.2.2
  try rw [← ex_28] at hv
  refine lv_if_ne (tgt := 13) hx hb dX11_spread_8 (by decide) (fun c_29 => ?_) (fun c_29 => ?_)
  · rw [if_neg c_29] at hv
    have r_30 : rgI (1) (1) x_27 := rg_w (rg_neL rx_27 rl_0 c_29) (by decide) (by decide)
    have r_31 : rgI (0) (23) a0 := rg_w (hx_27.2.1.resolve_left c_29) (by decide) (by decide)
    refine lv_aload_n hx hb dX11_spread_13 rfl (lv_at hl 0 rfl) ?_
    refine lv_aload_n hx hb dX11_spread_14 rfl (lv_at hl 0 rfl) ?_
    refine hg_get hx hb hG igX11 hown hK o_c_1 rfl 0 (by decide) (hG _ mw_357) rfl dX11_spread_15 ?_
    refine lv_iload_n hx hb dX11_spread_18 rfl (lv_at hl 1 rfl) ?_
    refine vp_callSi (W.runV (As := [.int a0]) (rest := [.ref h0]) ⟨hx, hb, hml, hown, hts⟩ (c_X10_spreadOf l g Ty G (g.2.2 0) a0 kq_2) (cwV 1 hts (gwV mw_914 mw_650 mw_651 mw_77 mw_652) rfl rfl rfl hv_X10_spreadOf ⟨Nat.le_of_ble_eq_true rfl, Nat.le_of_ble_eq_true rfl⟩) ⟨PcH_blind, hg_recv hK o_c_18 rfl, PcH_pre hK hH⟩ rfl rfl hl.1 rfl (lv_room (Nat.le_of_ble_eq_true rfl)) dX11_spread_19 ⟨Nat.zero_le _, Nat.zero_le _⟩) (fun x_32 hx_32 => ?_)
    try rw [← hx_32] at hv
    have ex_33 : x_32 = F_X10_spreadOf (G.2.1 (g.2.2 71)) (G.2.1 (g.2.2 72)) a0 := hx_32
    try rw [← ex_33] at hv
    refine va_calli (va_runV (As := [.int x_32]) (rest := []) ⟨hx, hb, hml, hown, hts⟩ (c_X11_toldWithSize l g Ty G s.heap.size h0 x_32 k_h0 hD1) (cwV 1 hts (gwV mw_915 mw_917 mw_22 mw_76 mw_918) rfl rfl rfl hv_X11_toldWithSize ⟨Nat.le_of_ble_eq_true rfl, Nat.le_of_ble_eq_true rfl⟩) ⟨PcT_blind, hg_recv hK o_c_1 rfl, PcT_pre hK hH⟩ rfl rfl hl.1 rfl (lv_room (Nat.le_of_ble_eq_true rfl)) dX11_spread_22 ⟨Nat.zero_le _, Nat.zero_le _⟩) hS (fun q _ h => AF.mono hS.1 h) (fun q h => AF.mono hS.1 h) (fun x_34 ux_34 t H locs ht hvm hx_34 hB hz hk hS => ?_)
    obtain ⟨eTx_34, eGx_34⟩ := hx_34
    obtain ⟨G_35, eG_35⟩ : ∃ z, z = ux_34.2 := ⟨_, rfl⟩
    rw [← eG_35] at eGx_34
    obtain ⟨hfr_36, hex_37⟩ := eGx_34
    have fr_38 : FR [27] [] [] G G_35 := FR.tr FR.rf hfr_36 (by decide) (fun _ _ => trivial) (by decide)
    have u_39 : G_35.1 20 = (G.1 20) := (hfr_36.1 20 (by decide))
    have w_40 : G_35.2.1 (g.2.2 71) = (G.2.1 (g.2.2 71)) := (hfr_36.2.1 (g.2.2 71) trivial)
    have w_41 : G_35.2.1 (g.2.2 72) = (G.2.1 (g.2.2 72)) := (hfr_36.2.1 (g.2.2 72) trivial)
    have hq_42 : F_X11_toldWithSize x_32 = x_34 := by have q := hex_37; exact q
    try rw [hq_42] at hv
    have hH : HT g Ty G_35 H := by rw [← ht, ← eTx_34, eG_35]; exact hB
    exact W.iret hx hb hr (fun t ht hWm => ⟨⟨x_34, (Ty, G_35), rfl, ⟨rfl, ⟨fr_38, hv.symm⟩⟩, by show HT g Ty G_35 t.heap; rw [ht]; exact hH⟩, hS.F ht⟩) hS.2.2 dX11_spread_25
  · rw [if_pos c_29] at hv
    have r_43 : rgI (0) (0) x_27 := rg_w (rg_eq rl_0 c_29) (by decide) (by decide)
    refine lv_iconst (v := (-1)) hx hb dX11_spread_11 (by decide) ?_
    exact W.iret hx hb hr (fun t ht hWm => ⟨⟨(-1), (Ty, G), rfl, ⟨rfl, ⟨FR.rf, hv.symm⟩⟩, by show HT g Ty G t.heap; rw [ht]; exact hH⟩, hS.F ht⟩) hS.2.2 dX11_spread_12

def F_X11_peers (r0 : Nat → Int32) (r1 : Nat → Int32) (m20 : Int32) (a0 : Int32) : Int32 := (if (F_X10_has m20 a0) = (0 : Int32) then (-1 : Int32) else (F_X10_peersOf r0 a0))
set_option maxHeartbeats 4000000 in
set_option maxRecDepth 100000 in
theorem c_X11_peers (l : Launch) (g : Gx) (Ty : TyM) (G : Gh) (sz : Nat) (h0 : Nat) (a0 : Int32) (k_h0 : Ty h0 = some (21, 0)) (hD1 : LD1 g) : Met l yX11_peers (wsG yX11_peers cX11_peers 3 (some .int)) ({ frames := 3, cells := 0, slots := 0, locals := 65 }) (PcT g Ty G sz [.ref h0, .int a0]) (QwI g Ty sz (fun r u => u.1 = Ty ∧ FR [27] [] [] G u.2 ∧ F_X11_peers (G.2.1 (g.2.2 71)) (G.2.1 (g.2.2 72)) (G.1 20) a0 = r)) 0 0 (AF Ty sz) := by
  refine Met.ofW (cc := cX11_peers) (maxL := 3) (ret := (some .int)) (by decide) rfl ?_
  intro p e s m args below meth c s₁ B hml hv
  obtain ⟨rfl, hsz, hK, hH⟩ := hv
  subst hsz
  have hx := B.exec
  have hb := B.bytes
  have hr := B.returns
  have hts := atoms_spec (ws := (wsG yX11_peers cX11_peers 3 (some .int))) B.pre
  have hG : ∀ w ∈ GW, w.before ([.ref h0, .int a0] : List Value).toArray s = true := fun w h => hts w (List.mem_cons_of_mem _ h)
  have hown : s.vm.findClass RX11 = some m.cls := findClass_of_methodNamed B.named
  have hlocks := B.notSynchronized
  have hl := lv_entry [.ref h0, .int a0] (n := 3) (Nat.le_of_ble_eq_true rfl)
  rw [lg_entry_eq]
  generalize (lg_sl [.ref h0, .int a0] ++ List.replicate (3 - (lg_sl [.ref h0, .int a0]).length) Slot.unset).toArray = ls at hl ⊢
  have hl : lv_has ls 3 [(0, .ref h0), (1, .int a0)] := hl
  have hv : (if (F_X10_has (G.1 20) a0) = (0 : Int32) then (-1 : Int32) else (F_X10_peersOf (G.2.1 (g.2.2 71)) a0)) = F_X11_peers (G.2.1 (g.2.2 71)) (G.2.1 (g.2.2 72)) (G.1 20) a0 := rfl
  have hS : va_S (AF Ty s.heap.size) s.heap s.heap [] := va_S.rf
  refine lv_aload_n hx hb dX11_peers_0 rfl (lv_at hl 0 rfl) ?_
  obtain ⟨_, ⟨rfl, kq_2, kq_3, kq_4, kq_5, kq_6, kq_7, kq_8, kq_9, kq_10, kq_11, kq_12, kq_13, kq_14, kq_15, t_17⟩, o_c_1⟩ := hH h0 _ k_h0
  refine hg_get hx hb hG igX11 hown hK o_c_1 rfl 0 (by decide) (hG _ mw_357) rfl dX11_peers_1 ?_
  refine lv_iload_n hx hb dX11_peers_4 rfl (lv_at hl 1 rfl) ?_
  obtain ⟨_, ⟨rfl, kq_19, kq_20, kq_21, t_26⟩, o_c_18⟩ := hH (g.2.2 0) _ kq_2
  refine vp_callSi (W.runV (As := [.int a0]) (rest := []) ⟨hx, hb, hml, hown, hts⟩ (c_X10_has l g Ty G (g.2.2 0) a0 kq_2) (cwV 1 hts (gwV mw_603 mw_604 mw_605 mw_77 mw_606) rfl rfl rfl hv_X10_has ⟨Nat.le_of_ble_eq_true rfl, Nat.le_of_ble_eq_true rfl⟩) ⟨PcH_blind, hg_recv hK o_c_18 rfl, PcH_pre hK hH⟩ rfl rfl hl.1 rfl (lv_room (Nat.le_of_ble_eq_true rfl)) dX11_peers_5 ⟨Nat.zero_le _, Nat.zero_le _⟩) (fun x_27 hx_27 => ?_)
  have rx_27 : rgI (0) (1) x_27 := hx_27.1
  try rw [← hx_27.2.2] at hv
  have ex_28 : x_27 = F_X10_has (G.1 20) a0 := hx_27.2.2
  try rw [← ex_28] at hv
  refine lv_if_ne (tgt := 13) hx hb dX11_peers_8 (by decide) (fun c_29 => ?_) (fun c_29 => ?_)
  · rw [if_neg c_29] at hv
    have r_30 : rgI (1) (1) x_27 := rg_w (rg_neL rx_27 rl_0 c_29) (by decide) (by decide)
    have r_31 : rgI (0) (23) a0 := rg_w (hx_27.2.1.resolve_left c_29) (by decide) (by decide)
    refine lv_aload_n hx hb dX11_peers_13 rfl (lv_at hl 0 rfl) ?_
    refine hg_get hx hb hG igX11 hown hK o_c_1 rfl 0 (by decide) (hG _ mw_357) rfl dX11_peers_14 ?_
    refine lv_iload_n hx hb dX11_peers_17 rfl (lv_at hl 1 rfl) ?_
    refine vp_callSi (W.runV (As := [.int a0]) (rest := []) ⟨hx, hb, hml, hown, hts⟩ (c_X10_peersOf l g Ty G (g.2.2 0) a0 kq_2) (cwV 1 hts (gwV mw_923 mw_924 mw_925 mw_77 mw_926) rfl rfl rfl hv_X10_peersOf ⟨Nat.le_of_ble_eq_true rfl, Nat.le_of_ble_eq_true rfl⟩) ⟨PcH_blind, hg_recv hK o_c_18 rfl, PcH_pre hK hH⟩ rfl rfl hl.1 rfl (lv_room (Nat.le_of_ble_eq_true rfl)) dX11_peers_18 ⟨Nat.zero_le _, Nat.zero_le _⟩) (fun x_32 hx_32 => ?_)
    try rw [← hx_32] at hv
    have ex_33 : x_32 = F_X10_peersOf (G.2.1 (g.2.2 71)) a0 := hx_32
    try rw [← ex_33] at hv
    refine lv_istore_n (lv' := [(2, .int x_32), (0, .ref h0), (1, .int a0)]) hx hb dX11_peers_21 rfl hl (by decide) rfl (fun ls hl => ?_)
    refine lv_aload_n hx hb dX11_peers_22 rfl (lv_at hl 1 rfl) ?_
    refine hg_get hx hb hG igX11 hown hK o_c_1 rfl 5 (by decide) (hG _ mw_362) rfl dX11_peers_23 ?_
    refine lv_iload_n hx hb dX11_peers_26 rfl (lv_at hl 0 rfl) ?_
    refine vp_callSi (W.runS (As := [.int x_32]) (rest := [.ref (g.2.2 5)]) ⟨hx, hb, hml, hown, hts⟩ (c_J6_bitCount_x l g Ty G x_32 ) (cwSx 1 hts hG (gwC mw_620) mw_99 mw_618 mw_619 rfl rfl rfl hd_J6_bitCount_0f7a4 ⟨Nat.le_of_ble_eq_true rfl, Nat.le_of_ble_eq_true rfl⟩) ⟨PcH_blind, PcH_pre hK hH⟩ rfl rfl hl.1 rfl (lv_room (Nat.le_of_ble_eq_true rfl)) dX11_peers_27 ⟨Nat.zero_le _, Nat.zero_le _⟩) (fun x_34 hx_34 => ?_)
    have rx_34 : rgI (0) (63) x_34 := hx_34.1
    try rw [← hx_34.2] at hv
    try rw [← hx_34.2] at hv
    refine lv_i2l hx hb dX11_peers_30 rfl ?_
    refine lv_topl (fun u_35 eu_35 => ?_)
    refine lv_aload_n hx hb dX11_peers_31 rfl (lv_at hl 1 rfl) ?_
    refine hg_get hx hb hG igX11 hown hK o_c_1 rfl 0 (by decide) (hG _ mw_357) rfl dX11_peers_32 ?_
    refine lv_aload_n hx hb dX11_peers_35 rfl (lv_at hl 1 rfl) ?_
    refine hg_get hx hb hG igX11 hown hK o_c_1 rfl 0 (by decide) (hG _ mw_357) rfl dX11_peers_36 ?_
    refine lv_iload_n hx hb dX11_peers_39 rfl (lv_at hl 2 rfl) ?_
    refine vp_callSi (W.runV (As := [.int a0]) (rest := [.ref (g.2.2 0), .long u_35, .ref (g.2.2 5)]) ⟨hx, hb, hml, hown, hts⟩ (c_X10_groupOf l g Ty G (g.2.2 0) a0 kq_2) (cwV 1 hts (gwV mw_607 mw_608 mw_609 mw_77 mw_610) rfl rfl rfl hv_X10_groupOf ⟨Nat.le_of_ble_eq_true rfl, Nat.le_of_ble_eq_true rfl⟩) ⟨PcH_blind, hg_recv hK o_c_18 rfl, PcH_pre hK hH⟩ rfl rfl hl.1 rfl (lv_room (Nat.le_of_ble_eq_true rfl)) dX11_peers_40 ⟨Nat.zero_le _, Nat.zero_le _⟩) (fun x_36 hx_36 => ?_)
    try rw [← hx_36] at hv
    have ex_37 : x_36 = F_X10_groupOf (G.2.1 (g.2.2 71)) a0 := hx_36
    try rw [← ex_37] at hv
    refine vp_callSi (W.runV (As := [.int x_36]) (rest := [.long u_35, .ref (g.2.2 5)]) ⟨hx, hb, hml, hown, hts⟩ (c_X10_withMaster l g Ty G (g.2.2 0) x_36 kq_2) (cwV 1 hts (gwV mw_927 mw_666 mw_667 mw_77 mw_668) rfl rfl rfl hv_X10_withMaster ⟨Nat.le_of_ble_eq_true rfl, Nat.le_of_ble_eq_true rfl⟩) ⟨PcH_blind, hg_recv hK o_c_18 rfl, PcH_pre hK hH⟩ rfl rfl hl.1 rfl (lv_room (Nat.le_of_ble_eq_true rfl)) dX11_peers_43 ⟨Nat.zero_le _, Nat.zero_le _⟩) (fun x_38 hx_38 => ?_)
    try rw [← hx_38] at hv
    have ex_39 : x_38 = F_X10_withMaster (G.2.1 (g.2.2 72)) x_36 := hx_38
    try rw [← ex_39] at hv
    refine lv_i2l hx hb dX11_peers_46 rfl ?_
    refine lv_topl (fun u_40 eu_40 => ?_)
    obtain ⟨_, ⟨q_42, rfl, kq_42, rq_43, t_44⟩, o_c_41⟩ := hH (g.2.2 5) _ kq_7
    refine va_callv (va_runV (As := [.long u_35, .long u_40]) (rest := []) ⟨hx, hb, hml, hown, hts⟩ (c_X7_tellTwo_x l g Ty G s.heap.size (g.2.2 5) u_35 u_40 kq_7 hD1) (cwV 2 hts (gwV mw_753 mw_754 mw_755 mw_80 mw_756) rfl rfl rfl hv_X7_tellTwo ⟨Nat.le_of_ble_eq_true rfl, Nat.le_of_ble_eq_true rfl⟩) ⟨PcT_blind, hg_recv hK o_c_41 rfl, PcT_pre hK hH⟩ rfl rfl hl.1 rfl (lv_room (Nat.le_of_ble_eq_true rfl)) dX11_peers_47 ⟨Nat.zero_le _, Nat.zero_le _⟩) hS (fun q _ h => AF.mono hS.1 h) (fun q h => AF.mono hS.1 h) (fun ux_45 t H locs ht hvm hx_45 hB hz hk hS => ?_)
    obtain ⟨eTx_45, eGx_45⟩ := hx_45
    obtain ⟨G_46, eG_46⟩ : ∃ z, z = ux_45.2 := ⟨_, rfl⟩
    rw [← eG_46] at eGx_45
    obtain ⟨hfr_47, hex_48⟩ := eGx_45
    have fr_49 : FR [27] [] [] G G_46 := FR.tr FR.rf hfr_47 (by decide) (fun _ _ => trivial) (by decide)
    have u_50 : G_46.1 20 = (G.1 20) := (hfr_47.1 20 (by decide))
    have w_51 : G_46.2.1 (g.2.2 71) = (G.2.1 (g.2.2 71)) := (hfr_47.2.1 (g.2.2 71) trivial)
    have w_52 : G_46.2.1 (g.2.2 72) = (G.2.1 (g.2.2 72)) := (hfr_47.2.1 (g.2.2 72) trivial)
    have hH : HT g Ty G_46 H := by rw [← ht, ← eTx_45, eG_46]; exact hB
    refine lv_iload_n hx hb dX11_peers_50 rfl (lv_at hl 0 rfl) ?_
    exact W.iret hx hb hr (fun t ht hWm => ⟨⟨x_32, (Ty, G_46), rfl, ⟨rfl, ⟨fr_49, hv.symm⟩⟩, by show HT g Ty G_46 t.heap; rw [ht]; exact hH⟩, hS.F ht⟩) hS.2.2 dX11_peers_51
  · rw [if_pos c_29] at hv
    have r_53 : rgI (0) (0) x_27 := rg_w (rg_eq rl_0 c_29) (by decide) (by decide)
    refine lv_iconst (v := (-1)) hx hb dX11_peers_11 (by decide) ?_
    exact W.iret hx hb hr (fun t ht hWm => ⟨⟨(-1), (Ty, G), rfl, ⟨rfl, ⟨FR.rf, hv.symm⟩⟩, by show HT g Ty G t.heap; rw [ht]; exact hH⟩, hS.F ht⟩) hS.2.2 dX11_peers_12

def F_X11_groups (r0 : Nat → Int32) (m20 : Int32) : Int32 := (F_X10_groupCount r0)
set_option maxHeartbeats 4000000 in
set_option maxRecDepth 100000 in
theorem c_X11_groups (l : Launch) (g : Gx) (Ty : TyM) (G : Gh) (sz : Nat) (h0 : Nat) (k_h0 : Ty h0 = some (21, 0)) (hD1 : LD1 g) : Met l yX11_groups (wsG yX11_groups cX11_groups 4 (some .int)) ({ frames := 3, cells := 0, slots := 0, locals := 66 }) (PcT g Ty G sz [.ref h0]) (QwI g Ty sz (fun r u => u.1 = Ty ∧ FR [27] [] [] G u.2 ∧ F_X11_groups (G.2.1 (g.2.2 71)) (G.1 20) = r)) 0 0 (AF Ty sz) := by
  refine Met.ofW (cc := cX11_groups) (maxL := 4) (ret := (some .int)) (by decide) rfl ?_
  intro p e s m args below meth c s₁ B hml hv
  obtain ⟨rfl, hsz, hK, hH⟩ := hv
  subst hsz
  have hx := B.exec
  have hb := B.bytes
  have hr := B.returns
  have hts := atoms_spec (ws := (wsG yX11_groups cX11_groups 4 (some .int))) B.pre
  have hG : ∀ w ∈ GW, w.before ([.ref h0] : List Value).toArray s = true := fun w h => hts w (List.mem_cons_of_mem _ h)
  have hown : s.vm.findClass RX11 = some m.cls := findClass_of_methodNamed B.named
  have hlocks := B.notSynchronized
  have hl := lv_entry [.ref h0] (n := 4) (Nat.le_of_ble_eq_true rfl)
  rw [lg_entry_eq]
  generalize (lg_sl [.ref h0] ++ List.replicate (4 - (lg_sl [.ref h0]).length) Slot.unset).toArray = ls at hl ⊢
  have hl : lv_has ls 4 [(0, .ref h0)] := hl
  have hv : (F_X10_groupCount (G.2.1 (g.2.2 71))) = F_X11_groups (G.2.1 (g.2.2 71)) (G.1 20) := rfl
  have hS : va_S (AF Ty s.heap.size) s.heap s.heap [] := va_S.rf
  have L_11 : ∀ (n_11 : Nat) (H : Heap) (locs : List Loc) (G_11 : Gh) (y1_11 : Int32) (y2_11 : Int32) (ls : Array Slot), FR [27] [] [] G G_11 → rgI (0) (63) y1_11 → rgI (0) (24) y2_11 → (24 - (y2_11).toInt).toNat < n_11 → lv_has ls 4 [(0, .ref h0), (1, .int y1_11), (2, .int y2_11)] → (F_X10_groupCount (G.2.1 (g.2.2 71))) = F_X11_groups (G.2.1 (g.2.2 71)) (G.1 20) → HT g Ty G_11 H → va_S (AF Ty s.heap.size) s.heap H locs → Wm p l e (wsG yX11_groups cX11_groups 4 (some .int)) ({ frames := 3, cells := 0, slots := 0, locals := 66 }) s m [.ref h0] below meth c H locs (0) (0) (QwI g Ty s.heap.size (fun r u => u.1 = Ty ∧ FR [27] [] [] G u.2 ∧ F_X11_groups (G.2.1 (g.2.2 71)) (G.1 20) = r)) 0 0 (AF Ty s.heap.size) (F0 m 11 ls []) := by
    intro n_11
    induction n_11 with
    | zero => intro H locs G_11 y1_11 y2_11 ls frL_11 ry1_11 ry2_11 hm; exact absurd hm (Nat.not_lt_zero _)
    | succ n_11 ih_11 =>
      intro H locs G_11 y1_11 y2_11 ls frL_11 ry1_11 ry2_11 hm_11 hl hv hH hS
      have L_65 : ∀ (H : Heap) (locs : List Loc) (G_65 : Gh) (y1_65 : Int32) (ls : Array Slot), FR [27] [] [] G G_65 → rgI (0) (63) y1_65 → rgI (0) (23) y2_11 → lv_has ls 4 [(0, .ref h0), (1, .int y1_65), (2, .int y2_11)] → (F_X10_groupCount (G.2.1 (g.2.2 71))) = F_X11_groups (G.2.1 (g.2.2 71)) (G.1 20) → HT g Ty G_65 H → va_S (AF Ty s.heap.size) s.heap H locs → Wm p l e (wsG yX11_groups cX11_groups 4 (some .int)) ({ frames := 3, cells := 0, slots := 0, locals := 66 }) s m [.ref h0] below meth c H locs (0) (0) (QwI g Ty s.heap.size (fun r u => u.1 = Ty ∧ FR [27] [] [] G u.2 ∧ F_X11_groups (G.2.1 (g.2.2 71)) (G.1 20) = r)) 0 0 (AF Ty s.heap.size) (F0 m 65 ls []) := by
        intro H locs G_65 y1_65 ls frL_65 ry1_65 ry2_65 hl hv hH hS
        obtain ⟨x_1, ex_1⟩ : ∃ y : Int32, y = y2_11 + 1 := ⟨_, rfl⟩
        try rw [← ex_1] at hv
        have rx_1 : rgI (1) (24) x_1 := by rw [ex_1]; exact rg_w (rg_add ry2_65 rl_1 (by decide) (by decide)) (by decide) (by decide)
        have qx_1 : x_1.toInt = (y2_11 : Int32).toInt + 1 := by rw [ex_1]; exact rg_addE ry2_65 rl_1 (by decide) (by decide)
        refine lv_iinc (v := x_1) (lv' := [(2, .int x_1), (0, .ref h0), (1, .int y1_65)]) hx hb dX11_groups_65 hl (k := 2) rfl (by rw [ex_1]; rfl) (by decide) rfl (fun ls hl => ?_)
        refine lv_goto (tgt := 11) hx hb dX11_groups_68 (by decide) ?_
        exact ih_11 H locs G_65 y1_65 x_1 ls frL_65 ry1_65 (rg_w rx_1 (by decide) (by decide)) (by have h1 := qx_1; have h2 := ry2_65.1; have h3 := ry2_65.2; have h4 := hm_11; omega) (lv_sub hl [1, 2, 0] rfl) hv hH hS
      refine lv_iload_n hx hb dX11_groups_11 rfl (lv_at hl 2 rfl) ?_
      refine lv_bipush (v := 24) hx hb dX11_groups_12 (by decide) ?_
      refine lv_icmp_ge (tgt := 71) hx hb dX11_groups_14 (by decide) (fun c_2 => ?_) (fun c_2 => ?_)
      · have r_3 : rgI (24) (24) y2_11 := rg_w (rg_leR rl_24 ry2_11 c_2) (by decide) (by decide)
        refine lv_aload_n hx hb dX11_groups_71 rfl (lv_at hl 0 rfl) ?_
        obtain ⟨_, ⟨rfl, kq_5, kq_6, kq_7, kq_8, kq_9, kq_10, kq_11, kq_12, kq_13, kq_14, kq_15, kq_16, kq_17, kq_18, t_20⟩, o_c_4⟩ := hH h0 _ k_h0
        refine hg_get hx hb hG igX11 hown hK o_c_4 rfl 0 (by decide) (hG _ mw_357) rfl dX11_groups_72 ?_
        obtain ⟨_, ⟨rfl, kq_22, kq_23, kq_24, t_29⟩, o_c_21⟩ := hH (g.2.2 0) _ kq_5
        refine vp_callSi (W.runV (As := []) (rest := []) ⟨hx, hb, hml, hown, hts⟩ (c_X10_groupCount l g Ty G_11 (g.2.2 0) kq_5) (cwV 0 hts (gwV mw_944 mw_945 mw_946 mw_77 mw_947) rfl rfl rfl hv_X10_groupCount ⟨Nat.le_of_ble_eq_true rfl, Nat.le_of_ble_eq_true rfl⟩) ⟨PcH_blind, hg_recv hK o_c_21 rfl, PcH_pre hK hH⟩ rfl rfl hl.1 rfl (lv_room (Nat.le_of_ble_eq_true rfl)) dX11_groups_75 ⟨Nat.zero_le _, Nat.zero_le _⟩) (fun x_30 hx_30 => ?_)
        try rw [← hx_30] at hv
        have ex_31 : x_30 = F_X10_groupCount (G.2.1 (g.2.2 71)) := hx_30.trans (by rw [(frL_11.2.1 (g.2.2 71) trivial)])
        try rw [← ex_31] at hv
        exact W.iret hx hb hr (fun t ht hWm => ⟨⟨x_30, (Ty, G_11), rfl, ⟨rfl, ⟨frL_11, hv.symm⟩⟩, by show HT g Ty G_11 t.heap; rw [ht]; exact hH⟩, hS.F ht⟩) hS.2.2 dX11_groups_78
      · have r_32 : rgI (0) (23) y2_11 := rg_w (rg_ltL ry2_11 rl_24 (nle_lt c_2)) (by decide) (by decide)
        refine lv_aload_n hx hb dX11_groups_17 rfl (lv_at hl 0 rfl) ?_
        obtain ⟨_, ⟨rfl, kq_34, kq_35, kq_36, kq_37, kq_38, kq_39, kq_40, kq_41, kq_42, kq_43, kq_44, kq_45, kq_46, kq_47, t_49⟩, o_c_33⟩ := hH h0 _ k_h0
        refine hg_get hx hb hG igX11 hown hK o_c_33 rfl 0 (by decide) (hG _ mw_357) rfl dX11_groups_18 ?_
        refine lv_aload_n hx hb dX11_groups_21 rfl (lv_at hl 0 rfl) ?_
        refine hg_get hx hb hG igX11 hown hK o_c_33 rfl 0 (by decide) (hG _ mw_357) rfl dX11_groups_22 ?_
        refine lv_iload_n hx hb dX11_groups_25 rfl (lv_at hl 2 rfl) ?_
        obtain ⟨_, ⟨rfl, kq_51, kq_52, kq_53, t_58⟩, o_c_50⟩ := hH (g.2.2 0) _ kq_34
        refine vp_callSi (W.runV (As := [.int y2_11]) (rest := [.ref (g.2.2 0)]) ⟨hx, hb, hml, hown, hts⟩ (c_X10_groupOf l g Ty G_11 (g.2.2 0) y2_11 kq_34) (cwV 1 hts (gwV mw_607 mw_608 mw_609 mw_77 mw_610) rfl rfl rfl hv_X10_groupOf ⟨Nat.le_of_ble_eq_true rfl, Nat.le_of_ble_eq_true rfl⟩) ⟨PcH_blind, hg_recv hK o_c_50 rfl, PcH_pre hK hH⟩ rfl rfl hl.1 rfl (lv_room (Nat.le_of_ble_eq_true rfl)) dX11_groups_26 ⟨Nat.zero_le _, Nat.zero_le _⟩) (fun x_59 hx_59 => ?_)
        try rw [← hx_59] at hv
        have ex_60 : x_59 = F_X10_groupOf (G.2.1 (g.2.2 71)) y2_11 := hx_59.trans (by rw [(frL_11.2.1 (g.2.2 71) trivial)])
        try rw [← ex_60] at hv
        refine vp_callSi (W.runV (As := [.int x_59]) (rest := []) ⟨hx, hb, hml, hown, hts⟩ (c_X10_withGroup l g Ty G_11 (g.2.2 0) x_59 kq_34) (cwV 1 hts (gwV mw_943 mw_659 mw_660 mw_77 mw_661) rfl rfl rfl hv_X10_withGroup ⟨Nat.le_of_ble_eq_true rfl, Nat.le_of_ble_eq_true rfl⟩) ⟨PcH_blind, hg_recv hK o_c_50 rfl, PcH_pre hK hH⟩ rfl rfl hl.1 rfl (lv_room (Nat.le_of_ble_eq_true rfl)) dX11_groups_29 ⟨Nat.zero_le _, Nat.zero_le _⟩) (fun x_61 hx_61 => ?_)
        try rw [← hx_61] at hv
        have ex_62 : x_61 = F_X10_withGroup (G.2.1 (g.2.2 71)) x_59 := hx_61.trans (by rw [(frL_11.2.1 (g.2.2 71) trivial)])
        try rw [← ex_62] at hv
        refine vp_callSi (W.runS (As := [.int x_61]) (rest := []) ⟨hx, hb, hml, hown, hts⟩ (c_J6_bitCount_x l g Ty G_11 x_61 ) (cwSx 1 hts hG (gwC mw_620) mw_99 mw_618 mw_619 rfl rfl rfl hd_J6_bitCount_0f7a4 ⟨Nat.le_of_ble_eq_true rfl, Nat.le_of_ble_eq_true rfl⟩) ⟨PcH_blind, PcH_pre hK hH⟩ rfl rfl hl.1 rfl (lv_room (Nat.le_of_ble_eq_true rfl)) dX11_groups_32 ⟨Nat.zero_le _, Nat.zero_le _⟩) (fun x_63 hx_63 => ?_)
        have rx_63 : rgI (0) (63) x_63 := hx_63.1
        try rw [← hx_63.2] at hv
        try rw [← hx_63.2] at hv
        refine lv_istore_n (lv' := [(3, .int x_63), (0, .ref h0), (1, .int y1_11), (2, .int y2_11)]) hx hb dX11_groups_35 rfl hl (by decide) rfl (fun ls hl => ?_)
        refine lv_aload_n hx hb dX11_groups_36 rfl (lv_at hl 1 rfl) ?_
        refine hg_get hx hb hG igX11 hown hK o_c_33 rfl 0 (by decide) (hG _ mw_357) rfl dX11_groups_37 ?_
        refine lv_iload_n hx hb dX11_groups_40 rfl (lv_at hl 3 rfl) ?_
        refine vp_callSi (W.runV (As := [.int y2_11]) (rest := []) ⟨hx, hb, hml, hown, hts⟩ (c_X10_has l g Ty G_11 (g.2.2 0) y2_11 kq_34) (cwV 1 hts (gwV mw_603 mw_604 mw_605 mw_77 mw_606) rfl rfl rfl hv_X10_has ⟨Nat.le_of_ble_eq_true rfl, Nat.le_of_ble_eq_true rfl⟩) ⟨PcH_blind, hg_recv hK o_c_50 rfl, PcH_pre hK hH⟩ rfl rfl hl.1 rfl (lv_room (Nat.le_of_ble_eq_true rfl)) dX11_groups_41 ⟨Nat.zero_le _, Nat.zero_le _⟩) (fun x_64 hx_64 => ?_)
        have rx_64 : rgI (0) (1) x_64 := hx_64.1
        try rw [← hx_64.2.2] at hv
        have ex_65 : x_64 = F_X10_has (G.1 20) y2_11 := hx_64.2.2.trans (by rw [(frL_11.1 20 (by decide))])
        try rw [← ex_65] at hv
        refine lv_if_eq (tgt := 65) hx hb dX11_groups_44 (by decide) (fun c_66 => ?_) (fun c_66 => ?_)
        · have r_67 : rgI (0) (0) x_64 := rg_w (rg_eq rl_0 c_66) (by decide) (by decide)
          exact L_65 H locs G_11 y1_11 ls frL_11 ry1_11 r_32 (lv_sub hl [1, 2, 3] rfl) hv hH hS
        · have r_68 : rgI (1) (1) x_64 := rg_w (rg_neL rx_64 rl_0 c_66) (by decide) (by decide)
          refine lv_iload_n hx hb dX11_groups_47 rfl (lv_at hl 0 rfl) ?_
          refine lv_iload_n hx hb dX11_groups_48 rfl (lv_at hl 2 rfl) ?_
          refine lv_icmp_le (tgt := 65) hx hb dX11_groups_49 (by decide) (fun c_69 => ?_) (fun c_69 => ?_)
          · exact L_65 H locs G_11 y1_11 ls frL_11 ry1_11 r_32 (lv_sub hl [1, 2, 3] rfl) hv hH hS
          · have r_70 : rgI (0) (62) y1_11 := rg_w (rg_ltL ry1_11 rx_63 (nle_lt c_69)) (by decide) (by decide)
            have r_71 : rgI (1) (63) x_63 := rg_w (rg_ltR ry1_11 rx_63 (nle_lt c_69)) (by decide) (by decide)
            refine lv_iload_n hx hb dX11_groups_52 rfl (lv_at hl 0 rfl) ?_
            refine lv_istore_n (lv' := [(1, .int x_63), (3, .int x_63), (0, .ref h0), (2, .int y2_11)]) hx hb dX11_groups_53 rfl hl (by decide) rfl (fun ls hl => ?_)
            refine lv_aload_n hx hb dX11_groups_54 rfl (lv_at hl 2 rfl) ?_
            refine hg_get hx hb hG igX11 hown hK o_c_33 rfl 5 (by decide) (hG _ mw_362) rfl dX11_groups_55 ?_
            refine lv_iload_n hx hb dX11_groups_58 rfl (lv_at hl 1 rfl) ?_
            refine lv_i2l hx hb dX11_groups_59 rfl ?_
            refine lv_topl (fun u_72 eu_72 => ?_)
            refine lv_iload_n hx hb dX11_groups_60 rfl (lv_at hl 3 rfl) ?_
            refine lv_i2l hx hb dX11_groups_61 rfl ?_
            refine lv_topl (fun u_73 eu_73 => ?_)
            obtain ⟨_, ⟨q_75, rfl, kq_75, rq_76, t_77⟩, o_c_74⟩ := hH (g.2.2 5) _ kq_39
            refine va_callv (va_runV (As := [.long u_72, .long u_73]) (rest := []) ⟨hx, hb, hml, hown, hts⟩ (c_X7_tellTwo_x l g Ty G_11 H.size (g.2.2 5) u_72 u_73 kq_39 hD1) (cwV 2 hts (gwV mw_753 mw_754 mw_755 mw_80 mw_756) rfl rfl rfl hv_X7_tellTwo ⟨Nat.le_of_ble_eq_true rfl, Nat.le_of_ble_eq_true rfl⟩) ⟨PcT_blind, hg_recv hK o_c_74 rfl, PcT_pre hK hH⟩ rfl rfl hl.1 rfl (lv_room (Nat.le_of_ble_eq_true rfl)) dX11_groups_62 ⟨Nat.zero_le _, Nat.zero_le _⟩) hS (fun q _ h => AF.mono hS.1 h) (fun q h => AF.mono hS.1 h) (fun ux_78 t H locs ht hvm hx_78 hB hz hk hS => ?_)
            obtain ⟨eTx_78, eGx_78⟩ := hx_78
            obtain ⟨G_79, eG_79⟩ : ∃ z, z = ux_78.2 := ⟨_, rfl⟩
            rw [← eG_79] at eGx_78
            obtain ⟨hfr_80, hex_81⟩ := eGx_78
            have fr_82 : FR [27] [] [] G G_79 := FR.tr frL_11 hfr_80 (by decide) (fun _ _ => trivial) (by decide)
            have u_83 : G_79.1 20 = (G.1 20) := (hfr_80.1 20 (by decide)).trans (frL_11.1 20 (by decide))
            have w_84 : G_79.2.1 (g.2.2 71) = (G.2.1 (g.2.2 71)) := (hfr_80.2.1 (g.2.2 71) trivial).trans (frL_11.2.1 (g.2.2 71) trivial)
            have hH : HT g Ty G_79 H := by rw [← ht, ← eTx_78, eG_79]; exact hB
            exact L_65 H locs G_79 x_63 ls fr_82 (rg_w r_71 (by decide) (by decide)) r_32 (lv_sub hl [2, 0, 3] rfl) hv hH hS
  refine lv_iconst (v := 0) hx hb dX11_groups_0 (by decide) ?_
  refine lv_istore_n (lv' := [(1, .int 0), (0, .ref h0)]) hx hb dX11_groups_1 rfl hl (by decide) rfl (fun ls hl => ?_)
  refine lv_aload_n hx hb dX11_groups_2 rfl (lv_at hl 1 rfl) ?_
  obtain ⟨_, ⟨rfl, kq_86, kq_87, kq_88, kq_89, kq_90, kq_91, kq_92, kq_93, kq_94, kq_95, kq_96, kq_97, kq_98, kq_99, t_101⟩, o_c_85⟩ := hH h0 _ k_h0
  refine hg_get hx hb hG igX11 hown hK o_c_85 rfl 5 (by decide) (hG _ mw_362) rfl dX11_groups_3 ?_
  obtain ⟨_, ⟨q_103, rfl, kq_103, rq_104, t_105⟩, o_c_102⟩ := hH (g.2.2 5) _ kq_91
  refine va_callv (va_runV (As := []) (rest := []) ⟨hx, hb, hml, hown, hts⟩ (c_X7_clear_x l g Ty G s.heap.size (g.2.2 5) kq_91 hD1) (cwV 0 hts (gwV mw_932 mw_588 mw_589 mw_80 mw_590) rfl rfl rfl hv_X7_clear ⟨Nat.le_of_ble_eq_true rfl, Nat.le_of_ble_eq_true rfl⟩) ⟨PcT_blind, hg_recv hK o_c_102 rfl, PcT_pre hK hH⟩ rfl rfl hl.1 rfl (lv_room (Nat.le_of_ble_eq_true rfl)) dX11_groups_6 ⟨Nat.zero_le _, Nat.zero_le _⟩) hS (fun q _ h => AF.mono hS.1 h) (fun q h => AF.mono hS.1 h) (fun ux_106 t H locs ht hvm hx_106 hB hz hk hS => ?_)
  obtain ⟨eTx_106, eGx_106⟩ := hx_106
  obtain ⟨G_107, eG_107⟩ : ∃ z, z = ux_106.2 := ⟨_, rfl⟩
  rw [← eG_107] at eGx_106
  obtain ⟨hfr_108, hex_109⟩ := eGx_106
  have fr_110 : FR [27] [] [] G G_107 := FR.tr FR.rf hfr_108 (by decide) (fun _ _ => trivial) (by decide)
  have u_111 : G_107.1 20 = (G.1 20) := (hfr_108.1 20 (by decide))
  have w_112 : G_107.2.1 (g.2.2 71) = (G.2.1 (g.2.2 71)) := (hfr_108.2.1 (g.2.2 71) trivial)
  have hH : HT g Ty G_107 H := by rw [← ht, ← eTx_106, eG_107]; exact hB
  refine lv_iconst (v := 0) hx hb dX11_groups_9 (by decide) ?_
  refine lv_istore_n (lv' := [(2, .int 0), (1, .int 0), (0, .ref h0)]) hx hb dX11_groups_10 rfl hl (by decide) rfl (fun ls hl => ?_)
  exact L_11 26 H locs G_107 0 0 ls fr_110 (rg_w rl_0 (by decide) (by decide)) (rg_w rl_0 (by decide) (by decide)) (by decide) (lv_sub hl [2, 1, 0] rfl) hv hH hS

def F_X11_inside (r0 : Nat → Int32) (m20 : Int32) (a0 : Int32) : Int32 := (if (F_X10_has m20 a0) = (0 : Int32) then (-1 : Int32) else (F_X10_allIn r0 a0))
set_option maxHeartbeats 4000000 in
set_option maxRecDepth 100000 in
theorem c_X11_inside (l : Launch) (g : Gx) (Ty : TyM) (G : Gh) (sz : Nat) (h0 : Nat) (a0 : Int32) (k_h0 : Ty h0 = some (21, 0)) (hD1 : LD1 g) : Met l yX11_inside (wsG yX11_inside cX11_inside 5 (some .int)) ({ frames := 3, cells := 0, slots := 0, locals := 68 }) (PcT g Ty G sz [.ref h0, .int a0]) (QwI g Ty sz (fun r u => u.1 = Ty ∧ FR [27] [] [] G u.2 ∧ F_X11_inside (G.2.1 (g.2.2 70)) (G.1 20) a0 = r)) 0 0 (AF Ty sz) := by
  refine Met.ofW (cc := cX11_inside) (maxL := 5) (ret := (some .int)) (by decide) rfl ?_
  intro p e s m args below meth c s₁ B hml hv
  obtain ⟨rfl, hsz, hK, hH⟩ := hv
  subst hsz
  have hx := B.exec
  have hb := B.bytes
  have hr := B.returns
  have hts := atoms_spec (ws := (wsG yX11_inside cX11_inside 5 (some .int))) B.pre
  have hG : ∀ w ∈ GW, w.before ([.ref h0, .int a0] : List Value).toArray s = true := fun w h => hts w (List.mem_cons_of_mem _ h)
  have hown : s.vm.findClass RX11 = some m.cls := findClass_of_methodNamed B.named
  have hlocks := B.notSynchronized
  have hl := lv_entry [.ref h0, .int a0] (n := 5) (Nat.le_of_ble_eq_true rfl)
  rw [lg_entry_eq]
  generalize (lg_sl [.ref h0, .int a0] ++ List.replicate (5 - (lg_sl [.ref h0, .int a0]).length) Slot.unset).toArray = ls at hl ⊢
  have hl : lv_has ls 5 [(0, .ref h0), (1, .int a0)] := hl
  have hv : (if (F_X10_has (G.1 20) a0) = (0 : Int32) then (-1 : Int32) else (F_X10_allIn (G.2.1 (g.2.2 70)) a0)) = F_X11_inside (G.2.1 (g.2.2 70)) (G.1 20) a0 := rfl
  have hS : va_S (AF Ty s.heap.size) s.heap s.heap [] := va_S.rf
  have L_27 : ∀ (n_27 : Nat) (H : Heap) (locs : List Loc) (G_27 : Gh) (y2_27 : Int32) (y3_27 : Int32) (y4_27 : Int32) (ls : Array Slot), FR [27] [] [] G G_27 → rgI (0) (23) a0 → rgI (0) (2147483647) y3_27 → rgI (0) (24) y4_27 → (24 - (y4_27).toInt).toNat < n_27 → lv_has ls 5 [(0, .ref h0), (1, .int a0), (2, .int y2_27), (3, .int y3_27), (4, .int y4_27)] → y2_27 = F_X11_inside (G.2.1 (g.2.2 70)) (G.1 20) a0 → HT g Ty G_27 H → va_S (AF Ty s.heap.size) s.heap H locs → Wm p l e (wsG yX11_inside cX11_inside 5 (some .int)) ({ frames := 3, cells := 0, slots := 0, locals := 68 }) s m [.ref h0, .int a0] below meth c H locs (0) (0) (QwI g Ty s.heap.size (fun r u => u.1 = Ty ∧ FR [27] [] [] G u.2 ∧ F_X11_inside (G.2.1 (g.2.2 70)) (G.1 20) a0 = r)) 0 0 (AF Ty s.heap.size) (F0 m 27 ls []) := by
    intro n_27
    induction n_27 with
    | zero => intro H locs G_27 y2_27 y3_27 y4_27 ls frL_27 ry1_27 ry3_27 ry4_27 hm; exact absurd hm (Nat.not_lt_zero _)
    | succ n_27 ih_27 =>
      intro H locs G_27 y2_27 y3_27 y4_27 ls frL_27 ry1_27 ry3_27 ry4_27 hm_27 hl hv hH hS
      have L_66 : ∀ (H : Heap) (locs : List Loc) (G_66 : Gh) (y3_66 : Int32) (ls : Array Slot), FR [27] [] [] G G_66 → rgI (0) (23) a0 → rgI (0) (2147483647) y3_66 → rgI (0) (23) y4_27 → lv_has ls 5 [(0, .ref h0), (1, .int a0), (2, .int y2_27), (3, .int y3_66), (4, .int y4_27)] → y2_27 = F_X11_inside (G.2.1 (g.2.2 70)) (G.1 20) a0 → HT g Ty G_66 H → va_S (AF Ty s.heap.size) s.heap H locs → Wm p l e (wsG yX11_inside cX11_inside 5 (some .int)) ({ frames := 3, cells := 0, slots := 0, locals := 68 }) s m [.ref h0, .int a0] below meth c H locs (0) (0) (QwI g Ty s.heap.size (fun r u => u.1 = Ty ∧ FR [27] [] [] G u.2 ∧ F_X11_inside (G.2.1 (g.2.2 70)) (G.1 20) a0 = r)) 0 0 (AF Ty s.heap.size) (F0 m 66 ls []) := by
        intro H locs G_66 y3_66 ls frL_66 ry1_66 ry3_66 ry4_66 hl hv hH hS
        obtain ⟨x_1, ex_1⟩ : ∃ y : Int32, y = y4_27 + 1 := ⟨_, rfl⟩
        try rw [← ex_1] at hv
        have rx_1 : rgI (1) (24) x_1 := by rw [ex_1]; exact rg_w (rg_add ry4_66 rl_1 (by decide) (by decide)) (by decide) (by decide)
        have qx_1 : x_1.toInt = (y4_27 : Int32).toInt + 1 := by rw [ex_1]; exact rg_addE ry4_66 rl_1 (by decide) (by decide)
        refine lv_iinc (v := x_1) (lv' := [(4, .int x_1), (0, .ref h0), (1, .int a0), (2, .int y2_27), (3, .int y3_66)]) hx hb dX11_inside_66 hl (k := 4) rfl (by rw [ex_1]; rfl) (by decide) rfl (fun ls hl => ?_)
        refine lv_goto (tgt := 27) hx hb dX11_inside_69 (by decide) ?_
        exact ih_27 H locs G_66 y2_27 y3_66 x_1 ls frL_66 ry1_66 ry3_66 (rg_w rx_1 (by decide) (by decide)) (by have h1 := qx_1; have h2 := ry4_66.1; have h3 := ry4_66.2; have h4 := hm_27; omega) (lv_sub hl [1, 2, 3, 4, 0] rfl) hv hH hS
      refine lv_iload hx hb dX11_inside_27 (lv_at hl 4 rfl) ?_
      refine lv_bipush (v := 24) hx hb dX11_inside_29 (by decide) ?_
      refine lv_icmp_ge (tgt := 72) hx hb dX11_inside_31 (by decide) (fun c_2 => ?_) (fun c_2 => ?_)
      · have r_3 : rgI (24) (24) y4_27 := rg_w (rg_leR rl_24 ry4_27 c_2) (by decide) (by decide)
        refine lv_aload_n hx hb dX11_inside_72 rfl (lv_at hl 0 rfl) ?_
        obtain ⟨_, ⟨rfl, kq_5, kq_6, kq_7, kq_8, kq_9, kq_10, kq_11, kq_12, kq_13, kq_14, kq_15, kq_16, kq_17, kq_18, t_20⟩, o_c_4⟩ := hH h0 _ k_h0
        refine hg_get hx hb hG igX11 hown hK o_c_4 rfl 5 (by decide) (hG _ mw_362) rfl dX11_inside_73 ?_
        refine lv_iload_n hx hb dX11_inside_76 rfl (lv_at hl 2 rfl) ?_
        refine vp_callSi (W.runS (As := [.int y2_27]) (rest := [.ref (g.2.2 5)]) ⟨hx, hb, hml, hown, hts⟩ (c_J6_bitCount_x l g Ty G_27 y2_27 ) (cwSx 1 hts hG (gwC mw_620) mw_99 mw_618 mw_619 rfl rfl rfl hd_J6_bitCount_0f7a4 ⟨Nat.le_of_ble_eq_true rfl, Nat.le_of_ble_eq_true rfl⟩) ⟨PcH_blind, PcH_pre hK hH⟩ rfl rfl hl.1 rfl (lv_room (Nat.le_of_ble_eq_true rfl)) dX11_inside_77 ⟨Nat.zero_le _, Nat.zero_le _⟩) (fun x_21 hx_21 => ?_)
        have rx_21 : rgI (0) (63) x_21 := hx_21.1
        try rw [← hx_21.2] at hv
        try rw [← hx_21.2] at hv
        refine lv_i2l hx hb dX11_inside_80 rfl ?_
        refine lv_topl (fun u_22 eu_22 => ?_)
        refine lv_iload_n hx hb dX11_inside_81 rfl (lv_at hl 3 rfl) ?_
        refine lv_i2l hx hb dX11_inside_82 rfl ?_
        refine lv_topl (fun u_23 eu_23 => ?_)
        obtain ⟨_, ⟨q_25, rfl, kq_25, rq_26, t_27⟩, o_c_24⟩ := hH (g.2.2 5) _ kq_10
        refine va_callv (va_runV (As := [.long u_22, .long u_23]) (rest := []) ⟨hx, hb, hml, hown, hts⟩ (c_X7_tellTwo_x l g Ty G_27 H.size (g.2.2 5) u_22 u_23 kq_10 hD1) (cwV 2 hts (gwV mw_753 mw_754 mw_755 mw_80 mw_756) rfl rfl rfl hv_X7_tellTwo ⟨Nat.le_of_ble_eq_true rfl, Nat.le_of_ble_eq_true rfl⟩) ⟨PcT_blind, hg_recv hK o_c_24 rfl, PcT_pre hK hH⟩ rfl rfl hl.1 rfl (lv_room (Nat.le_of_ble_eq_true rfl)) dX11_inside_83 ⟨Nat.zero_le _, Nat.zero_le _⟩) hS (fun q _ h => AF.mono hS.1 h) (fun q h => AF.mono hS.1 h) (fun ux_28 t H locs ht hvm hx_28 hB hz hk hS => ?_)
        obtain ⟨eTx_28, eGx_28⟩ := hx_28
        obtain ⟨G_29, eG_29⟩ : ∃ z, z = ux_28.2 := ⟨_, rfl⟩
        rw [← eG_29] at eGx_28
        obtain ⟨hfr_30, hex_31⟩ := eGx_28
        have fr_32 : FR [27] [] [] G G_29 := FR.tr frL_27 hfr_30 (by decide) (fun _ _ => trivial) (by decide)
        have u_33 : G_29.1 20 = (G.1 20) := (hfr_30.1 20 (by decide)).trans (frL_27.1 20 (by decide))
        have w_34 : G_29.2.1 (g.2.2 70) = (G.2.1 (g.2.2 70)) := (hfr_30.2.1 (g.2.2 70) trivial).trans (frL_27.2.1 (g.2.2 70) trivial)
        have hH : HT g Ty G_29 H := by rw [← ht, ← eTx_28, eG_29]; exact hB
        refine lv_iload_n hx hb dX11_inside_86 rfl (lv_at hl 2 rfl) ?_
        exact W.iret hx hb hr (fun t ht hWm => ⟨⟨y2_27, (Ty, G_29), rfl, ⟨rfl, ⟨fr_32, hv.symm⟩⟩, by show HT g Ty G_29 t.heap; rw [ht]; exact hH⟩, hS.F ht⟩) hS.2.2 dX11_inside_87
      · have r_35 : rgI (0) (23) y4_27 := rg_w (rg_ltL ry4_27 rl_24 (nle_lt c_2)) (by decide) (by decide)
        refine lv_iload_n hx hb dX11_inside_34 rfl (lv_at hl 2 rfl) ?_
        refine lv_iconst (v := 1) hx hb dX11_inside_35 (by decide) ?_
        refine lv_iload hx hb dX11_inside_36 (lv_at hl 4 rfl) ?_
        refine lv_ishl hx hb dX11_inside_38 ?_
        refine lv_topi (fun x_36 ex_36 => ?_)
        try rw [← ex_36] at hv
        refine lv_iand hx hb dX11_inside_39 ?_
        refine lv_topi (fun x_37 ex_37 => ?_)
        try rw [← ex_37] at hv
        refine lv_if_eq (tgt := 66) hx hb dX11_inside_40 (by decide) (fun c_38 => ?_) (fun c_38 => ?_)
        · have r_39 : rgI (0) (0) x_37 := rg_w (rg_eq rl_0 c_38) (by decide) (by decide)
          exact L_66 H locs G_27 y3_27 ls frL_27 ry1_27 ry3_27 r_35 (lv_sub hl [0, 1, 2, 3, 4] rfl) hv hH hS
        · refine lv_iload_n hx hb dX11_inside_43 rfl (lv_at hl 3 rfl) ?_
          refine lv_aload_n hx hb dX11_inside_44 rfl (lv_at hl 0 rfl) ?_
          obtain ⟨_, ⟨rfl, kq_41, kq_42, kq_43, kq_44, kq_45, kq_46, kq_47, kq_48, kq_49, kq_50, kq_51, kq_52, kq_53, kq_54, t_56⟩, o_c_40⟩ := hH h0 _ k_h0
          refine hg_get hx hb hG igX11 hown hK o_c_40 rfl 0 (by decide) (hG _ mw_357) rfl dX11_inside_45 ?_
          refine lv_iload hx hb dX11_inside_48 (lv_at hl 4 rfl) ?_
          obtain ⟨_, ⟨rfl, kq_58, kq_59, kq_60, t_65⟩, o_c_57⟩ := hH (g.2.2 0) _ kq_41
          refine vp_callSi (W.runV (As := [.int y4_27]) (rest := [.int y3_27]) ⟨hx, hb, hml, hown, hts⟩ (c_X10_stepsTo l g Ty G_27 (g.2.2 0) y4_27 kq_41) (cwV 1 hts (gwV mw_962 mw_679 mw_680 mw_77 mw_681) rfl rfl rfl hv_X10_stepsTo ⟨Nat.le_of_ble_eq_true rfl, Nat.le_of_ble_eq_true rfl⟩) ⟨PcH_blind, hg_recv hK o_c_57 rfl, PcH_pre hK hH⟩ rfl rfl hl.1 rfl (lv_room (Nat.le_of_ble_eq_true rfl)) dX11_inside_50 ⟨Nat.zero_le _, Nat.zero_le _⟩) (fun x_66 hx_66 => ?_)
          try rw [← hx_66] at hv
          have ex_67 : x_66 = F_X10_stepsTo (G.2.1 (g.2.2 70)) y4_27 := hx_66.trans (by rw [(frL_27.2.1 (g.2.2 70) trivial)])
          try rw [← ex_67] at hv
          refine lv_aload_n hx hb dX11_inside_53 rfl (lv_at hl 0 rfl) ?_
          refine hg_get hx hb hG igX11 hown hK o_c_40 rfl 0 (by decide) (hG _ mw_357) rfl dX11_inside_54 ?_
          refine lv_iload_n hx hb dX11_inside_57 rfl (lv_at hl 1 rfl) ?_
          refine vp_callSi (W.runV (As := [.int a0]) (rest := [.int x_66, .int y3_27]) ⟨hx, hb, hml, hown, hts⟩ (c_X10_stepsTo l g Ty G_27 (g.2.2 0) a0 kq_41) (cwV 1 hts (gwV mw_962 mw_679 mw_680 mw_77 mw_681) rfl rfl rfl hv_X10_stepsTo ⟨Nat.le_of_ble_eq_true rfl, Nat.le_of_ble_eq_true rfl⟩) ⟨PcH_blind, hg_recv hK o_c_57 rfl, PcH_pre hK hH⟩ rfl rfl hl.1 rfl (lv_room (Nat.le_of_ble_eq_true rfl)) dX11_inside_58 ⟨Nat.zero_le _, Nat.zero_le _⟩) (fun x_68 hx_68 => ?_)
          try rw [← hx_68] at hv
          have ex_69 : x_68 = F_X10_stepsTo (G.2.1 (g.2.2 70)) a0 := hx_68.trans (by rw [(frL_27.2.1 (g.2.2 70) trivial)])
          try rw [← ex_69] at hv
          refine lv_isub hx hb dX11_inside_61 ?_
          refine lv_topi (fun x_70 ex_70 => ?_)
          try rw [← ex_70] at hv
          refine va_mmax hx hb (by rw [hml]; exact hl.1.symm) hown (hG _ mw_963) (hG _ mw_473) (hG _ mw_91) (hG _ mw_474) (Nat.le_of_ble_eq_true rfl) (Nat.le_of_ble_eq_true rfl) (Nat.le_of_ble_eq_true rfl) (Nat.le_of_ble_eq_true rfl) dX11_inside_62 ?_
          refine lv_topi (fun x_71 ex_71 => ?_)
          try rw [← ex_71] at hv
          have rx_71 : rgI (0) (2147483647) x_71 := by rw [ex_71]; exact rg_w (show rgI (0) (2147483647) _ from rg_mx ry3_27 (rg_top x_70) (by decide) (by decide) (by decide) (by decide)) (by decide) (by decide)
          refine lv_istore_n (lv' := [(3, .int x_71), (0, .ref h0), (1, .int a0), (2, .int y2_27), (4, .int y4_27)]) hx hb dX11_inside_65 rfl hl (by decide) rfl (fun ls hl => ?_)
          exact L_66 H locs G_27 x_71 ls frL_27 ry1_27 rx_71 r_35 (lv_sub hl [1, 2, 3, 0, 4] rfl) hv hH hS
  refine lv_aload_n hx hb dX11_inside_0 rfl (lv_at hl 0 rfl) ?_
  obtain ⟨_, ⟨rfl, kq_73, kq_74, kq_75, kq_76, kq_77, kq_78, kq_79, kq_80, kq_81, kq_82, kq_83, kq_84, kq_85, kq_86, t_88⟩, o_c_72⟩ := hH h0 _ k_h0
  refine hg_get hx hb hG igX11 hown hK o_c_72 rfl 0 (by decide) (hG _ mw_357) rfl dX11_inside_1 ?_
  refine lv_iload_n hx hb dX11_inside_4 rfl (lv_at hl 1 rfl) ?_
  obtain ⟨_, ⟨rfl, kq_90, kq_91, kq_92, t_97⟩, o_c_89⟩ := hH (g.2.2 0) _ kq_73
  refine vp_callSi (W.runV (As := [.int a0]) (rest := []) ⟨hx, hb, hml, hown, hts⟩ (c_X10_has l g Ty G (g.2.2 0) a0 kq_73) (cwV 1 hts (gwV mw_603 mw_604 mw_605 mw_77 mw_606) rfl rfl rfl hv_X10_has ⟨Nat.le_of_ble_eq_true rfl, Nat.le_of_ble_eq_true rfl⟩) ⟨PcH_blind, hg_recv hK o_c_89 rfl, PcH_pre hK hH⟩ rfl rfl hl.1 rfl (lv_room (Nat.le_of_ble_eq_true rfl)) dX11_inside_5 ⟨Nat.zero_le _, Nat.zero_le _⟩) (fun x_98 hx_98 => ?_)
  have rx_98 : rgI (0) (1) x_98 := hx_98.1
  try rw [← hx_98.2.2] at hv
  have ex_99 : x_98 = F_X10_has (G.1 20) a0 := hx_98.2.2
  try rw [← ex_99] at hv
  refine lv_if_ne (tgt := 13) hx hb dX11_inside_8 (by decide) (fun c_100 => ?_) (fun c_100 => ?_)
  · rw [if_neg c_100] at hv
    have r_101 : rgI (1) (1) x_98 := rg_w (rg_neL rx_98 rl_0 c_100) (by decide) (by decide)
    have r_102 : rgI (0) (23) a0 := rg_w (hx_98.2.1.resolve_left c_100) (by decide) (by decide)
    refine lv_aload_n hx hb dX11_inside_13 rfl (lv_at hl 0 rfl) ?_
    refine hg_get hx hb hG igX11 hown hK o_c_72 rfl 0 (by decide) (hG _ mw_357) rfl dX11_inside_14 ?_
    refine lv_iload_n hx hb dX11_inside_17 rfl (lv_at hl 1 rfl) ?_
    refine vp_callSi (W.runV (As := [.int a0]) (rest := []) ⟨hx, hb, hml, hown, hts⟩ (c_X10_allIn l g Ty G (g.2.2 0) a0 kq_73) (cwV 1 hts (gwV mw_957 mw_958 mw_959 mw_77 mw_960) rfl rfl rfl hv_X10_allIn ⟨Nat.le_of_ble_eq_true rfl, Nat.le_of_ble_eq_true rfl⟩) ⟨PcH_blind, hg_recv hK o_c_89 rfl, PcH_pre hK hH⟩ rfl rfl hl.1 rfl (lv_room (Nat.le_of_ble_eq_true rfl)) dX11_inside_18 ⟨Nat.zero_le _, Nat.zero_le _⟩) (fun x_103 hx_103 => ?_)
    try rw [← hx_103] at hv
    have ex_104 : x_103 = F_X10_allIn (G.2.1 (g.2.2 70)) a0 := hx_103
    try rw [← ex_104] at hv
    refine lv_istore_n (lv' := [(2, .int x_103), (0, .ref h0), (1, .int a0)]) hx hb dX11_inside_21 rfl hl (by decide) rfl (fun ls hl => ?_)
    refine lv_iconst (v := 0) hx hb dX11_inside_22 (by decide) ?_
    refine lv_istore_n (lv' := [(3, .int 0), (2, .int x_103), (0, .ref h0), (1, .int a0)]) hx hb dX11_inside_23 rfl hl (by decide) rfl (fun ls hl => ?_)
    refine lv_iconst (v := 0) hx hb dX11_inside_24 (by decide) ?_
    refine lv_istore (lv' := [(4, .int 0), (3, .int 0), (2, .int x_103), (0, .ref h0), (1, .int a0)]) hx hb dX11_inside_25 hl (by decide) rfl (fun ls hl => ?_)
    exact L_27 26 s.heap [] G x_103 0 0 ls FR.rf r_102 (rg_w rl_0 (by decide) (by decide)) (rg_w rl_0 (by decide) (by decide)) (by decide) (lv_sub hl [3, 4, 2, 1, 0] rfl) hv hH hS
  · rw [if_pos c_100] at hv
    have r_105 : rgI (0) (0) x_98 := rg_w (rg_eq rl_0 c_100) (by decide) (by decide)
    refine lv_iconst (v := (-1)) hx hb dX11_inside_11 (by decide) ?_
    exact W.iret hx hb hr (fun t ht hWm => ⟨⟨(-1), (Ty, G), rfl, ⟨rfl, ⟨FR.rf, hv.symm⟩⟩, by show HT g Ty G t.heap; rw [ht]; exact hH⟩, hS.F ht⟩) hS.2.2 dX11_inside_12

def F_X11_largest_7 : Nat → Int32 → Int32 → Int32 → (Nat → Int32) → Int32 → Int32 × Int32
  | 0, y1, y2, _, _, _ => (y1, y2)
  | n + 1, y1, y2, y3, yr0, yn20 => (if (24 : Int32) ≤ y3 then (y1, y2) else (if (F_X10_has yn20 y3) = (0 : Int32) then (F_X11_largest_7 n y1 y2 (y3 + (1 : Int32)) yr0 yn20) else (if ((F_J6_bitCount_0f7a4 (F_X10_allIn yr0 y3)) + (1 : Int32)) ≤ y2 then (F_X11_largest_7 n y1 y2 (y3 + (1 : Int32)) yr0 yn20) else (F_X11_largest_7 n y3 ((F_J6_bitCount_0f7a4 (F_X10_allIn yr0 y3)) + (1 : Int32)) (y3 + (1 : Int32)) yr0 yn20))))
def F_X11_largest (r0 : Nat → Int32) (m20 : Int32) : Int32 := (tu2 (F_X11_largest_7 26 (-2 : Int32) (0 : Int32) (1 : Int32) r0 m20) (fun z7 z8 => (if z8 ≤ (0 : Int32) then z7 else z7)))
set_option maxHeartbeats 4000000 in
set_option maxRecDepth 100000 in
theorem c_X11_largest (l : Launch) (g : Gx) (Ty : TyM) (G : Gh) (sz : Nat) (h0 : Nat) (k_h0 : Ty h0 = some (21, 0)) (hD1 : LD1 g) : Met l yX11_largest (wsG yX11_largest cX11_largest 5 (some .int)) ({ frames := 3, cells := 0, slots := 0, locals := 68 }) (PcT g Ty G sz [.ref h0]) (QwI g Ty sz (fun r u => u.1 = Ty ∧ FR [27] [] [] G u.2 ∧ F_X11_largest (G.2.1 (g.2.2 70)) (G.1 20) = r)) 0 0 (AF Ty sz) := by
  refine Met.ofW (cc := cX11_largest) (maxL := 5) (ret := (some .int)) (by decide) rfl ?_
  intro p e s m args below meth c s₁ B hml hv
  obtain ⟨rfl, hsz, hK, hH⟩ := hv
  subst hsz
  have hx := B.exec
  have hb := B.bytes
  have hr := B.returns
  have hts := atoms_spec (ws := (wsG yX11_largest cX11_largest 5 (some .int))) B.pre
  have hG : ∀ w ∈ GW, w.before ([.ref h0] : List Value).toArray s = true := fun w h => hts w (List.mem_cons_of_mem _ h)
  have hown : s.vm.findClass RX11 = some m.cls := findClass_of_methodNamed B.named
  have hlocks := B.notSynchronized
  have hl := lv_entry [.ref h0] (n := 5) (Nat.le_of_ble_eq_true rfl)
  rw [lg_entry_eq]
  generalize (lg_sl [.ref h0] ++ List.replicate (5 - (lg_sl [.ref h0]).length) Slot.unset).toArray = ls at hl ⊢
  have hl : lv_has ls 5 [(0, .ref h0)] := hl
  have hv : (tu2 (F_X11_largest_7 26 (-2 : Int32) (0 : Int32) (1 : Int32) (G.2.1 (g.2.2 70)) (G.1 20)) (fun z5 z6 => (if z6 ≤ (0 : Int32) then z5 else z5))) = F_X11_largest (G.2.1 (g.2.2 70)) (G.1 20) := rfl
  have hS : va_S (AF Ty s.heap.size) s.heap s.heap [] := va_S.rf
  have L_69 : ∀ (H : Heap) (locs : List Loc) (G_69 : Gh) (y1_69 : Int32) (ls : Array Slot), FR [27] [] [] G G_69 → rgI (-2) (23) y1_69 → lv_has ls 5 [(1, .int y1_69)] → y1_69 = F_X11_largest (G.2.1 (g.2.2 70)) (G.1 20) → HT g Ty G_69 H → va_S (AF Ty s.heap.size) s.heap H locs → Wm p l e (wsG yX11_largest cX11_largest 5 (some .int)) ({ frames := 3, cells := 0, slots := 0, locals := 68 }) s m [.ref h0] below meth c H locs (0) (0) (QwI g Ty s.heap.size (fun r u => u.1 = Ty ∧ FR [27] [] [] G u.2 ∧ F_X11_largest (G.2.1 (g.2.2 70)) (G.1 20) = r)) 0 0 (AF Ty s.heap.size) (F0 m 69 ls []) := by
    intro H locs G_69 y1_69 ls frL_69 ry1_69 hl hv hH hS
    refine lv_iload_n hx hb dX11_largest_69 rfl (lv_at hl 0 rfl) ?_
    exact W.iret hx hb hr (fun t ht hWm => ⟨⟨y1_69, (Ty, G_69), rfl, ⟨rfl, ⟨frL_69, hv.symm⟩⟩, by show HT g Ty G_69 t.heap; rw [ht]; exact hH⟩, hS.F ht⟩) hS.2.2 dX11_largest_70
  have L_7 : ∀ (n_7 : Nat) (H : Heap) (locs : List Loc) (G_7 : Gh) (y1_7 : Int32) (y2_7 : Int32) (y3_7 : Int32) (ls : Array Slot), FR [27] [] [] G G_7 → rgI (-2) (23) y1_7 → rgI (0) (64) y2_7 → rgI (1) (24) y3_7 → (24 - (y3_7).toInt).toNat < n_7 → lv_has ls 5 [(0, .ref h0), (1, .int y1_7), (2, .int y2_7), (3, .int y3_7)] → (tu2 (F_X11_largest_7 n_7 y1_7 y2_7 y3_7 (G.2.1 (g.2.2 70)) (G.1 20)) (fun z1 z2 => (if z2 ≤ (0 : Int32) then z1 else z1))) = F_X11_largest (G.2.1 (g.2.2 70)) (G.1 20) → HT g Ty G_7 H → va_S (AF Ty s.heap.size) s.heap H locs → Wm p l e (wsG yX11_largest cX11_largest 5 (some .int)) ({ frames := 3, cells := 0, slots := 0, locals := 68 }) s m [.ref h0] below meth c H locs (0) (0) (QwI g Ty s.heap.size (fun r u => u.1 = Ty ∧ FR [27] [] [] G u.2 ∧ F_X11_largest (G.2.1 (g.2.2 70)) (G.1 20) = r)) 0 0 (AF Ty s.heap.size) (F0 m 7 ls []) := by
    intro n_7
    induction n_7 with
    | zero => intro H locs G_7 y1_7 y2_7 y3_7 ls frL_7 ry1_7 ry2_7 ry3_7 hm; exact absurd hm (Nat.not_lt_zero _)
    | succ n_7 ih_7 =>
      intro H locs G_7 y1_7 y2_7 y3_7 ls frL_7 ry1_7 ry2_7 ry3_7 hm_7 hl hv hH hS
      have L_50 : ∀ (H : Heap) (locs : List Loc) (G_50 : Gh) (y1_50 : Int32) (y2_50 : Int32) (ls : Array Slot), FR [27] [] [] G G_50 → rgI (-2) (23) y1_50 → rgI (0) (64) y2_50 → rgI (1) (23) y3_7 → lv_has ls 5 [(0, .ref h0), (1, .int y1_50), (2, .int y2_50), (3, .int y3_7)] → (tu2 (F_X11_largest_7 n_7 y1_50 y2_50 (y3_7 + (1 : Int32)) (G.2.1 (g.2.2 70)) (G.1 20)) (fun z3 z4 => (if z4 ≤ (0 : Int32) then z3 else z3))) = F_X11_largest (G.2.1 (g.2.2 70)) (G.1 20) → HT g Ty G_50 H → va_S (AF Ty s.heap.size) s.heap H locs → Wm p l e (wsG yX11_largest cX11_largest 5 (some .int)) ({ frames := 3, cells := 0, slots := 0, locals := 68 }) s m [.ref h0] below meth c H locs (0) (0) (QwI g Ty s.heap.size (fun r u => u.1 = Ty ∧ FR [27] [] [] G u.2 ∧ F_X11_largest (G.2.1 (g.2.2 70)) (G.1 20) = r)) 0 0 (AF Ty s.heap.size) (F0 m 50 ls []) := by
        intro H locs G_50 y1_50 y2_50 ls frL_50 ry1_50 ry2_50 ry3_50 hl hv hH hS
        obtain ⟨x_1, ex_1⟩ : ∃ y : Int32, y = y3_7 + 1 := ⟨_, rfl⟩
        try rw [← ex_1] at hv
        have rx_1 : rgI (2) (24) x_1 := by rw [ex_1]; exact rg_w (rg_add ry3_50 rl_1 (by decide) (by decide)) (by decide) (by decide)
        have qx_1 : x_1.toInt = (y3_7 : Int32).toInt + 1 := by rw [ex_1]; exact rg_addE ry3_50 rl_1 (by decide) (by decide)
        refine lv_iinc (v := x_1) (lv' := [(3, .int x_1), (0, .ref h0), (1, .int y1_50), (2, .int y2_50)]) hx hb dX11_largest_50 hl (k := 3) rfl (by rw [ex_1]; rfl) (by decide) rfl (fun ls hl => ?_)
        refine lv_goto (tgt := 7) hx hb dX11_largest_53 (by decide) ?_
        exact ih_7 H locs G_50 y1_50 y2_50 x_1 ls frL_50 ry1_50 ry2_50 (rg_w rx_1 (by decide) (by decide)) (by have h1 := qx_1; have h2 := ry3_50.1; have h3 := ry3_50.2; have h4 := hm_7; omega) (lv_sub hl [1, 2, 3, 0] rfl) hv hH hS
      rw [F_X11_largest_7] at hv
      refine lv_iload_n hx hb dX11_largest_7 rfl (lv_at hl 3 rfl) ?_
      refine lv_bipush (v := 24) hx hb dX11_largest_8 (by decide) ?_
      refine lv_icmp_ge (tgt := 56) hx hb dX11_largest_10 (by decide) (fun c_2 => ?_) (fun c_2 => ?_)
      · rw [if_pos c_2] at hv
        have r_3 : rgI (24) (24) y3_7 := rg_w (rg_leR rl_24 ry3_7 c_2) (by decide) (by decide)
        rw [tu2_eq] at hv
        refine lv_iload_n hx hb dX11_largest_56 rfl (lv_at hl 2 rfl) ?_
        refine lv_if_le (tgt := 69) hx hb dX11_largest_57 (by decide) (fun c_4 => ?_) (fun c_4 => ?_)
        · rw [if_pos c_4] at hv
          have r_5 : rgI (0) (0) y2_7 := rg_w (rg_leL ry2_7 rl_0 c_4) (by decide) (by decide)
          exact L_69 H locs G_7 y1_7 ls frL_7 ry1_7 (lv_sub hl [1] rfl) hv hH hS
        · rw [if_neg c_4] at hv
          have r_6 : rgI (1) (64) y2_7 := rg_w (rg_ltR rl_0 ry2_7 (nle_lt c_4)) (by decide) (by decide)
          refine lv_aload_n hx hb dX11_largest_60 rfl (lv_at hl 0 rfl) ?_
          obtain ⟨_, ⟨rfl, kq_8, kq_9, kq_10, kq_11, kq_12, kq_13, kq_14, kq_15, kq_16, kq_17, kq_18, kq_19, kq_20, kq_21, t_23⟩, o_c_7⟩ := hH h0 _ k_h0
          refine hg_get hx hb hG igX11 hown hK o_c_7 rfl 5 (by decide) (hG _ mw_362) rfl dX11_largest_61 ?_
          refine lv_iload_n hx hb dX11_largest_64 rfl (lv_at hl 2 rfl) ?_
          refine lv_i2l hx hb dX11_largest_65 rfl ?_
          refine lv_topl (fun u_24 eu_24 => ?_)
          obtain ⟨_, ⟨q_26, rfl, kq_26, rq_27, t_28⟩, o_c_25⟩ := hH (g.2.2 5) _ kq_13
          refine va_callv (va_runV (As := [.long u_24]) (rest := []) ⟨hx, hb, hml, hown, hts⟩ (c_X7_tell_x l g Ty G_7 H.size (g.2.2 5) u_24 kq_13 hD1) (cwV 1 hts (gwV mw_583 mw_584 mw_585 mw_80 mw_586) rfl rfl rfl hv_X7_tell ⟨Nat.le_of_ble_eq_true rfl, Nat.le_of_ble_eq_true rfl⟩) ⟨PcT_blind, hg_recv hK o_c_25 rfl, PcT_pre hK hH⟩ rfl rfl hl.1 rfl (lv_room (Nat.le_of_ble_eq_true rfl)) dX11_largest_66 ⟨Nat.zero_le _, Nat.zero_le _⟩) hS (fun q _ h => AF.mono hS.1 h) (fun q h => AF.mono hS.1 h) (fun ux_29 t H locs ht hvm hx_29 hB hz hk hS => ?_)
          obtain ⟨eTx_29, eGx_29⟩ := hx_29
          obtain ⟨G_30, eG_30⟩ : ∃ z, z = ux_29.2 := ⟨_, rfl⟩
          rw [← eG_30] at eGx_29
          obtain ⟨hfr_31, hex_32⟩ := eGx_29
          have fr_33 : FR [27] [] [] G G_30 := FR.tr frL_7 hfr_31 (by decide) (fun _ _ => trivial) (by decide)
          have u_34 : G_30.1 20 = (G.1 20) := (hfr_31.1 20 (by decide)).trans (frL_7.1 20 (by decide))
          have w_35 : G_30.2.1 (g.2.2 70) = (G.2.1 (g.2.2 70)) := (hfr_31.2.1 (g.2.2 70) trivial).trans (frL_7.2.1 (g.2.2 70) trivial)
          have hH : HT g Ty G_30 H := by rw [← ht, ← eTx_29, eG_30]; exact hB
          exact L_69 H locs G_30 y1_7 ls fr_33 ry1_7 (lv_sub hl [1] rfl) hv hH hS
      · rw [if_neg c_2] at hv
        have r_36 : rgI (1) (23) y3_7 := rg_w (rg_ltL ry3_7 rl_24 (nle_lt c_2)) (by decide) (by decide)
        refine lv_aload_n hx hb dX11_largest_13 rfl (lv_at hl 0 rfl) ?_
        obtain ⟨_, ⟨rfl, kq_38, kq_39, kq_40, kq_41, kq_42, kq_43, kq_44, kq_45, kq_46, kq_47, kq_48, kq_49, kq_50, kq_51, t_53⟩, o_c_37⟩ := hH h0 _ k_h0
        refine hg_get hx hb hG igX11 hown hK o_c_37 rfl 0 (by decide) (hG _ mw_357) rfl dX11_largest_14 ?_
        refine lv_iload_n hx hb dX11_largest_17 rfl (lv_at hl 3 rfl) ?_
        obtain ⟨_, ⟨rfl, kq_55, kq_56, kq_57, t_62⟩, o_c_54⟩ := hH (g.2.2 0) _ kq_38
        refine vp_callSi (W.runV (As := [.int y3_7]) (rest := []) ⟨hx, hb, hml, hown, hts⟩ (c_X10_has l g Ty G_7 (g.2.2 0) y3_7 kq_38) (cwV 1 hts (gwV mw_603 mw_604 mw_605 mw_77 mw_606) rfl rfl rfl hv_X10_has ⟨Nat.le_of_ble_eq_true rfl, Nat.le_of_ble_eq_true rfl⟩) ⟨PcH_blind, hg_recv hK o_c_54 rfl, PcH_pre hK hH⟩ rfl rfl hl.1 rfl (lv_room (Nat.le_of_ble_eq_true rfl)) dX11_largest_18 ⟨Nat.zero_le _, Nat.zero_le _⟩) (fun x_63 hx_63 => ?_)
        have rx_63 : rgI (0) (1) x_63 := hx_63.1
        try rw [← hx_63.2.2] at hv
        have ex_64 : x_63 = F_X10_has (G.1 20) y3_7 := hx_63.2.2.trans (by rw [(frL_7.1 20 (by decide))])
        try rw [← ex_64] at hv
        refine lv_if_eq (tgt := 50) hx hb dX11_largest_21 (by decide) (fun c_65 => ?_) (fun c_65 => ?_)
        · rw [if_pos c_65] at hv
          have r_66 : rgI (0) (0) x_63 := rg_w (rg_eq rl_0 c_65) (by decide) (by decide)
          exact L_50 H locs G_7 y1_7 y2_7 ls frL_7 ry1_7 ry2_7 r_36 (lv_sub hl [0, 1, 2, 3] rfl) hv hH hS
        · rw [if_neg c_65] at hv
          have r_67 : rgI (1) (1) x_63 := rg_w (rg_neL rx_63 rl_0 c_65) (by decide) (by decide)
          refine lv_aload_n hx hb dX11_largest_24 rfl (lv_at hl 0 rfl) ?_
          refine hg_get hx hb hG igX11 hown hK o_c_37 rfl 0 (by decide) (hG _ mw_357) rfl dX11_largest_25 ?_
          refine lv_iload_n hx hb dX11_largest_28 rfl (lv_at hl 3 rfl) ?_
          refine vp_callSi (W.runV (As := [.int y3_7]) (rest := []) ⟨hx, hb, hml, hown, hts⟩ (c_X10_allIn l g Ty G_7 (g.2.2 0) y3_7 kq_38) (cwV 1 hts (gwV mw_957 mw_958 mw_959 mw_77 mw_960) rfl rfl rfl hv_X10_allIn ⟨Nat.le_of_ble_eq_true rfl, Nat.le_of_ble_eq_true rfl⟩) ⟨PcH_blind, hg_recv hK o_c_54 rfl, PcH_pre hK hH⟩ rfl rfl hl.1 rfl (lv_room (Nat.le_of_ble_eq_true rfl)) dX11_largest_29 ⟨Nat.zero_le _, Nat.zero_le _⟩) (fun x_68 hx_68 => ?_)
          try rw [← hx_68] at hv
          have ex_69 : x_68 = F_X10_allIn (G.2.1 (g.2.2 70)) y3_7 := hx_68.trans (by rw [(frL_7.2.1 (g.2.2 70) trivial)])
          try rw [← ex_69] at hv
          refine vp_callSi (W.runS (As := [.int x_68]) (rest := []) ⟨hx, hb, hml, hown, hts⟩ (c_J6_bitCount_x l g Ty G_7 x_68 ) (cwSx 1 hts hG (gwC mw_620) mw_99 mw_618 mw_619 rfl rfl rfl hd_J6_bitCount_0f7a4 ⟨Nat.le_of_ble_eq_true rfl, Nat.le_of_ble_eq_true rfl⟩) ⟨PcH_blind, PcH_pre hK hH⟩ rfl rfl hl.1 rfl (lv_room (Nat.le_of_ble_eq_true rfl)) dX11_largest_32 ⟨Nat.zero_le _, Nat.zero_le _⟩) (fun x_70 hx_70 => ?_)
          have rx_70 : rgI (0) (63) x_70 := hx_70.1
          try rw [← hx_70.2] at hv
          try rw [← hx_70.2] at hv
          refine lv_iconst (v := 1) hx hb dX11_largest_35 (by decide) ?_
          refine lv_iadd hx hb dX11_largest_36 ?_
          refine lv_topi (fun x_71 ex_71 => ?_)
          try rw [← ex_71] at hv
          have rx_71 : rgI (1) (64) x_71 := by rw [ex_71]; exact rg_w (rg_add rx_70 rl_1 (by decide) (by decide)) (by decide) (by decide)
          have qx_71 : x_71.toInt = (x_70 : Int32).toInt + 1 := by rw [ex_71]; exact rg_addE rx_70 rl_1 (by decide) (by decide)
          refine lv_istore (lv' := [(4, .int x_71), (0, .ref h0), (1, .int y1_7), (2, .int y2_7), (3, .int y3_7)]) hx hb dX11_largest_37 hl (by decide) rfl (fun ls hl => ?_)
          refine lv_iload hx hb dX11_largest_39 (lv_at hl 0 rfl) ?_
          refine lv_iload_n hx hb dX11_largest_41 rfl (lv_at hl 3 rfl) ?_
          refine lv_icmp_le (tgt := 50) hx hb dX11_largest_42 (by decide) (fun c_72 => ?_) (fun c_72 => ?_)
          · rw [if_pos c_72] at hv
            have r_73 : rgI (1) (64) y2_7 := rg_w (rg_leR rx_71 ry2_7 c_72) (by decide) (by decide)
            exact L_50 H locs G_7 y1_7 y2_7 ls frL_7 ry1_7 (rg_w r_73 (by decide) (by decide)) r_36 (lv_sub hl [1, 2, 3, 4] rfl) hv hH hS
          · rw [if_neg c_72] at hv
            have r_74 : rgI (0) (63) y2_7 := rg_w (rg_ltL ry2_7 rx_71 (nle_lt c_72)) (by decide) (by decide)
            refine lv_iload hx hb dX11_largest_45 (lv_at hl 0 rfl) ?_
            refine lv_istore_n (lv' := [(2, .int x_71), (4, .int x_71), (0, .ref h0), (1, .int y1_7), (3, .int y3_7)]) hx hb dX11_largest_47 rfl hl (by decide) rfl (fun ls hl => ?_)
            refine lv_iload_n hx hb dX11_largest_48 rfl (lv_at hl 4 rfl) ?_
            refine lv_istore_n (lv' := [(1, .int y3_7), (2, .int x_71), (4, .int x_71), (0, .ref h0), (3, .int y3_7)]) hx hb dX11_largest_49 rfl hl (by decide) rfl (fun ls hl => ?_)
            exact L_50 H locs G_7 y3_7 x_71 ls frL_7 (rg_w r_36 (by decide) (by decide)) (rg_w rx_71 (by decide) (by decide)) r_36 (lv_sub hl [3, 0, 1, 4] rfl) hv hH hS
  refine lv_bipush (v := (-2)) hx hb dX11_largest_0 (by decide) ?_
  refine lv_istore_n (lv' := [(1, .int (-2)), (0, .ref h0)]) hx hb dX11_largest_2 rfl hl (by decide) rfl (fun ls hl => ?_)
  refine lv_iconst (v := 0) hx hb dX11_largest_3 (by decide) ?_
  refine lv_istore_n (lv' := [(2, .int 0), (1, .int (-2)), (0, .ref h0)]) hx hb dX11_largest_4 rfl hl (by decide) rfl (fun ls hl => ?_)
  refine lv_iconst (v := 1) hx hb dX11_largest_5 (by decide) ?_
  refine lv_istore_n (lv' := [(3, .int 1), (2, .int 0), (1, .int (-2)), (0, .ref h0)]) hx hb dX11_largest_6 rfl hl (by decide) rfl (fun ls hl => ?_)
  exact L_7 26 s.heap [] G (-2) 0 1 ls FR.rf (rg_w rl_m2 (by decide) (by decide)) (rg_w rl_0 (by decide) (by decide)) (rg_w rl_1 (by decide) (by decide)) (by decide) (lv_sub hl [3, 2, 1, 0] rfl) hv hH hS

def F_X11_masters_31 : Nat → Int32 → Int32 → (Nat → Int32) → (Nat → Int32) → Int32 → Int32 → Int32
  | 0, _, _, _, _, _, yn27 => yn27
  | n + 1, y2, y3, yr0, yr1, yn20, yn27 => (if (24 : Int32) ≤ y3 then yn27 else (if y2 = (24 : Int32) then yn27 else (tu1 (F_X7_add_x yn27) (fun z2 => (F_X11_masters_31 n (F_X10_leastMasterOf yr0 yr1 y2) (y3 + (1 : Int32)) yr0 yr1 yn20 z2)))))
def F_X11_masters (r0 : Nat → Int32) (r1 : Nat → Int32) (m20 : Int32) (m27 : Int32) (a0 : Int32) : Int32 × Int32 := (if (F_X10_has m20 a0) = (0 : Int32) then ((-1 : Int32), m27) else (tu1 (F_X7_clear_x m27) (fun z3 => ((F_X11_masters_31 26 (F_X10_leastMasterOf r0 r1 a0) (0 : Int32) r0 r1 m20 z3), (F_X11_masters_31 26 (F_X10_leastMasterOf r0 r1 a0) (0 : Int32) r0 r1 m20 z3)))))
set_option maxHeartbeats 4000000 in
set_option maxRecDepth 100000 in
theorem c_X11_masters (l : Launch) (g : Gx) (Ty : TyM) (G : Gh) (sz : Nat) (h0 : Nat) (a0 : Int32) (k_h0 : Ty h0 = some (21, 0)) (hD1 : LD1 g) : Met l yX11_masters (wsG yX11_masters cX11_masters 4 (some .int)) ({ frames := 3, cells := 0, slots := 0, locals := 65 }) (PcT g Ty G sz [.ref h0, .int a0]) (QwI g Ty sz (fun r u => u.1 = Ty ∧ FR [27] [] [] G u.2 ∧ F_X11_masters (G.2.1 (g.2.2 71)) (G.2.1 (g.2.2 72)) (G.1 20) (G.1 27) a0 = (r, (u.2.1 27)))) 0 0 (AF Ty sz) := by
  refine Met.ofW (cc := cX11_masters) (maxL := 4) (ret := (some .int)) (by decide) rfl ?_
  intro p e s m args below meth c s₁ B hml hv
  obtain ⟨rfl, hsz, hK, hH⟩ := hv
  subst hsz
  have hx := B.exec
  have hb := B.bytes
  have hr := B.returns
  have hts := atoms_spec (ws := (wsG yX11_masters cX11_masters 4 (some .int))) B.pre
  have hG : ∀ w ∈ GW, w.before ([.ref h0, .int a0] : List Value).toArray s = true := fun w h => hts w (List.mem_cons_of_mem _ h)
  have hown : s.vm.findClass RX11 = some m.cls := findClass_of_methodNamed B.named
  have hlocks := B.notSynchronized
  have hl := lv_entry [.ref h0, .int a0] (n := 4) (Nat.le_of_ble_eq_true rfl)
  rw [lg_entry_eq]
  generalize (lg_sl [.ref h0, .int a0] ++ List.replicate (4 - (lg_sl [.ref h0, .int a0]).length) Slot.unset).toArray = ls at hl ⊢
  have hl : lv_has ls 4 [(0, .ref h0), (1, .int a0)] := hl
  have hv : (if (F_X10_has (G.1 20) a0) = (0 : Int32) then ((-1 : Int32), (G.1 27)) else (tu1 (F_X7_clear_x (G.1 27)) (fun z1 => ((F_X11_masters_31 26 (F_X10_leastMasterOf (G.2.1 (g.2.2 71)) (G.2.1 (g.2.2 72)) a0) (0 : Int32) (G.2.1 (g.2.2 71)) (G.2.1 (g.2.2 72)) (G.1 20) z1), (F_X11_masters_31 26 (F_X10_leastMasterOf (G.2.1 (g.2.2 71)) (G.2.1 (g.2.2 72)) a0) (0 : Int32) (G.2.1 (g.2.2 71)) (G.2.1 (g.2.2 72)) (G.1 20) z1))))) = F_X11_masters (G.2.1 (g.2.2 71)) (G.2.1 (g.2.2 72)) (G.1 20) (G.1 27) a0 := rfl
  have hS : va_S (AF Ty s.heap.size) s.heap s.heap [] := va_S.rf
  have L_67 : ∀ (H : Heap) (locs : List Loc) (G_67 : Gh) (nl27_67 : Int32) (ls : Array Slot), FR [27] [] [] G G_67 → G_67.1 27 = nl27_67 → lv_has ls 4 [(0, .ref h0)] → (nl27_67, nl27_67) = F_X11_masters (G.2.1 (g.2.2 71)) (G.2.1 (g.2.2 72)) (G.1 20) (G.1 27) a0 → HT g Ty G_67 H → va_S (AF Ty s.heap.size) s.heap H locs → Wm p l e (wsG yX11_masters cX11_masters 4 (some .int)) ({ frames := 3, cells := 0, slots := 0, locals := 65 }) s m [.ref h0, .int a0] below meth c H locs (0) (0) (QwI g Ty s.heap.size (fun r u => u.1 = Ty ∧ FR [27] [] [] G u.2 ∧ F_X11_masters (G.2.1 (g.2.2 71)) (G.2.1 (g.2.2 72)) (G.1 20) (G.1 27) a0 = (r, (u.2.1 27)))) 0 0 (AF Ty s.heap.size) (F0 m 67 ls []) := by
    intro H locs G_67 nl27_67 ls frL_67 enl27_67 hl hv hH hS
    refine lv_aload_n hx hb dX11_masters_67 rfl (lv_at hl 0 rfl) ?_
    obtain ⟨_, ⟨rfl, kq_2, kq_3, kq_4, kq_5, kq_6, kq_7, kq_8, kq_9, kq_10, kq_11, kq_12, kq_13, kq_14, kq_15, t_17⟩, o_c_1⟩ := hH h0 _ k_h0
    refine hg_get hx hb hG igX11 hown hK o_c_1 rfl 5 (by decide) (hG _ mw_362) rfl dX11_masters_68 ?_
    obtain ⟨_, ⟨q_19, rfl, kq_19, rq_20, t_21⟩, o_c_18⟩ := hH (g.2.2 5) _ kq_7
    refine hg_getN hx hb hG igX7 hown hK o_c_18 rfl 1 (by decide) ((hK.2.1 _ nwf_189).use rfl) rfl dX11_masters_71 ?_
    rw [enl27_67]
    exact W.iret hx hb hr (fun t ht hWm => ⟨⟨nl27_67, (Ty, G_67), rfl, ⟨rfl, ⟨frL_67, hv.symm.trans (by rw [enl27_67])⟩⟩, by show HT g Ty G_67 t.heap; rw [ht]; exact hH⟩, hS.F ht⟩) hS.2.2 dX11_masters_74
  have L_31 : ∀ (n_31 : Nat) (H : Heap) (locs : List Loc) (G_31 : Gh) (nl27_31 : Int32) (y2_31 : Int32) (y3_31 : Int32) (ls : Array Slot), FR [27] [] [] G G_31 → G_31.1 27 = nl27_31 → rgI (0) (24) y2_31 → rgI (0) (24) y3_31 → (24 - (y3_31).toInt).toNat < n_31 → lv_has ls 4 [(0, .ref h0), (2, .int y2_31), (3, .int y3_31)] → ((F_X11_masters_31 n_31 y2_31 y3_31 (G.2.1 (g.2.2 71)) (G.2.1 (g.2.2 72)) (G.1 20) nl27_31), (F_X11_masters_31 n_31 y2_31 y3_31 (G.2.1 (g.2.2 71)) (G.2.1 (g.2.2 72)) (G.1 20) nl27_31)) = F_X11_masters (G.2.1 (g.2.2 71)) (G.2.1 (g.2.2 72)) (G.1 20) (G.1 27) a0 → HT g Ty G_31 H → va_S (AF Ty s.heap.size) s.heap H locs → Wm p l e (wsG yX11_masters cX11_masters 4 (some .int)) ({ frames := 3, cells := 0, slots := 0, locals := 65 }) s m [.ref h0, .int a0] below meth c H locs (0) (0) (QwI g Ty s.heap.size (fun r u => u.1 = Ty ∧ FR [27] [] [] G u.2 ∧ F_X11_masters (G.2.1 (g.2.2 71)) (G.2.1 (g.2.2 72)) (G.1 20) (G.1 27) a0 = (r, (u.2.1 27)))) 0 0 (AF Ty s.heap.size) (F0 m 31 ls []) := by
    intro n_31
    induction n_31 with
    | zero => intro H locs G_31 nl27_31 y2_31 y3_31 ls frL_31 enl27_31 ry2_31 ry3_31 hm; exact absurd hm (Nat.not_lt_zero _)
    | succ n_31 ih_31 =>
      intro H locs G_31 nl27_31 y2_31 y3_31 ls frL_31 enl27_31 ry2_31 ry3_31 hm_31 hl hv hH hS
      rw [F_X11_masters_31] at hv
      refine lv_iload_n hx hb dX11_masters_31 rfl (lv_at hl 2 rfl) ?_
      refine lv_bipush (v := 24) hx hb dX11_masters_32 (by decide) ?_
      refine lv_icmp_ge (tgt := 67) hx hb dX11_masters_34 (by decide) (fun c_22 => ?_) (fun c_22 => ?_)
      · rw [if_pos c_22] at hv
        have r_23 : rgI (24) (24) y3_31 := rg_w (rg_leR rl_24 ry3_31 c_22) (by decide) (by decide)
        exact L_67 H locs G_31 nl27_31 ls frL_31 enl27_31 (lv_sub hl [0] rfl) hv hH hS
      · rw [if_neg c_22] at hv
        have r_24 : rgI (0) (23) y3_31 := rg_w (rg_ltL ry3_31 rl_24 (nle_lt c_22)) (by decide) (by decide)
        refine lv_iload_n hx hb dX11_masters_37 rfl (lv_at hl 1 rfl) ?_
        refine lv_bipush (v := 24) hx hb dX11_masters_38 (by decide) ?_
        refine lv_icmp_eq (tgt := 67) hx hb dX11_masters_40 (by decide) (fun c_25 => ?_) (fun c_25 => ?_)
        · rw [if_pos c_25] at hv
          have r_26 : rgI (24) (24) y2_31 := rg_w (rg_eq rl_24 c_25) (by decide) (by decide)
          exact L_67 H locs G_31 nl27_31 ls frL_31 enl27_31 (lv_sub hl [0] rfl) hv hH hS
        · rw [if_neg c_25] at hv
          have r_27 : rgI (0) (23) y2_31 := rg_w (rg_neR ry2_31 rl_24 c_25) (by decide) (by decide)
          refine lv_aload_n hx hb dX11_masters_43 rfl (lv_at hl 0 rfl) ?_
          obtain ⟨_, ⟨rfl, kq_29, kq_30, kq_31, kq_32, kq_33, kq_34, kq_35, kq_36, kq_37, kq_38, kq_39, kq_40, kq_41, kq_42, t_44⟩, o_c_28⟩ := hH h0 _ k_h0
          refine hg_get hx hb hG igX11 hown hK o_c_28 rfl 5 (by decide) (hG _ mw_362) rfl dX11_masters_44 ?_
          refine lv_iload_n hx hb dX11_masters_47 rfl (lv_at hl 1 rfl) ?_
          refine lv_i2l hx hb dX11_masters_48 rfl ?_
          refine lv_topl (fun u_45 eu_45 => ?_)
          obtain ⟨_, ⟨q_47, rfl, kq_47, rq_48, t_49⟩, o_c_46⟩ := hH (g.2.2 5) _ kq_34
          refine va_callv (va_runV (As := [.long u_45]) (rest := []) ⟨hx, hb, hml, hown, hts⟩ (c_X7_add_x l g Ty G_31 H.size (g.2.2 5) u_45 kq_34 hD1) (cwV 1 hts (gwV mw_938 mw_592 mw_593 mw_80 mw_594) rfl rfl rfl hv_X7_add ⟨Nat.le_of_ble_eq_true rfl, Nat.le_of_ble_eq_true rfl⟩) ⟨PcT_blind, hg_recv hK o_c_46 rfl, PcT_pre hK hH⟩ rfl rfl hl.1 rfl (lv_room (Nat.le_of_ble_eq_true rfl)) dX11_masters_49 ⟨Nat.zero_le _, Nat.zero_le _⟩) hS (fun q _ h => AF.mono hS.1 h) (fun q h => AF.mono hS.1 h) (fun ux_50 t H locs ht hvm hx_50 hB hz hk hS => ?_)
          obtain ⟨eTx_50, eGx_50⟩ := hx_50
          obtain ⟨G_51, eG_51⟩ : ∃ z, z = ux_50.2 := ⟨_, rfl⟩
          rw [← eG_51] at eGx_50
          obtain ⟨hfr_52, hex_53⟩ := eGx_50
          have fr_54 : FR [27] [] [] G G_51 := FR.tr frL_31 hfr_52 (by decide) (fun _ _ => trivial) (by decide)
          have u_55 : G_51.1 20 = (G.1 20) := (hfr_52.1 20 (by decide)).trans (frL_31.1 20 (by decide))
          have w_56 : G_51.2.1 (g.2.2 71) = (G.2.1 (g.2.2 71)) := (hfr_52.2.1 (g.2.2 71) trivial).trans (frL_31.2.1 (g.2.2 71) trivial)
          have w_57 : G_51.2.1 (g.2.2 72) = (G.2.1 (g.2.2 72)) := (hfr_52.2.1 (g.2.2 72) trivial).trans (frL_31.2.1 (g.2.2 72) trivial)
          obtain ⟨n_58, en_58⟩ : ∃ z : Int32, G_51.1 27 = z := ⟨_, rfl⟩
          have hq_59 : F_X7_add_x nl27_31 = n_58 := by have q := hex_53; rw [enl27_31, en_58] at q; exact q
          rw [hq_59, tu1_eq] at hv
          have hH : HT g Ty G_51 H := by rw [← ht, ← eTx_50, eG_51]; exact hB
          refine lv_aload_n hx hb dX11_masters_52 rfl (lv_at hl 0 rfl) ?_
          obtain ⟨_, ⟨rfl, kq_61, kq_62, kq_63, kq_64, kq_65, kq_66, kq_67, kq_68, kq_69, kq_70, kq_71, kq_72, kq_73, kq_74, t_76⟩, o_c_60⟩ := hH h0 _ k_h0
          refine hg_get hx hb hG igX11 hown hK o_c_60 rfl 0 (by decide) (hG _ mw_357) rfl dX11_masters_53 ?_
          refine lv_iload_n hx hb dX11_masters_56 rfl (lv_at hl 1 rfl) ?_
          obtain ⟨_, ⟨rfl, kq_78, kq_79, kq_80, t_85⟩, o_c_77⟩ := hH (g.2.2 0) _ kq_61
          refine vp_callSi (W.runV (As := [.int y2_31]) (rest := []) ⟨hx, hb, hml, hown, hts⟩ (c_X10_leastMasterOf l g Ty G_51 (g.2.2 0) y2_31 kq_61) (cwV 1 hts (gwV mw_933 mw_934 mw_935 mw_77 mw_936) rfl rfl rfl hv_X10_leastMasterOf ⟨Nat.le_of_ble_eq_true rfl, Nat.le_of_ble_eq_true rfl⟩) ⟨PcH_blind, hg_recv hK o_c_77 rfl, PcH_pre hK hH⟩ rfl rfl hl.1 rfl (lv_room (Nat.le_of_ble_eq_true rfl)) dX11_masters_57 ⟨Nat.zero_le _, Nat.zero_le _⟩) (fun x_86 hx_86 => ?_)
          have rx_86 : rgI (0) (24) x_86 := hx_86.1
          try rw [← hx_86.2] at hv
          have ex_87 : x_86 = F_X10_leastMasterOf (G.2.1 (g.2.2 71)) (G.2.1 (g.2.2 72)) y2_31 := hx_86.2.trans (by rw [w_56, w_57])
          try rw [← ex_87] at hv
          refine lv_istore_n (lv' := [(2, .int x_86), (0, .ref h0), (3, .int y3_31)]) hx hb dX11_masters_60 rfl hl (by decide) rfl (fun ls hl => ?_)
          obtain ⟨x_88, ex_88⟩ : ∃ y : Int32, y = y3_31 + 1 := ⟨_, rfl⟩
          try rw [← ex_88] at hv
          have rx_88 : rgI (1) (24) x_88 := by rw [ex_88]; exact rg_w (rg_add r_24 rl_1 (by decide) (by decide)) (by decide) (by decide)
          have qx_88 : x_88.toInt = (y3_31 : Int32).toInt + 1 := by rw [ex_88]; exact rg_addE r_24 rl_1 (by decide) (by decide)
          refine lv_iinc (v := x_88) (lv' := [(3, .int x_88), (2, .int x_86), (0, .ref h0)]) hx hb dX11_masters_61 hl (k := 2) rfl (by rw [ex_88]; rfl) (by decide) rfl (fun ls hl => ?_)
          refine lv_goto (tgt := 31) hx hb dX11_masters_64 (by decide) ?_
          exact ih_31 H locs G_51 n_58 x_86 x_88 ls fr_54 en_58 rx_86 (rg_w rx_88 (by decide) (by decide)) (by have h1 := qx_88; have h2 := r_24.1; have h3 := r_24.2; have h4 := hm_31; omega) (lv_sub hl [2, 1, 0] rfl) hv hH hS
  refine lv_aload_n hx hb dX11_masters_0 rfl (lv_at hl 0 rfl) ?_
  obtain ⟨_, ⟨rfl, kq_90, kq_91, kq_92, kq_93, kq_94, kq_95, kq_96, kq_97, kq_98, kq_99, kq_100, kq_101, kq_102, kq_103, t_105⟩, o_c_89⟩ := hH h0 _ k_h0
  refine hg_get hx hb hG igX11 hown hK o_c_89 rfl 0 (by decide) (hG _ mw_357) rfl dX11_masters_1 ?_
  refine lv_iload_n hx hb dX11_masters_4 rfl (lv_at hl 1 rfl) ?_
  obtain ⟨_, ⟨rfl, kq_107, kq_108, kq_109, t_114⟩, o_c_106⟩ := hH (g.2.2 0) _ kq_90
  refine vp_callSi (W.runV (As := [.int a0]) (rest := []) ⟨hx, hb, hml, hown, hts⟩ (c_X10_has l g Ty G (g.2.2 0) a0 kq_90) (cwV 1 hts (gwV mw_603 mw_604 mw_605 mw_77 mw_606) rfl rfl rfl hv_X10_has ⟨Nat.le_of_ble_eq_true rfl, Nat.le_of_ble_eq_true rfl⟩) ⟨PcH_blind, hg_recv hK o_c_106 rfl, PcH_pre hK hH⟩ rfl rfl hl.1 rfl (lv_room (Nat.le_of_ble_eq_true rfl)) dX11_masters_5 ⟨Nat.zero_le _, Nat.zero_le _⟩) (fun x_115 hx_115 => ?_)
  have rx_115 : rgI (0) (1) x_115 := hx_115.1
  try rw [← hx_115.2.2] at hv
  have ex_116 : x_115 = F_X10_has (G.1 20) a0 := hx_115.2.2
  try rw [← ex_116] at hv
  refine lv_if_ne (tgt := 13) hx hb dX11_masters_8 (by decide) (fun c_117 => ?_) (fun c_117 => ?_)
  · rw [if_neg c_117] at hv
    have r_118 : rgI (1) (1) x_115 := rg_w (rg_neL rx_115 rl_0 c_117) (by decide) (by decide)
    have r_119 : rgI (0) (23) a0 := rg_w (hx_115.2.1.resolve_left c_117) (by decide) (by decide)
    refine lv_aload_n hx hb dX11_masters_13 rfl (lv_at hl 0 rfl) ?_
    refine hg_get hx hb hG igX11 hown hK o_c_89 rfl 5 (by decide) (hG _ mw_362) rfl dX11_masters_14 ?_
    obtain ⟨_, ⟨q_121, rfl, kq_121, rq_122, t_123⟩, o_c_120⟩ := hH (g.2.2 5) _ kq_95
    refine va_callv (va_runV (As := []) (rest := []) ⟨hx, hb, hml, hown, hts⟩ (c_X7_clear_x l g Ty G s.heap.size (g.2.2 5) kq_95 hD1) (cwV 0 hts (gwV mw_932 mw_588 mw_589 mw_80 mw_590) rfl rfl rfl hv_X7_clear ⟨Nat.le_of_ble_eq_true rfl, Nat.le_of_ble_eq_true rfl⟩) ⟨PcT_blind, hg_recv hK o_c_120 rfl, PcT_pre hK hH⟩ rfl rfl hl.1 rfl (lv_room (Nat.le_of_ble_eq_true rfl)) dX11_masters_17 ⟨Nat.zero_le _, Nat.zero_le _⟩) hS (fun q _ h => AF.mono hS.1 h) (fun q h => AF.mono hS.1 h) (fun ux_124 t H locs ht hvm hx_124 hB hz hk hS => ?_)
    obtain ⟨eTx_124, eGx_124⟩ := hx_124
    obtain ⟨G_125, eG_125⟩ : ∃ z, z = ux_124.2 := ⟨_, rfl⟩
    rw [← eG_125] at eGx_124
    obtain ⟨hfr_126, hex_127⟩ := eGx_124
    have fr_128 : FR [27] [] [] G G_125 := FR.tr FR.rf hfr_126 (by decide) (fun _ _ => trivial) (by decide)
    have u_129 : G_125.1 20 = (G.1 20) := (hfr_126.1 20 (by decide))
    have w_130 : G_125.2.1 (g.2.2 71) = (G.2.1 (g.2.2 71)) := (hfr_126.2.1 (g.2.2 71) trivial)
    have w_131 : G_125.2.1 (g.2.2 72) = (G.2.1 (g.2.2 72)) := (hfr_126.2.1 (g.2.2 72) trivial)
    obtain ⟨n_132, en_132⟩ : ∃ z : Int32, G_125.1 27 = z := ⟨_, rfl⟩
    have hq_133 : F_X7_clear_x (G.1 27) = n_132 := by have q := hex_127; rw [en_132] at q; exact q
    rw [hq_133, tu1_eq] at hv
    have hH : HT g Ty G_125 H := by rw [← ht, ← eTx_124, eG_125]; exact hB
    refine lv_aload_n hx hb dX11_masters_20 rfl (lv_at hl 0 rfl) ?_
    obtain ⟨_, ⟨rfl, kq_135, kq_136, kq_137, kq_138, kq_139, kq_140, kq_141, kq_142, kq_143, kq_144, kq_145, kq_146, kq_147, kq_148, t_150⟩, o_c_134⟩ := hH h0 _ k_h0
    refine hg_get hx hb hG igX11 hown hK o_c_134 rfl 0 (by decide) (hG _ mw_357) rfl dX11_masters_21 ?_
    refine lv_iload_n hx hb dX11_masters_24 rfl (lv_at hl 1 rfl) ?_
    obtain ⟨_, ⟨rfl, kq_152, kq_153, kq_154, t_159⟩, o_c_151⟩ := hH (g.2.2 0) _ kq_135
    refine vp_callSi (W.runV (As := [.int a0]) (rest := []) ⟨hx, hb, hml, hown, hts⟩ (c_X10_leastMasterOf l g Ty G_125 (g.2.2 0) a0 kq_135) (cwV 1 hts (gwV mw_933 mw_934 mw_935 mw_77 mw_936) rfl rfl rfl hv_X10_leastMasterOf ⟨Nat.le_of_ble_eq_true rfl, Nat.le_of_ble_eq_true rfl⟩) ⟨PcH_blind, hg_recv hK o_c_151 rfl, PcH_pre hK hH⟩ rfl rfl hl.1 rfl (lv_room (Nat.le_of_ble_eq_true rfl)) dX11_masters_25 ⟨Nat.zero_le _, Nat.zero_le _⟩) (fun x_160 hx_160 => ?_)
    have rx_160 : rgI (0) (24) x_160 := hx_160.1
    try rw [← hx_160.2] at hv
    have ex_161 : x_160 = F_X10_leastMasterOf (G.2.1 (g.2.2 71)) (G.2.1 (g.2.2 72)) a0 := hx_160.2.trans (by rw [w_130, w_131])
    try rw [← ex_161] at hv
    refine lv_istore_n (lv' := [(2, .int x_160), (0, .ref h0), (1, .int a0)]) hx hb dX11_masters_28 rfl hl (by decide) rfl (fun ls hl => ?_)
    refine lv_iconst (v := 0) hx hb dX11_masters_29 (by decide) ?_
    refine lv_istore_n (lv' := [(3, .int 0), (2, .int x_160), (0, .ref h0), (1, .int a0)]) hx hb dX11_masters_30 rfl hl (by decide) rfl (fun ls hl => ?_)
    exact L_31 26 H locs G_125 n_132 x_160 0 ls fr_128 en_132 rx_160 (rg_w rl_0 (by decide) (by decide)) (by decide) (lv_sub hl [2, 1, 0] rfl) hv hH hS
  · rw [if_pos c_117] at hv
    have r_162 : rgI (0) (0) x_115 := rg_w (rg_eq rl_0 c_117) (by decide) (by decide)
    refine lv_iconst (v := (-1)) hx hb dX11_masters_11 (by decide) ?_
    exact W.iret hx hb hr (fun t ht hWm => ⟨⟨(-1), (Ty, G), rfl, ⟨rfl, ⟨FR.rf, hv.symm⟩⟩, by show HT g Ty G t.heap; rw [ht]; exact hH⟩, hS.F ht⟩) hS.2.2 dX11_masters_12

def F_X11_path_24 : Nat → Int32 → Int32 → (Nat → Int32) → Int32 → Int32 → Int32
  | 0, _, _, _, _, yn27 => yn27
  | n + 1, y2, y3, yr0, yn20, yn27 => (if (24 : Int32) ≤ y3 then yn27 else (if y2 = (0 : Int32) then yn27 else (if y2 = (24 : Int32) then yn27 else (tu1 (F_X7_add_x yn27) (fun z2 => (F_X11_path_24 n (F_X10_parentOf yr0 y2) (y3 + (1 : Int32)) yr0 yn20 z2))))))
def F_X11_path (r0 : Nat → Int32) (m20 : Int32) (m27 : Int32) (a0 : Int32) : Int32 × Int32 := (if (F_X10_has m20 a0) = (0 : Int32) then ((-1 : Int32), m27) else (tu1 (F_X7_clear_x m27) (fun z3 => ((F_X11_path_24 26 a0 (0 : Int32) r0 m20 z3), (F_X11_path_24 26 a0 (0 : Int32) r0 m20 z3)))))
set_option maxHeartbeats 4000000 in
set_option maxRecDepth 100000 in
theorem c_X11_path (l : Launch) (g : Gx) (Ty : TyM) (G : Gh) (sz : Nat) (h0 : Nat) (a0 : Int32) (k_h0 : Ty h0 = some (21, 0)) (hD1 : LD1 g) : Met l yX11_path (wsG yX11_path cX11_path 4 (some .int)) ({ frames := 1, cells := 0, slots := 0, locals := 23 }) (PcT g Ty G sz [.ref h0, .int a0]) (QwI g Ty sz (fun r u => u.1 = Ty ∧ FR [27] [] [] G u.2 ∧ F_X11_path (G.2.1 (g.2.2 70)) (G.1 20) (G.1 27) a0 = (r, (u.2.1 27)))) 0 0 (AF Ty sz) := by
  refine Met.ofW (cc := cX11_path) (maxL := 4) (ret := (some .int)) (by decide) rfl ?_
  intro p e s m args below meth c s₁ B hml hv
  obtain ⟨rfl, hsz, hK, hH⟩ := hv
  subst hsz
  have hx := B.exec
  have hb := B.bytes
  have hr := B.returns
  have hts := atoms_spec (ws := (wsG yX11_path cX11_path 4 (some .int))) B.pre
  have hG : ∀ w ∈ GW, w.before ([.ref h0, .int a0] : List Value).toArray s = true := fun w h => hts w (List.mem_cons_of_mem _ h)
  have hown : s.vm.findClass RX11 = some m.cls := findClass_of_methodNamed B.named
  have hlocks := B.notSynchronized
  have hl := lv_entry [.ref h0, .int a0] (n := 4) (Nat.le_of_ble_eq_true rfl)
  rw [lg_entry_eq]
  generalize (lg_sl [.ref h0, .int a0] ++ List.replicate (4 - (lg_sl [.ref h0, .int a0]).length) Slot.unset).toArray = ls at hl ⊢
  have hl : lv_has ls 4 [(0, .ref h0), (1, .int a0)] := hl
  have hv : (if (F_X10_has (G.1 20) a0) = (0 : Int32) then ((-1 : Int32), (G.1 27)) else (tu1 (F_X7_clear_x (G.1 27)) (fun z1 => ((F_X11_path_24 26 a0 (0 : Int32) (G.2.1 (g.2.2 70)) (G.1 20) z1), (F_X11_path_24 26 a0 (0 : Int32) (G.2.1 (g.2.2 70)) (G.1 20) z1))))) = F_X11_path (G.2.1 (g.2.2 70)) (G.1 20) (G.1 27) a0 := rfl
  have hS : va_S (AF Ty s.heap.size) s.heap s.heap [] := va_S.rf
  have L_71 : ∀ (H : Heap) (locs : List Loc) (G_71 : Gh) (nl27_71 : Int32) (ls : Array Slot), FR [27] [] [] G G_71 → G_71.1 27 = nl27_71 → lv_has ls 4 [(0, .ref h0)] → (nl27_71, nl27_71) = F_X11_path (G.2.1 (g.2.2 70)) (G.1 20) (G.1 27) a0 → HT g Ty G_71 H → va_S (AF Ty s.heap.size) s.heap H locs → Wm p l e (wsG yX11_path cX11_path 4 (some .int)) ({ frames := 1, cells := 0, slots := 0, locals := 23 }) s m [.ref h0, .int a0] below meth c H locs (0) (0) (QwI g Ty s.heap.size (fun r u => u.1 = Ty ∧ FR [27] [] [] G u.2 ∧ F_X11_path (G.2.1 (g.2.2 70)) (G.1 20) (G.1 27) a0 = (r, (u.2.1 27)))) 0 0 (AF Ty s.heap.size) (F0 m 71 ls []) := by
    intro H locs G_71 nl27_71 ls frL_71 enl27_71 hl hv hH hS
    refine lv_aload_n hx hb dX11_path_71 rfl (lv_at hl 0 rfl) ?_
    obtain ⟨_, ⟨rfl, kq_2, kq_3, kq_4, kq_5, kq_6, kq_7, kq_8, kq_9, kq_10, kq_11, kq_12, kq_13, kq_14, kq_15, t_17⟩, o_c_1⟩ := hH h0 _ k_h0
    refine hg_get hx hb hG igX11 hown hK o_c_1 rfl 5 (by decide) (hG _ mw_362) rfl dX11_path_72 ?_
    obtain ⟨_, ⟨q_19, rfl, kq_19, rq_20, t_21⟩, o_c_18⟩ := hH (g.2.2 5) _ kq_7
    refine va_callv (va_runV (As := []) (rest := []) ⟨hx, hb, hml, hown, hts⟩ (c_X7_turn l g Ty G_71 H.size (g.2.2 5) kq_7) (cwV 0 hts (gwV mw_970 mw_971 mw_972 mw_80 mw_973) rfl rfl rfl hv_X7_turn ⟨Nat.le_of_ble_eq_true rfl, Nat.le_of_ble_eq_true rfl⟩) ⟨PcT_blind, hg_recv hK o_c_18 rfl, PcT_pre hK hH⟩ rfl rfl hl.1 rfl (lv_room (Nat.le_of_ble_eq_true rfl)) dX11_path_75 ⟨Nat.zero_le _, Nat.zero_le _⟩) hS (fun q _ h => AF.mono hS.1 h) (fun q h => AF.mono hS.1 h) (fun ux_22 t H locs ht hvm hx_22 hB hz hk hS => ?_)
    have hH : HT g Ty G_71 H := by rw [← ht]; rw [hx_22] at hB; exact hB
    refine lv_aload_n hx hb dX11_path_78 rfl (lv_at hl 0 rfl) ?_
    obtain ⟨_, ⟨rfl, kq_24, kq_25, kq_26, kq_27, kq_28, kq_29, kq_30, kq_31, kq_32, kq_33, kq_34, kq_35, kq_36, kq_37, t_39⟩, o_c_23⟩ := hH h0 _ k_h0
    refine hg_get hx hb hG igX11 hown hK o_c_23 rfl 5 (by decide) (hG _ mw_362) rfl dX11_path_79 ?_
    obtain ⟨_, ⟨q_41, rfl, kq_41, rq_42, t_43⟩, o_c_40⟩ := hH (g.2.2 5) _ kq_29
    refine hg_getN hx hb hG igX7 hown hK o_c_40 rfl 1 (by decide) ((hK.2.1 _ nwf_189).use rfl) rfl dX11_path_82 ?_
    rw [enl27_71]
    exact W.iret hx hb hr (fun t ht hWm => ⟨⟨nl27_71, (Ty, G_71), rfl, ⟨rfl, ⟨frL_71, hv.symm.trans (by rw [enl27_71])⟩⟩, by show HT g Ty G_71 t.heap; rw [ht]; exact hH⟩, hS.F ht⟩) hS.2.2 dX11_path_85
  have L_24 : ∀ (n_24 : Nat) (H : Heap) (locs : List Loc) (G_24 : Gh) (nl27_24 : Int32) (y2_24 : Int32) (y3_24 : Int32) (ls : Array Slot), FR [27] [] [] G G_24 → G_24.1 27 = nl27_24 → rgI (0) (24) y3_24 → (24 - (y3_24).toInt).toNat < n_24 → lv_has ls 4 [(0, .ref h0), (2, .int y2_24), (3, .int y3_24)] → ((F_X11_path_24 n_24 y2_24 y3_24 (G.2.1 (g.2.2 70)) (G.1 20) nl27_24), (F_X11_path_24 n_24 y2_24 y3_24 (G.2.1 (g.2.2 70)) (G.1 20) nl27_24)) = F_X11_path (G.2.1 (g.2.2 70)) (G.1 20) (G.1 27) a0 → HT g Ty G_24 H → va_S (AF Ty s.heap.size) s.heap H locs → Wm p l e (wsG yX11_path cX11_path 4 (some .int)) ({ frames := 1, cells := 0, slots := 0, locals := 23 }) s m [.ref h0, .int a0] below meth c H locs (0) (0) (QwI g Ty s.heap.size (fun r u => u.1 = Ty ∧ FR [27] [] [] G u.2 ∧ F_X11_path (G.2.1 (g.2.2 70)) (G.1 20) (G.1 27) a0 = (r, (u.2.1 27)))) 0 0 (AF Ty s.heap.size) (F0 m 24 ls []) := by
    intro n_24
    induction n_24 with
    | zero => intro H locs G_24 nl27_24 y2_24 y3_24 ls frL_24 enl27_24 ry3_24 hm; exact absurd hm (Nat.not_lt_zero _)
    | succ n_24 ih_24 =>
      intro H locs G_24 nl27_24 y2_24 y3_24 ls frL_24 enl27_24 ry3_24 hm_24 hl hv hH hS
      rw [F_X11_path_24] at hv
      refine lv_iload_n hx hb dX11_path_24 rfl (lv_at hl 2 rfl) ?_
      refine lv_bipush (v := 24) hx hb dX11_path_25 (by decide) ?_
      refine lv_icmp_ge (tgt := 71) hx hb dX11_path_27 (by decide) (fun c_44 => ?_) (fun c_44 => ?_)
      · rw [if_pos c_44] at hv
        have r_45 : rgI (24) (24) y3_24 := rg_w (rg_leR rl_24 ry3_24 c_44) (by decide) (by decide)
        exact L_71 H locs G_24 nl27_24 ls frL_24 enl27_24 (lv_sub hl [0] rfl) hv hH hS
      · rw [if_neg c_44] at hv
        have r_46 : rgI (0) (23) y3_24 := rg_w (rg_ltL ry3_24 rl_24 (nle_lt c_44)) (by decide) (by decide)
        refine lv_iload_n hx hb dX11_path_30 rfl (lv_at hl 1 rfl) ?_
        refine lv_if_eq (tgt := 71) hx hb dX11_path_31 (by decide) (fun c_47 => ?_) (fun c_47 => ?_)
        · rw [if_pos c_47] at hv
          have r_48 : rgI (0) (0) y2_24 := rg_w (rg_eq rl_0 c_47) (by decide) (by decide)
          exact L_71 H locs G_24 nl27_24 ls frL_24 enl27_24 (lv_sub hl [0] rfl) hv hH hS
        · rw [if_neg c_47] at hv
          refine lv_iload_n hx hb dX11_path_34 rfl (lv_at hl 1 rfl) ?_
          refine lv_bipush (v := 24) hx hb dX11_path_35 (by decide) ?_
          refine lv_icmp_eq (tgt := 71) hx hb dX11_path_37 (by decide) (fun c_49 => ?_) (fun c_49 => ?_)
          · rw [if_pos c_49] at hv
            have r_50 : rgI (24) (24) y2_24 := rg_w (rg_eq rl_24 c_49) (by decide) (by decide)
            exact L_71 H locs G_24 nl27_24 ls frL_24 enl27_24 (lv_sub hl [0] rfl) hv hH hS
          · rw [if_neg c_49] at hv
            refine lv_aload_n hx hb dX11_path_40 rfl (lv_at hl 0 rfl) ?_
            obtain ⟨_, ⟨rfl, kq_52, kq_53, kq_54, kq_55, kq_56, kq_57, kq_58, kq_59, kq_60, kq_61, kq_62, kq_63, kq_64, kq_65, t_67⟩, o_c_51⟩ := hH h0 _ k_h0
            refine hg_get hx hb hG igX11 hown hK o_c_51 rfl 5 (by decide) (hG _ mw_362) rfl dX11_path_41 ?_
            refine lv_aload_n hx hb dX11_path_44 rfl (lv_at hl 0 rfl) ?_
            refine hg_get hx hb hG igX11 hown hK o_c_51 rfl 0 (by decide) (hG _ mw_357) rfl dX11_path_45 ?_
            refine lv_iload_n hx hb dX11_path_48 rfl (lv_at hl 1 rfl) ?_
            obtain ⟨_, ⟨rfl, kq_69, kq_70, kq_71, t_76⟩, o_c_68⟩ := hH (g.2.2 0) _ kq_52
            refine vp_callSi (W.runV (As := [.int y2_24]) (rest := [.ref (g.2.2 5)]) ⟨hx, hb, hml, hown, hts⟩ (c_X10_dirOf l g Ty G_24 (g.2.2 0) y2_24 kq_52) (cwV 1 hts (gwV mw_968 mw_849 mw_850 mw_77 mw_851) rfl rfl rfl hv_X10_dirOf ⟨Nat.le_of_ble_eq_true rfl, Nat.le_of_ble_eq_true rfl⟩) ⟨PcH_blind, hg_recv hK o_c_68 rfl, PcH_pre hK hH⟩ rfl rfl hl.1 rfl (lv_room (Nat.le_of_ble_eq_true rfl)) dX11_path_49 ⟨Nat.zero_le _, Nat.zero_le _⟩) (fun x_77 hx_77 => ?_)
            try rw [← hx_77] at hv
            have ex_78 : x_77 = F_X10_dirOf (G.2.1 (g.2.2 70)) y2_24 := hx_77.trans (by rw [(frL_24.2.1 (g.2.2 70) trivial)])
            try rw [← ex_78] at hv
            refine lv_i2l hx hb dX11_path_52 rfl ?_
            refine lv_topl (fun u_79 eu_79 => ?_)
            obtain ⟨_, ⟨q_81, rfl, kq_81, rq_82, t_83⟩, o_c_80⟩ := hH (g.2.2 5) _ kq_57
            refine va_callv (va_runV (As := [.long u_79]) (rest := []) ⟨hx, hb, hml, hown, hts⟩ (c_X7_add_x l g Ty G_24 H.size (g.2.2 5) u_79 kq_57 hD1) (cwV 1 hts (gwV mw_938 mw_592 mw_593 mw_80 mw_594) rfl rfl rfl hv_X7_add ⟨Nat.le_of_ble_eq_true rfl, Nat.le_of_ble_eq_true rfl⟩) ⟨PcT_blind, hg_recv hK o_c_80 rfl, PcT_pre hK hH⟩ rfl rfl hl.1 rfl (lv_room (Nat.le_of_ble_eq_true rfl)) dX11_path_53 ⟨Nat.zero_le _, Nat.zero_le _⟩) hS (fun q _ h => AF.mono hS.1 h) (fun q h => AF.mono hS.1 h) (fun ux_84 t H locs ht hvm hx_84 hB hz hk hS => ?_)
            obtain ⟨eTx_84, eGx_84⟩ := hx_84
            obtain ⟨G_85, eG_85⟩ : ∃ z, z = ux_84.2 := ⟨_, rfl⟩
            rw [← eG_85] at eGx_84
            obtain ⟨hfr_86, hex_87⟩ := eGx_84
            have fr_88 : FR [27] [] [] G G_85 := FR.tr frL_24 hfr_86 (by decide) (fun _ _ => trivial) (by decide)
            have u_89 : G_85.1 20 = (G.1 20) := (hfr_86.1 20 (by decide)).trans (frL_24.1 20 (by decide))
            have w_90 : G_85.2.1 (g.2.2 70) = (G.2.1 (g.2.2 70)) := (hfr_86.2.1 (g.2.2 70) trivial).trans (frL_24.2.1 (g.2.2 70) trivial)
            obtain ⟨n_91, en_91⟩ : ∃ z : Int32, G_85.1 27 = z := ⟨_, rfl⟩
            have hq_92 : F_X7_add_x nl27_24 = n_91 := by have q := hex_87; rw [enl27_24, en_91] at q; exact q
            rw [hq_92, tu1_eq] at hv
            have hH : HT g Ty G_85 H := by rw [← ht, ← eTx_84, eG_85]; exact hB
            refine lv_aload_n hx hb dX11_path_56 rfl (lv_at hl 0 rfl) ?_
            obtain ⟨_, ⟨rfl, kq_94, kq_95, kq_96, kq_97, kq_98, kq_99, kq_100, kq_101, kq_102, kq_103, kq_104, kq_105, kq_106, kq_107, t_109⟩, o_c_93⟩ := hH h0 _ k_h0
            refine hg_get hx hb hG igX11 hown hK o_c_93 rfl 0 (by decide) (hG _ mw_357) rfl dX11_path_57 ?_
            refine lv_iload_n hx hb dX11_path_60 rfl (lv_at hl 1 rfl) ?_
            obtain ⟨_, ⟨rfl, kq_111, kq_112, kq_113, t_118⟩, o_c_110⟩ := hH (g.2.2 0) _ kq_94
            refine vp_callSi (W.runV (As := [.int y2_24]) (rest := []) ⟨hx, hb, hml, hown, hts⟩ (c_X10_parentOf l g Ty G_85 (g.2.2 0) y2_24 kq_94) (cwV 1 hts (gwV mw_969 mw_683 mw_684 mw_77 mw_685) rfl rfl rfl hv_X10_parentOf ⟨Nat.le_of_ble_eq_true rfl, Nat.le_of_ble_eq_true rfl⟩) ⟨PcH_blind, hg_recv hK o_c_110 rfl, PcH_pre hK hH⟩ rfl rfl hl.1 rfl (lv_room (Nat.le_of_ble_eq_true rfl)) dX11_path_61 ⟨Nat.zero_le _, Nat.zero_le _⟩) (fun x_119 hx_119 => ?_)
            try rw [← hx_119] at hv
            have ex_120 : x_119 = F_X10_parentOf (G.2.1 (g.2.2 70)) y2_24 := hx_119.trans (by rw [w_90])
            try rw [← ex_120] at hv
            refine lv_istore_n (lv' := [(2, .int x_119), (0, .ref h0), (3, .int y3_24)]) hx hb dX11_path_64 rfl hl (by decide) rfl (fun ls hl => ?_)
            obtain ⟨x_121, ex_121⟩ : ∃ y : Int32, y = y3_24 + 1 := ⟨_, rfl⟩
            try rw [← ex_121] at hv
            have rx_121 : rgI (1) (24) x_121 := by rw [ex_121]; exact rg_w (rg_add r_46 rl_1 (by decide) (by decide)) (by decide) (by decide)
            have qx_121 : x_121.toInt = (y3_24 : Int32).toInt + 1 := by rw [ex_121]; exact rg_addE r_46 rl_1 (by decide) (by decide)
            refine lv_iinc (v := x_121) (lv' := [(3, .int x_121), (2, .int x_119), (0, .ref h0)]) hx hb dX11_path_65 hl (k := 2) rfl (by rw [ex_121]; rfl) (by decide) rfl (fun ls hl => ?_)
            refine lv_goto (tgt := 24) hx hb dX11_path_68 (by decide) ?_
            exact ih_24 H locs G_85 n_91 x_119 x_121 ls fr_88 en_91 (rg_w rx_121 (by decide) (by decide)) (by have h1 := qx_121; have h2 := r_46.1; have h3 := r_46.2; have h4 := hm_24; omega) (lv_sub hl [2, 1, 0] rfl) hv hH hS
  refine lv_aload_n hx hb dX11_path_0 rfl (lv_at hl 0 rfl) ?_
  obtain ⟨_, ⟨rfl, kq_123, kq_124, kq_125, kq_126, kq_127, kq_128, kq_129, kq_130, kq_131, kq_132, kq_133, kq_134, kq_135, kq_136, t_138⟩, o_c_122⟩ := hH h0 _ k_h0
  refine hg_get hx hb hG igX11 hown hK o_c_122 rfl 0 (by decide) (hG _ mw_357) rfl dX11_path_1 ?_
  refine lv_iload_n hx hb dX11_path_4 rfl (lv_at hl 1 rfl) ?_
  obtain ⟨_, ⟨rfl, kq_140, kq_141, kq_142, t_147⟩, o_c_139⟩ := hH (g.2.2 0) _ kq_123
  refine vp_callSi (W.runV (As := [.int a0]) (rest := []) ⟨hx, hb, hml, hown, hts⟩ (c_X10_has l g Ty G (g.2.2 0) a0 kq_123) (cwV 1 hts (gwV mw_603 mw_604 mw_605 mw_77 mw_606) rfl rfl rfl hv_X10_has ⟨Nat.le_of_ble_eq_true rfl, Nat.le_of_ble_eq_true rfl⟩) ⟨PcH_blind, hg_recv hK o_c_139 rfl, PcH_pre hK hH⟩ rfl rfl hl.1 rfl (lv_room (Nat.le_of_ble_eq_true rfl)) dX11_path_5 ⟨Nat.zero_le _, Nat.zero_le _⟩) (fun x_148 hx_148 => ?_)
  have rx_148 : rgI (0) (1) x_148 := hx_148.1
  try rw [← hx_148.2.2] at hv
  have ex_149 : x_148 = F_X10_has (G.1 20) a0 := hx_148.2.2
  try rw [← ex_149] at hv
  refine lv_if_ne (tgt := 13) hx hb dX11_path_8 (by decide) (fun c_150 => ?_) (fun c_150 => ?_)
  · rw [if_neg c_150] at hv
    have r_151 : rgI (1) (1) x_148 := rg_w (rg_neL rx_148 rl_0 c_150) (by decide) (by decide)
    have r_152 : rgI (0) (23) a0 := rg_w (hx_148.2.1.resolve_left c_150) (by decide) (by decide)
    refine lv_aload_n hx hb dX11_path_13 rfl (lv_at hl 0 rfl) ?_
    refine hg_get hx hb hG igX11 hown hK o_c_122 rfl 5 (by decide) (hG _ mw_362) rfl dX11_path_14 ?_
    obtain ⟨_, ⟨q_154, rfl, kq_154, rq_155, t_156⟩, o_c_153⟩ := hH (g.2.2 5) _ kq_128
    refine va_callv (va_runV (As := []) (rest := []) ⟨hx, hb, hml, hown, hts⟩ (c_X7_clear_x l g Ty G s.heap.size (g.2.2 5) kq_128 hD1) (cwV 0 hts (gwV mw_932 mw_588 mw_589 mw_80 mw_590) rfl rfl rfl hv_X7_clear ⟨Nat.le_of_ble_eq_true rfl, Nat.le_of_ble_eq_true rfl⟩) ⟨PcT_blind, hg_recv hK o_c_153 rfl, PcT_pre hK hH⟩ rfl rfl hl.1 rfl (lv_room (Nat.le_of_ble_eq_true rfl)) dX11_path_17 ⟨Nat.zero_le _, Nat.zero_le _⟩) hS (fun q _ h => AF.mono hS.1 h) (fun q h => AF.mono hS.1 h) (fun ux_157 t H locs ht hvm hx_157 hB hz hk hS => ?_)
    obtain ⟨eTx_157, eGx_157⟩ := hx_157
    obtain ⟨G_158, eG_158⟩ : ∃ z, z = ux_157.2 := ⟨_, rfl⟩
    rw [← eG_158] at eGx_157
    obtain ⟨hfr_159, hex_160⟩ := eGx_157
    have fr_161 : FR [27] [] [] G G_158 := FR.tr FR.rf hfr_159 (by decide) (fun _ _ => trivial) (by decide)
    have u_162 : G_158.1 20 = (G.1 20) := (hfr_159.1 20 (by decide))
    have w_163 : G_158.2.1 (g.2.2 70) = (G.2.1 (g.2.2 70)) := (hfr_159.2.1 (g.2.2 70) trivial)
    obtain ⟨n_164, en_164⟩ : ∃ z : Int32, G_158.1 27 = z := ⟨_, rfl⟩
    have hq_165 : F_X7_clear_x (G.1 27) = n_164 := by have q := hex_160; rw [en_164] at q; exact q
    rw [hq_165, tu1_eq] at hv
    have hH : HT g Ty G_158 H := by rw [← ht, ← eTx_157, eG_158]; exact hB
    refine lv_iload_n hx hb dX11_path_20 rfl (lv_at hl 1 rfl) ?_
    refine lv_istore_n (lv' := [(2, .int a0), (0, .ref h0), (1, .int a0)]) hx hb dX11_path_21 rfl hl (by decide) rfl (fun ls hl => ?_)
    refine lv_iconst (v := 0) hx hb dX11_path_22 (by decide) ?_
    refine lv_istore_n (lv' := [(3, .int 0), (2, .int a0), (0, .ref h0), (1, .int a0)]) hx hb dX11_path_23 rfl hl (by decide) rfl (fun ls hl => ?_)
    exact L_24 26 H locs G_158 n_164 a0 0 ls fr_161 en_164 (rg_w rl_0 (by decide) (by decide)) (by decide) (lv_sub hl [2, 1, 0] rfl) hv hH hS
  · rw [if_pos c_150] at hv
    have r_166 : rgI (0) (0) x_148 := rg_w (rg_eq rl_0 c_150) (by decide) (by decide)
    refine lv_iconst (v := (-1)) hx hb dX11_path_11 (by decide) ?_
    exact W.iret hx hb hr (fun t ht hWm => ⟨⟨(-1), (Ty, G), rfl, ⟨rfl, ⟨FR.rf, hv.symm⟩⟩, by show HT g Ty G t.heap; rw [ht]; exact hH⟩, hS.F ht⟩) hS.2.2 dX11_path_12

def F_X11_lost (r0 : Nat → Int32) (r1 : Nat → Int32) (r2 : Nat → Int32) (m20 : Int32) (a0 : Int32) (a1 : Int32) : Int32 := (if (0 : Int32) ≤ (F_X0_goers r0 r1 r2 m20 a0 a1) then (F_X11_toldWithSize (F_X0_goers r0 r1 r2 m20 a0 a1)) else (F_X0_goers r0 r1 r2 m20 a0 a1))
set_option maxHeartbeats 4000000 in
set_option maxRecDepth 100000 in
theorem c_X11_lost (l : Launch) (g : Gx) (Ty : TyM) (G : Gh) (sz : Nat) (h0 : Nat) (a0 : Int32) (a1 : Int32) (k_h0 : Ty h0 = some (21, 0)) (hD1 : LD1 g) (h24 : G.1 24 = 0) : Met l yX11_lost (wsG yX11_lost cX11_lost 4 (some .int)) ({ frames := 5, cells := 0, slots := 0, locals := 119 }) (PcT g Ty G sz [.ref h0, .int a0, .int a1]) (QwI g Ty sz (fun r u => u.1 = Ty ∧ FR [27] [] [] G u.2 ∧ F_X11_lost (G.2.1 (g.2.2 70)) (G.2.1 (g.2.2 71)) (G.2.1 (g.2.2 72)) (G.1 20) a0 a1 = r)) 0 0 (AF Ty sz) := by
  refine Met.ofW (cc := cX11_lost) (maxL := 4) (ret := (some .int)) (by decide) rfl ?_
  intro p e s m args below meth c s₁ B hml hv
  obtain ⟨rfl, hsz, hK, hH⟩ := hv
  subst hsz
  have hx := B.exec
  have hb := B.bytes
  have hr := B.returns
  have hts := atoms_spec (ws := (wsG yX11_lost cX11_lost 4 (some .int))) B.pre
  have hG : ∀ w ∈ GW, w.before ([.ref h0, .int a0, .int a1] : List Value).toArray s = true := fun w h => hts w (List.mem_cons_of_mem _ h)
  have hown : s.vm.findClass RX11 = some m.cls := findClass_of_methodNamed B.named
  have hlocks := B.notSynchronized
  have hl := lv_entry [.ref h0, .int a0, .int a1] (n := 4) (Nat.le_of_ble_eq_true rfl)
  rw [lg_entry_eq]
  generalize (lg_sl [.ref h0, .int a0, .int a1] ++ List.replicate (4 - (lg_sl [.ref h0, .int a0, .int a1]).length) Slot.unset).toArray = ls at hl ⊢
  have hl : lv_has ls 4 [(0, .ref h0), (1, .int a0), (2, .int a1)] := hl
  have hv : (if (0 : Int32) ≤ (F_X0_goers (G.2.1 (g.2.2 70)) (G.2.1 (g.2.2 71)) (G.2.1 (g.2.2 72)) (G.1 20) a0 a1) then (F_X11_toldWithSize (F_X0_goers (G.2.1 (g.2.2 70)) (G.2.1 (g.2.2 71)) (G.2.1 (g.2.2 72)) (G.1 20) a0 a1)) else (F_X0_goers (G.2.1 (g.2.2 70)) (G.2.1 (g.2.2 71)) (G.2.1 (g.2.2 72)) (G.1 20) a0 a1)) = F_X11_lost (G.2.1 (g.2.2 70)) (G.2.1 (g.2.2 71)) (G.2.1 (g.2.2 72)) (G.1 20) a0 a1 := rfl
  have hS : va_S (AF Ty s.heap.size) s.heap s.heap [] := va_S.rf
  refine lv_aload_n hx hb dX11_lost_0 rfl (lv_at hl 0 rfl) ?_
  obtain ⟨_, ⟨rfl, kq_2, kq_3, kq_4, kq_5, kq_6, kq_7, kq_8, kq_9, kq_10, kq_11, kq_12, kq_13, kq_14, kq_15, t_17⟩, o_c_1⟩ := hH h0 _ k_h0
  refine hg_get hx hb hG igX11 hown hK o_c_1 rfl 8 (by decide) (hG _ mw_365) rfl dX11_lost_1 ?_
  refine lv_iload_n hx hb dX11_lost_4 rfl (lv_at hl 1 rfl) ?_
  refine lv_iload_n hx hb dX11_lost_5 rfl (lv_at hl 2 rfl) ?_
  obtain ⟨_, ⟨rfl, kq_19, kq_20, kq_21⟩, o_c_18⟩ := hH (g.2.2 8) _ kq_10
  refine vp_callSi (W.runV (As := [.int a0, .int a1]) (rest := []) ⟨hx, hb, hml, hown, hts⟩ (c_X0_goers l g Ty G (g.2.2 8) a0 a1 kq_10 h24) (cwV 2 hts (gwV mw_999 mw_828 mw_829 mw_82 mw_830) rfl rfl rfl hv_X0_goers ⟨Nat.le_of_ble_eq_true rfl, Nat.le_of_ble_eq_true rfl⟩) ⟨PcH_blind, hg_recv hK o_c_18 rfl, PcH_pre hK hH⟩ rfl rfl hl.1 rfl (lv_room (Nat.le_of_ble_eq_true rfl)) dX11_lost_6 ⟨Nat.zero_le _, Nat.zero_le _⟩) (fun x_22 hx_22 => ?_)
  try rw [← hx_22] at hv
  have ex_23 : x_22 = F_X0_goers (G.2.1 (g.2.2 70)) (G.2.1 (g.2.2 71)) (G.2.1 (g.2.2 72)) (G.1 20) a0 a1 := hx_22
  try rw [← ex_23] at hv
  refine lv_istore_n (lv' := [(3, .int x_22), (0, .ref h0), (1, .int a0), (2, .int a1)]) hx hb dX11_lost_9 rfl hl (by decide) rfl (fun ls hl => ?_)
  refine lv_iload_n hx hb dX11_lost_10 rfl (lv_at hl 0 rfl) ?_
  refine lv_if_ge (tgt := 18) hx hb dX11_lost_11 (by decide) (fun c_24 => ?_) (fun c_24 => ?_)
  · rw [if_pos c_24] at hv
    have r_25 : rgI (0) (2147483647) x_22 := rg_w (rg_leR rl_0 (rg_top x_22) c_24) (by decide) (by decide)
    refine lv_aload_n hx hb dX11_lost_18 rfl (lv_at hl 1 rfl) ?_
    refine lv_iload_n hx hb dX11_lost_19 rfl (lv_at hl 0 rfl) ?_
    refine va_calli (va_runV (As := [.int x_22]) (rest := []) ⟨hx, hb, hml, hown, hts⟩ (c_X11_toldWithSize l g Ty G s.heap.size h0 x_22 k_h0 hD1) (cwV 1 hts (gwV mw_915 mw_917 mw_22 mw_76 mw_918) rfl rfl rfl hv_X11_toldWithSize ⟨Nat.le_of_ble_eq_true rfl, Nat.le_of_ble_eq_true rfl⟩) ⟨PcT_blind, hg_recv hK o_c_1 rfl, PcT_pre hK hH⟩ rfl rfl hl.1 rfl (lv_room (Nat.le_of_ble_eq_true rfl)) dX11_lost_20 ⟨Nat.zero_le _, Nat.zero_le _⟩) hS (fun q _ h => AF.mono hS.1 h) (fun q h => AF.mono hS.1 h) (fun x_26 ux_26 t H locs ht hvm hx_26 hB hz hk hS => ?_)
    obtain ⟨eTx_26, eGx_26⟩ := hx_26
    obtain ⟨G_27, eG_27⟩ : ∃ z, z = ux_26.2 := ⟨_, rfl⟩
    rw [← eG_27] at eGx_26
    obtain ⟨hfr_28, hex_29⟩ := eGx_26
    have fr_30 : FR [27] [] [] G G_27 := FR.tr FR.rf hfr_28 (by decide) (fun _ _ => trivial) (by decide)
    have u_31 : G_27.1 20 = (G.1 20) := (hfr_28.1 20 (by decide))
    have u_32 : G_27.1 24 = 0 := (hfr_28.1 24 (by decide)).trans h24
    have w_33 : G_27.2.1 (g.2.2 70) = (G.2.1 (g.2.2 70)) := (hfr_28.2.1 (g.2.2 70) trivial)
    have w_34 : G_27.2.1 (g.2.2 71) = (G.2.1 (g.2.2 71)) := (hfr_28.2.1 (g.2.2 71) trivial)
    have w_35 : G_27.2.1 (g.2.2 72) = (G.2.1 (g.2.2 72)) := (hfr_28.2.1 (g.2.2 72) trivial)
    have hq_36 : F_X11_toldWithSize x_22 = x_26 := by have q := hex_29; exact q
    try rw [hq_36] at hv
    have hH : HT g Ty G_27 H := by rw [← ht, ← eTx_26, eG_27]; exact hB
    exact W.iret hx hb hr (fun t ht hWm => ⟨⟨x_26, (Ty, G_27), rfl, ⟨rfl, ⟨fr_30, hv.symm⟩⟩, by show HT g Ty G_27 t.heap; rw [ht]; exact hH⟩, hS.F ht⟩) hS.2.2 dX11_lost_23
  · rw [if_neg c_24] at hv
    have r_37 : rgI (-2147483648) (-1) x_22 := rg_w (rg_ltL (rg_top x_22) rl_0 (nle_lt c_24)) (by decide) (by decide)
    refine lv_iload_n hx hb dX11_lost_14 rfl (lv_at hl 0 rfl) ?_
    refine lv_goto (tgt := 23) hx hb dX11_lost_15 (by decide) ?_
    exact W.iret hx hb hr (fun t ht hWm => ⟨⟨x_22, (Ty, G), rfl, ⟨rfl, ⟨FR.rf, hv.symm⟩⟩, by show HT g Ty G t.heap; rw [ht]; exact hH⟩, hS.F ht⟩) hS.2.2 dX11_lost_23

def F_X11_would (r0 : Nat → Int32) (r1 : Nat → Int32) (r2 : Nat → Int32) (m20 : Int32) (a0 : Int32) (a1 : Int32) : Int32 := (if (0 : Int32) ≤ (F_X0_parentsBy r0 r1 r2 m20 a0 a1) then (F_J6_bitCount_0f7a4 (F_X0_parentsBy r0 r1 r2 m20 a0 a1)) else (F_X0_parentsBy r0 r1 r2 m20 a0 a1))
set_option maxHeartbeats 4000000 in
set_option maxRecDepth 100000 in
theorem c_X11_would (l : Launch) (g : Gx) (Ty : TyM) (G : Gh) (sz : Nat) (h0 : Nat) (a0 : Int32) (a1 : Int32) (k_h0 : Ty h0 = some (21, 0)) (hD1 : LD1 g) (h24 : G.1 24 = 0) : Met l yX11_would (wsG yX11_would cX11_would 5 (some .int)) ({ frames := 5, cells := 0, slots := 0, locals := 117 }) (PcT g Ty G sz [.ref h0, .int a0, .int a1]) (QwI g Ty sz (fun r u => u.1 = Ty ∧ FR [27] [] [] G u.2 ∧ F_X11_would (G.2.1 (g.2.2 70)) (G.2.1 (g.2.2 71)) (G.2.1 (g.2.2 72)) (G.1 20) a0 a1 = r)) 0 0 (AF Ty sz) := by
  refine Met.ofW (cc := cX11_would) (maxL := 5) (ret := (some .int)) (by decide) rfl ?_
  intro p e s m args below meth c s₁ B hml hv
  obtain ⟨rfl, hsz, hK, hH⟩ := hv
  subst hsz
  have hx := B.exec
  have hb := B.bytes
  have hr := B.returns
  have hts := atoms_spec (ws := (wsG yX11_would cX11_would 5 (some .int))) B.pre
  have hG : ∀ w ∈ GW, w.before ([.ref h0, .int a0, .int a1] : List Value).toArray s = true := fun w h => hts w (List.mem_cons_of_mem _ h)
  have hown : s.vm.findClass RX11 = some m.cls := findClass_of_methodNamed B.named
  have hlocks := B.notSynchronized
  have hl := lv_entry [.ref h0, .int a0, .int a1] (n := 5) (Nat.le_of_ble_eq_true rfl)
  rw [lg_entry_eq]
  generalize (lg_sl [.ref h0, .int a0, .int a1] ++ List.replicate (5 - (lg_sl [.ref h0, .int a0, .int a1]).length) Slot.unset).toArray = ls at hl ⊢
  have hl : lv_has ls 5 [(0, .ref h0), (1, .int a0), (2, .int a1)] := hl
  have hv : (if (0 : Int32) ≤ (F_X0_parentsBy (G.2.1 (g.2.2 70)) (G.2.1 (g.2.2 71)) (G.2.1 (g.2.2 72)) (G.1 20) a0 a1) then (F_J6_bitCount_0f7a4 (F_X0_parentsBy (G.2.1 (g.2.2 70)) (G.2.1 (g.2.2 71)) (G.2.1 (g.2.2 72)) (G.1 20) a0 a1)) else (F_X0_parentsBy (G.2.1 (g.2.2 70)) (G.2.1 (g.2.2 71)) (G.2.1 (g.2.2 72)) (G.1 20) a0 a1)) = F_X11_would (G.2.1 (g.2.2 70)) (G.2.1 (g.2.2 71)) (G.2.1 (g.2.2 72)) (G.1 20) a0 a1 := rfl
  have hS : va_S (AF Ty s.heap.size) s.heap s.heap [] := va_S.rf
  have L_32 : ∀ (n_32 : Nat) (H : Heap) (locs : List Loc) (G_32 : Gh) (y3_32 : Int32) (y4_32 : Int32) (ls : Array Slot), FR [27] [] [] G G_32 → rgI (0) (2147483647) y3_32 → rgI (0) (24) y4_32 → (24 - (y4_32).toInt).toNat < n_32 → lv_has ls 5 [(0, .ref h0), (1, .int a0), (3, .int y3_32), (4, .int y4_32)] → (F_J6_bitCount_0f7a4 y3_32) = F_X11_would (G.2.1 (g.2.2 70)) (G.2.1 (g.2.2 71)) (G.2.1 (g.2.2 72)) (G.1 20) a0 a1 → HT g Ty G_32 H → va_S (AF Ty s.heap.size) s.heap H locs → Wm p l e (wsG yX11_would cX11_would 5 (some .int)) ({ frames := 5, cells := 0, slots := 0, locals := 117 }) s m [.ref h0, .int a0, .int a1] below meth c H locs (0) (0) (QwI g Ty s.heap.size (fun r u => u.1 = Ty ∧ FR [27] [] [] G u.2 ∧ F_X11_would (G.2.1 (g.2.2 70)) (G.2.1 (g.2.2 71)) (G.2.1 (g.2.2 72)) (G.1 20) a0 a1 = r)) 0 0 (AF Ty s.heap.size) (F0 m 32 ls []) := by
    intro n_32
    induction n_32 with
    | zero => intro H locs G_32 y3_32 y4_32 ls frL_32 ry3_32 ry4_32 hm; exact absurd hm (Nat.not_lt_zero _)
    | succ n_32 ih_32 =>
      intro H locs G_32 y3_32 y4_32 ls frL_32 ry3_32 ry4_32 hm_32 hl hv hH hS
      have L_76 : ∀ (H : Heap) (locs : List Loc) (G_76 : Gh) (ls : Array Slot), FR [27] [] [] G G_76 → rgI (0) (2147483647) y3_32 → rgI (0) (23) y4_32 → lv_has ls 5 [(0, .ref h0), (1, .int a0), (3, .int y3_32), (4, .int y4_32)] → (F_J6_bitCount_0f7a4 y3_32) = F_X11_would (G.2.1 (g.2.2 70)) (G.2.1 (g.2.2 71)) (G.2.1 (g.2.2 72)) (G.1 20) a0 a1 → HT g Ty G_76 H → va_S (AF Ty s.heap.size) s.heap H locs → Wm p l e (wsG yX11_would cX11_would 5 (some .int)) ({ frames := 5, cells := 0, slots := 0, locals := 117 }) s m [.ref h0, .int a0, .int a1] below meth c H locs (0) (0) (QwI g Ty s.heap.size (fun r u => u.1 = Ty ∧ FR [27] [] [] G u.2 ∧ F_X11_would (G.2.1 (g.2.2 70)) (G.2.1 (g.2.2 71)) (G.2.1 (g.2.2 72)) (G.1 20) a0 a1 = r)) 0 0 (AF Ty s.heap.size) (F0 m 76 ls []) := by
        intro H locs G_76 ls frL_76 ry3_76 ry4_76 hl hv hH hS
        obtain ⟨x_1, ex_1⟩ : ∃ y : Int32, y = y4_32 + 1 := ⟨_, rfl⟩
        try rw [← ex_1] at hv
        have rx_1 : rgI (1) (24) x_1 := by rw [ex_1]; exact rg_w (rg_add ry4_76 rl_1 (by decide) (by decide)) (by decide) (by decide)
        have qx_1 : x_1.toInt = (y4_32 : Int32).toInt + 1 := by rw [ex_1]; exact rg_addE ry4_76 rl_1 (by decide) (by decide)
        refine lv_iinc (v := x_1) (lv' := [(4, .int x_1), (0, .ref h0), (1, .int a0), (3, .int y3_32)]) hx hb dX11_would_76 hl (k := 3) rfl (by rw [ex_1]; rfl) (by decide) rfl (fun ls hl => ?_)
        refine lv_goto (tgt := 32) hx hb dX11_would_79 (by decide) ?_
        exact ih_32 H locs G_76 y3_32 x_1 ls frL_76 ry3_76 (rg_w rx_1 (by decide) (by decide)) (by have h1 := qx_1; have h2 := ry4_76.1; have h3 := ry4_76.2; have h4 := hm_32; omega) (lv_sub hl [1, 2, 3, 0] rfl) hv hH hS
      refine lv_iload hx hb dX11_would_32 (lv_at hl 3 rfl) ?_
      refine lv_bipush (v := 24) hx hb dX11_would_34 (by decide) ?_
      refine lv_icmp_ge (tgt := 82) hx hb dX11_would_36 (by decide) (fun c_2 => ?_) (fun c_2 => ?_)
      · have r_3 : rgI (24) (24) y4_32 := rg_w (rg_leR rl_24 ry4_32 c_2) (by decide) (by decide)
        refine lv_iload_n hx hb dX11_would_82 rfl (lv_at hl 2 rfl) ?_
        refine vp_callSi (W.runS (As := [.int y3_32]) (rest := []) ⟨hx, hb, hml, hown, hts⟩ (c_J6_bitCount_x l g Ty G_32 y3_32 ) (cwSx 1 hts hG (gwC mw_620) mw_99 mw_618 mw_619 rfl rfl rfl hd_J6_bitCount_0f7a4 ⟨Nat.le_of_ble_eq_true rfl, Nat.le_of_ble_eq_true rfl⟩) ⟨PcH_blind, PcH_pre hK hH⟩ rfl rfl hl.1 rfl (lv_room (Nat.le_of_ble_eq_true rfl)) dX11_would_83 ⟨Nat.zero_le _, Nat.zero_le _⟩) (fun x_4 hx_4 => ?_)
        have rx_4 : rgI (0) (63) x_4 := hx_4.1
        try rw [← hx_4.2] at hv
        try rw [← hx_4.2] at hv
        exact W.iret hx hb hr (fun t ht hWm => ⟨⟨x_4, (Ty, G_32), rfl, ⟨rfl, ⟨frL_32, hv.symm⟩⟩, by show HT g Ty G_32 t.heap; rw [ht]; exact hH⟩, hS.F ht⟩) hS.2.2 dX11_would_86
      · have r_5 : rgI (0) (23) y4_32 := rg_w (rg_ltL ry4_32 rl_24 (nle_lt c_2)) (by decide) (by decide)
        refine lv_iload hx hb dX11_would_39 (lv_at hl 3 rfl) ?_
        refine lv_iload_n hx hb dX11_would_41 rfl (lv_at hl 1 rfl) ?_
        refine lv_icmp_eq (tgt := 76) hx hb dX11_would_42 (by decide) (fun c_6 => ?_) (fun c_6 => ?_)
        · exact L_76 H locs G_32 ls frL_32 ry3_32 r_5 (lv_sub hl [0, 1, 2, 3] rfl) hv hH hS
        · refine lv_iload_n hx hb dX11_would_45 rfl (lv_at hl 2 rfl) ?_
          refine lv_iconst (v := 1) hx hb dX11_would_46 (by decide) ?_
          refine lv_iload hx hb dX11_would_47 (lv_at hl 3 rfl) ?_
          refine lv_ishl hx hb dX11_would_49 ?_
          refine lv_topi (fun x_7 ex_7 => ?_)
          try rw [← ex_7] at hv
          refine lv_iand hx hb dX11_would_50 ?_
          refine lv_topi (fun x_8 ex_8 => ?_)
          try rw [← ex_8] at hv
          refine lv_if_eq (tgt := 76) hx hb dX11_would_51 (by decide) (fun c_9 => ?_) (fun c_9 => ?_)
          · have r_10 : rgI (0) (0) x_8 := rg_w (rg_eq rl_0 c_9) (by decide) (by decide)
            exact L_76 H locs G_32 ls frL_32 ry3_32 r_5 (lv_sub hl [0, 1, 2, 3] rfl) hv hH hS
          · refine lv_aload_n hx hb dX11_would_54 rfl (lv_at hl 0 rfl) ?_
            obtain ⟨_, ⟨rfl, kq_12, kq_13, kq_14, kq_15, kq_16, kq_17, kq_18, kq_19, kq_20, kq_21, kq_22, kq_23, kq_24, kq_25, t_27⟩, o_c_11⟩ := hH h0 _ k_h0
            refine hg_get hx hb hG igX11 hown hK o_c_11 rfl 5 (by decide) (hG _ mw_362) rfl dX11_would_55 ?_
            obtain ⟨_, ⟨q_29, rfl, kq_29, rq_30, t_31⟩, o_c_28⟩ := hH (g.2.2 5) _ kq_17
            refine hg_getN hx hb hG igX7 hown hK o_c_28 rfl 1 (by decide) ((hK.2.1 _ nwf_189).use rfl) rfl dX11_would_58 ?_
            refine lv_bipush (v := 14) hx hb dX11_would_61 (by decide) ?_
            refine lv_icmp_ge (tgt := 76) hx hb dX11_would_63 (by decide) (fun c_32 => ?_) (fun c_32 => ?_)
            · have r_33 : rgI (14) (24) (G_32.1 27) := rg_w (rg_leR rl_14 rq_30 c_32) (by decide) (by decide)
              exact L_76 H locs G_32 ls frL_32 ry3_32 r_5 (lv_sub hl [0, 1, 2, 3] rfl) hv hH hS
            · have r_34 : rgI (0) (13) (G_32.1 27) := rg_w (rg_ltL rq_30 rl_14 (nle_lt c_32)) (by decide) (by decide)
              refine lv_aload_n hx hb dX11_would_66 rfl (lv_at hl 0 rfl) ?_
              refine hg_get hx hb hG igX11 hown hK o_c_11 rfl 5 (by decide) (hG _ mw_362) rfl dX11_would_67 ?_
              refine lv_iload hx hb dX11_would_70 (lv_at hl 3 rfl) ?_
              refine lv_i2l hx hb dX11_would_72 rfl ?_
              refine lv_topl (fun u_35 eu_35 => ?_)
              refine va_callv (va_runV (As := [.long u_35]) (rest := []) ⟨hx, hb, hml, hown, hts⟩ (c_X7_add_x l g Ty G_32 H.size (g.2.2 5) u_35 kq_17 hD1) (cwV 1 hts (gwV mw_938 mw_592 mw_593 mw_80 mw_594) rfl rfl rfl hv_X7_add ⟨Nat.le_of_ble_eq_true rfl, Nat.le_of_ble_eq_true rfl⟩) ⟨PcT_blind, hg_recv hK o_c_28 rfl, PcT_pre hK hH⟩ rfl rfl hl.1 rfl (lv_room (Nat.le_of_ble_eq_true rfl)) dX11_would_73 ⟨Nat.zero_le _, Nat.zero_le _⟩) hS (fun q _ h => AF.mono hS.1 h) (fun q h => AF.mono hS.1 h) (fun ux_36 t H locs ht hvm hx_36 hB hz hk hS => ?_)
              obtain ⟨eTx_36, eGx_36⟩ := hx_36
              obtain ⟨G_37, eG_37⟩ : ∃ z, z = ux_36.2 := ⟨_, rfl⟩
              rw [← eG_37] at eGx_36
              obtain ⟨hfr_38, hex_39⟩ := eGx_36
              have fr_40 : FR [27] [] [] G G_37 := FR.tr frL_32 hfr_38 (by decide) (fun _ _ => trivial) (by decide)
              have u_41 : G_37.1 24 = 0 := (hfr_38.1 24 (by decide)).trans ((frL_32.1 24 (by decide)).trans h24)
              have u_42 : G_37.1 20 = (G.1 20) := (hfr_38.1 20 (by decide)).trans (frL_32.1 20 (by decide))
              have w_43 : G_37.2.1 (g.2.2 70) = (G.2.1 (g.2.2 70)) := (hfr_38.2.1 (g.2.2 70) trivial).trans (frL_32.2.1 (g.2.2 70) trivial)
              have w_44 : G_37.2.1 (g.2.2 71) = (G.2.1 (g.2.2 71)) := (hfr_38.2.1 (g.2.2 71) trivial).trans (frL_32.2.1 (g.2.2 71) trivial)
              have w_45 : G_37.2.1 (g.2.2 72) = (G.2.1 (g.2.2 72)) := (hfr_38.2.1 (g.2.2 72) trivial).trans (frL_32.2.1 (g.2.2 72) trivial)
              have hH : HT g Ty G_37 H := by rw [← ht, ← eTx_36, eG_37]; exact hB
              exact L_76 H locs G_37 ls fr_40 ry3_32 r_5 (lv_sub hl [0, 1, 2, 3] rfl) hv hH hS
  refine lv_aload_n hx hb dX11_would_0 rfl (lv_at hl 0 rfl) ?_
  obtain ⟨_, ⟨rfl, kq_47, kq_48, kq_49, kq_50, kq_51, kq_52, kq_53, kq_54, kq_55, kq_56, kq_57, kq_58, kq_59, kq_60, t_62⟩, o_c_46⟩ := hH h0 _ k_h0
  refine hg_get hx hb hG igX11 hown hK o_c_46 rfl 8 (by decide) (hG _ mw_365) rfl dX11_would_1 ?_
  refine lv_aload_n hx hb dX11_would_4 rfl (lv_at hl 0 rfl) ?_
  refine hg_get hx hb hG igX11 hown hK o_c_46 rfl 6 (by decide) (hG _ mw_363) rfl dX11_would_5 ?_
  refine lv_iload_n hx hb dX11_would_8 rfl (lv_at hl 1 rfl) ?_
  refine lv_iload_n hx hb dX11_would_9 rfl (lv_at hl 2 rfl) ?_
  obtain ⟨_, ⟨rfl, kq_64, kq_65, kq_66⟩, o_c_63⟩ := hH (g.2.2 8) _ kq_55
  refine vp_callSi (W.runV (As := [.ref (g.2.2 6), .int a0, .int a1]) (rest := []) ⟨hx, hb, hml, hown, hts⟩ (c_X0_parentsBy l g Ty G (g.2.2 8) (g.2.2 6) a0 a1 kq_55 kq_53 h24) (cwV 3 hts (gwV mw_994 mw_637 mw_638 mw_82 mw_639) rfl rfl rfl hv_X0_parentsBy ⟨Nat.le_of_ble_eq_true rfl, Nat.le_of_ble_eq_true rfl⟩) ⟨PcH_blind, hg_recv hK o_c_63 rfl, PcH_pre hK hH⟩ rfl rfl hl.1 rfl (lv_room (Nat.le_of_ble_eq_true rfl)) dX11_would_10 ⟨Nat.zero_le _, Nat.zero_le _⟩) (fun x_67 hx_67 => ?_)
  try rw [← hx_67] at hv
  have ex_68 : x_67 = F_X0_parentsBy (G.2.1 (g.2.2 70)) (G.2.1 (g.2.2 71)) (G.2.1 (g.2.2 72)) (G.1 20) a0 a1 := hx_67
  try rw [← ex_68] at hv
  refine lv_istore_n (lv' := [(3, .int x_67), (0, .ref h0), (1, .int a0), (2, .int a1)]) hx hb dX11_would_13 rfl hl (by decide) rfl (fun ls hl => ?_)
  refine lv_iload_n hx hb dX11_would_14 rfl (lv_at hl 0 rfl) ?_
  refine lv_if_ge (tgt := 20) hx hb dX11_would_15 (by decide) (fun c_69 => ?_) (fun c_69 => ?_)
  · rw [if_pos c_69] at hv
    have r_70 : rgI (0) (2147483647) x_67 := rg_w (rg_leR rl_0 (rg_top x_67) c_69) (by decide) (by decide)
    refine lv_aload_n hx hb dX11_would_20 rfl (lv_at hl 1 rfl) ?_
    refine hg_get hx hb hG igX11 hown hK o_c_46 rfl 5 (by decide) (hG _ mw_362) rfl dX11_would_21 ?_
    refine lv_iload_n hx hb dX11_would_24 rfl (lv_at hl 2 rfl) ?_
    refine lv_i2l hx hb dX11_would_25 rfl ?_
    refine lv_topl (fun u_71 eu_71 => ?_)
    obtain ⟨_, ⟨q_73, rfl, kq_73, rq_74, t_75⟩, o_c_72⟩ := hH (g.2.2 5) _ kq_52
    refine va_callv (va_runV (As := [.long u_71]) (rest := []) ⟨hx, hb, hml, hown, hts⟩ (c_X7_tell_x l g Ty G s.heap.size (g.2.2 5) u_71 kq_52 hD1) (cwV 1 hts (gwV mw_583 mw_584 mw_585 mw_80 mw_586) rfl rfl rfl hv_X7_tell ⟨Nat.le_of_ble_eq_true rfl, Nat.le_of_ble_eq_true rfl⟩) ⟨PcT_blind, hg_recv hK o_c_72 rfl, PcT_pre hK hH⟩ rfl rfl hl.1 rfl (lv_room (Nat.le_of_ble_eq_true rfl)) dX11_would_26 ⟨Nat.zero_le _, Nat.zero_le _⟩) hS (fun q _ h => AF.mono hS.1 h) (fun q h => AF.mono hS.1 h) (fun ux_76 t H locs ht hvm hx_76 hB hz hk hS => ?_)
    obtain ⟨eTx_76, eGx_76⟩ := hx_76
    obtain ⟨G_77, eG_77⟩ : ∃ z, z = ux_76.2 := ⟨_, rfl⟩
    rw [← eG_77] at eGx_76
    obtain ⟨hfr_78, hex_79⟩ := eGx_76
    have fr_80 : FR [27] [] [] G G_77 := FR.tr FR.rf hfr_78 (by decide) (fun _ _ => trivial) (by decide)
    have u_81 : G_77.1 20 = (G.1 20) := (hfr_78.1 20 (by decide))
    have u_82 : G_77.1 24 = 0 := (hfr_78.1 24 (by decide)).trans h24
    have w_83 : G_77.2.1 (g.2.2 70) = (G.2.1 (g.2.2 70)) := (hfr_78.2.1 (g.2.2 70) trivial)
    have w_84 : G_77.2.1 (g.2.2 71) = (G.2.1 (g.2.2 71)) := (hfr_78.2.1 (g.2.2 71) trivial)
    have w_85 : G_77.2.1 (g.2.2 72) = (G.2.1 (g.2.2 72)) := (hfr_78.2.1 (g.2.2 72) trivial)
    have hH : HT g Ty G_77 H := by rw [← ht, ← eTx_76, eG_77]; exact hB
    refine lv_iconst (v := 0) hx hb dX11_would_29 (by decide) ?_
    refine lv_istore (lv' := [(4, .int 0), (3, .int x_67), (0, .ref h0), (1, .int a0), (2, .int a1)]) hx hb dX11_would_30 hl (by decide) rfl (fun ls hl => ?_)
    exact L_32 26 H locs G_77 x_67 0 ls fr_80 r_70 (rg_w rl_0 (by decide) (by decide)) (by decide) (lv_sub hl [2, 3, 1, 0] rfl) hv hH hS
  · rw [if_neg c_69] at hv
    have r_86 : rgI (-2147483648) (-1) x_67 := rg_w (rg_ltL (rg_top x_67) rl_0 (nle_lt c_69)) (by decide) (by decide)
    refine lv_iload_n hx hb dX11_would_18 rfl (lv_at hl 0 rfl) ?_
    exact W.iret hx hb hr (fun t ht hWm => ⟨⟨x_67, (Ty, G), rfl, ⟨rfl, ⟨FR.rf, hv.symm⟩⟩, by show HT g Ty G t.heap; rw [ht]; exact hH⟩, hS.F ht⟩) hS.2.2 dX11_would_19

def F_X11_widest_44 : Nat → Int32 → Int32 → Int32 → Int32 → Int32 → Int32 → (Nat → Int32) → (Nat → Int32) → (Nat → Int32) → Int32 → Int32 × Int32
  | 0, y1, y2, _, _, _, _, _, _, _, _ => (y1, y2)
  | n + 1, y1, y2, y3, y4, y5, y6, yr0, yr1, yr2, yn20 => (if (24 : Int32) ≤ y6 then (y1, y2) else (if (F_X10_has yn20 y6) = (0 : Int32) then (F_X11_widest_44 n y1 y2 y3 y4 y5 (y6 + (1 : Int32)) yr0 yr1 yr2 yn20) else (if (y4 &&& ((1 : Int32) <<< (y6 &&& 31))) = (0 : Int32) then (if y2 < (F_J6_bitCount_0f7a4 (((F_X10_spreadOf yr1 yr2 y6) &&& y5) ||| ((1 : Int32) <<< (y6 &&& 31)))) then (if (24 : Int32) < ((F_X10_size yn20) + (F_J6_bitCount_0f7a4 (((F_X10_spreadOf yr1 yr2 y6) &&& y5) ||| ((1 : Int32) <<< (y6 &&& 31))))) then (F_X11_widest_44 n y1 y2 y3 y4 y5 (y6 + (1 : Int32)) yr0 yr1 yr2 yn20) else (F_X11_widest_44 n (((10 : Int32) * y6) + y3) (F_J6_bitCount_0f7a4 (((F_X10_spreadOf yr1 yr2 y6) &&& y5) ||| ((1 : Int32) <<< (y6 &&& 31)))) y3 y4 y5 (y6 + (1 : Int32)) yr0 yr1 yr2 yn20)) else (if (F_J6_bitCount_0f7a4 (((F_X10_spreadOf yr1 yr2 y6) &&& y5) ||| ((1 : Int32) <<< (y6 &&& 31)))) = y2 then (if y1 ≤ (((10 : Int32) * y6) + y3) then (F_X11_widest_44 n y1 y2 y3 y4 y5 (y6 + (1 : Int32)) yr0 yr1 yr2 yn20) else (if (24 : Int32) < ((F_X10_size yn20) + (F_J6_bitCount_0f7a4 (((F_X10_spreadOf yr1 yr2 y6) &&& y5) ||| ((1 : Int32) <<< (y6 &&& 31))))) then (F_X11_widest_44 n y1 y2 y3 y4 y5 (y6 + (1 : Int32)) yr0 yr1 yr2 yn20) else (F_X11_widest_44 n (((10 : Int32) * y6) + y3) (F_J6_bitCount_0f7a4 (((F_X10_spreadOf yr1 yr2 y6) &&& y5) ||| ((1 : Int32) <<< (y6 &&& 31)))) y3 y4 y5 (y6 + (1 : Int32)) yr0 yr1 yr2 yn20))) else (F_X11_widest_44 n y1 y2 y3 y4 y5 (y6 + (1 : Int32)) yr0 yr1 yr2 yn20))) else (F_X11_widest_44 n y1 y2 y3 y4 y5 (y6 + (1 : Int32)) yr0 yr1 yr2 yn20))))
def F_X11_widest_7 : Nat → Int32 → Int32 → Int32 → (Nat → Int32) → (Nat → Int32) → (Nat → Int32) → Int32 → Int32 × Int32
  | 0, y1, y2, _, _, _, _, _ => (y1, y2)
  | n + 1, y1, y2, y3, yr0, yr1, yr2, yn20 => (if (4 : Int32) ≤ y3 then (y1, y2) else (tu2 (F_X11_widest_44 26 y1 y2 y3 (F_X10_takenAt yr0 y3) ((F_X8_letting_z yn20 y3) &&& ((F_X10_takenAt yr0 y3) ^^^ (-1 : Int32))) (0 : Int32) yr0 yr1 yr2 yn20) (fun z25 z26 => (F_X11_widest_7 n z25 z26 (y3 + (1 : Int32)) yr0 yr1 yr2 yn20))))
def F_X11_widest (r0 : Nat → Int32) (r1 : Nat → Int32) (r2 : Nat → Int32) (m20 : Int32) : Int32 := (tu2 (F_X11_widest_7 6 (-2 : Int32) (0 : Int32) (0 : Int32) r0 r1 r2 m20) (fun z27 z28 => (if z28 ≤ (0 : Int32) then z27 else z27)))
set_option maxHeartbeats 4000000 in
set_option maxRecDepth 100000 in
theorem c_X11_widest (l : Launch) (g : Gx) (Ty : TyM) (G : Gh) (sz : Nat) (h0 : Nat) (k_h0 : Ty h0 = some (21, 0)) (hD1 : LD1 g) (h24 : G.1 24 = 0) : Met l yX11_widest (wsG yX11_widest cX11_widest 9 (some .int)) ({ frames := 4, cells := 0, slots := 0, locals := 92 }) (PcT g Ty G sz [.ref h0]) (QwI g Ty sz (fun r u => u.1 = Ty ∧ FR [27] [] [] G u.2 ∧ F_X11_widest (G.2.1 (g.2.2 70)) (G.2.1 (g.2.2 71)) (G.2.1 (g.2.2 72)) (G.1 20) = r)) 0 0 (AF Ty sz) := by
  refine Met.ofW (cc := cX11_widest) (maxL := 9) (ret := (some .int)) (by decide) rfl ?_
  intro p e s m args below meth c s₁ B hml hv
  obtain ⟨rfl, hsz, hK, hH⟩ := hv
  subst hsz
  have hx := B.exec
  have hb := B.bytes
  have hr := B.returns
  have hts := atoms_spec (ws := (wsG yX11_widest cX11_widest 9 (some .int))) B.pre
  have hG : ∀ w ∈ GW, w.before ([.ref h0] : List Value).toArray s = true := fun w h => hts w (List.mem_cons_of_mem _ h)
  have hown : s.vm.findClass RX11 = some m.cls := findClass_of_methodNamed B.named
  have hlocks := B.notSynchronized
  have hl := lv_entry [.ref h0] (n := 9) (Nat.le_of_ble_eq_true rfl)
  rw [lg_entry_eq]
  generalize (lg_sl [.ref h0] ++ List.replicate (9 - (lg_sl [.ref h0]).length) Slot.unset).toArray = ls at hl ⊢
  have hl : lv_has ls 9 [(0, .ref h0)] := hl
  have hv : (tu2 (F_X11_widest_7 6 (-2 : Int32) (0 : Int32) (0 : Int32) (G.2.1 (g.2.2 70)) (G.2.1 (g.2.2 71)) (G.2.1 (g.2.2 72)) (G.1 20)) (fun z23 z24 => (if z24 ≤ (0 : Int32) then z23 else z23))) = F_X11_widest (G.2.1 (g.2.2 70)) (G.2.1 (g.2.2 71)) (G.2.1 (g.2.2 72)) (G.1 20) := rfl
  have hS : va_S (AF Ty s.heap.size) s.heap s.heap [] := va_S.rf
  have L_181 : ∀ (H : Heap) (locs : List Loc) (G_181 : Gh) (y1_181 : Int32) (ls : Array Slot), FR [27] [] [] G G_181 → rgI (-2) (2147483647) y1_181 → lv_has ls 9 [(1, .int y1_181)] → y1_181 = F_X11_widest (G.2.1 (g.2.2 70)) (G.2.1 (g.2.2 71)) (G.2.1 (g.2.2 72)) (G.1 20) → HT g Ty G_181 H → va_S (AF Ty s.heap.size) s.heap H locs → Wm p l e (wsG yX11_widest cX11_widest 9 (some .int)) ({ frames := 4, cells := 0, slots := 0, locals := 92 }) s m [.ref h0] below meth c H locs (0) (0) (QwI g Ty s.heap.size (fun r u => u.1 = Ty ∧ FR [27] [] [] G u.2 ∧ F_X11_widest (G.2.1 (g.2.2 70)) (G.2.1 (g.2.2 71)) (G.2.1 (g.2.2 72)) (G.1 20) = r)) 0 0 (AF Ty s.heap.size) (F0 m 181 ls []) := by
    intro H locs G_181 y1_181 ls frL_181 ry1_181 hl hv hH hS
    refine lv_iload_n hx hb dX11_widest_181 rfl (lv_at hl 0 rfl) ?_
    exact W.iret hx hb hr (fun t ht hWm => ⟨⟨y1_181, (Ty, G_181), rfl, ⟨rfl, ⟨frL_181, hv.symm⟩⟩, by show HT g Ty G_181 t.heap; rw [ht]; exact hH⟩, hS.F ht⟩) hS.2.2 dX11_widest_182
  have L_7 : ∀ (n_7 : Nat) (H : Heap) (locs : List Loc) (G_7 : Gh) (y1_7 : Int32) (y2_7 : Int32) (y3_7 : Int32) (ls : Array Slot), FR [27] [] [] G G_7 → rgI (-2) (2147483647) y1_7 → rgI (0) (63) y2_7 → rgI (0) (4) y3_7 → (4 - (y3_7).toInt).toNat < n_7 → lv_has ls 9 [(0, .ref h0), (1, .int y1_7), (2, .int y2_7), (3, .int y3_7)] → (tu2 (F_X11_widest_7 n_7 y1_7 y2_7 y3_7 (G.2.1 (g.2.2 70)) (G.2.1 (g.2.2 71)) (G.2.1 (g.2.2 72)) (G.1 20)) (fun z1 z2 => (if z2 ≤ (0 : Int32) then z1 else z1))) = F_X11_widest (G.2.1 (g.2.2 70)) (G.2.1 (g.2.2 71)) (G.2.1 (g.2.2 72)) (G.1 20) → HT g Ty G_7 H → va_S (AF Ty s.heap.size) s.heap H locs → Wm p l e (wsG yX11_widest cX11_widest 9 (some .int)) ({ frames := 4, cells := 0, slots := 0, locals := 92 }) s m [.ref h0] below meth c H locs (0) (0) (QwI g Ty s.heap.size (fun r u => u.1 = Ty ∧ FR [27] [] [] G u.2 ∧ F_X11_widest (G.2.1 (g.2.2 70)) (G.2.1 (g.2.2 71)) (G.2.1 (g.2.2 72)) (G.1 20) = r)) 0 0 (AF Ty s.heap.size) (F0 m 7 ls []) := by
    intro n_7
    induction n_7 with
    | zero => intro H locs G_7 y1_7 y2_7 y3_7 ls frL_7 ry1_7 ry2_7 ry3_7 hm; exact absurd hm (Nat.not_lt_zero _)
    | succ n_7 ih_7 =>
      intro H locs G_7 y1_7 y2_7 y3_7 ls frL_7 ry1_7 ry2_7 ry3_7 hm_7 hl hv hH hS
      have L_44 : ∀ (n_44 : Nat) (H : Heap) (locs : List Loc) (G_44 : Gh) (y1_44 : Int32) (y2_44 : Int32) (y4_44 : Int32) (y5_44 : Int32) (y6_44 : Int32) (ls : Array Slot), FR [27] [] [] G G_44 → rgI (-2) (2147483647) y1_44 → rgI (0) (63) y2_44 → rgI (0) (3) y3_7 → rgI (0) (24) y6_44 → (24 - (y6_44).toInt).toNat < n_44 → lv_has ls 9 [(0, .ref h0), (1, .int y1_44), (2, .int y2_44), (3, .int y3_7), (4, .int y4_44), (5, .int y5_44), (6, .int y6_44)] → (tu2 (F_X11_widest_44 n_44 y1_44 y2_44 y3_7 y4_44 y5_44 y6_44 (G.2.1 (g.2.2 70)) (G.2.1 (g.2.2 71)) (G.2.1 (g.2.2 72)) (G.1 20)) (fun z3 z4 => (tu2 (F_X11_widest_7 n_7 z3 z4 (y3_7 + (1 : Int32)) (G.2.1 (g.2.2 70)) (G.2.1 (g.2.2 71)) (G.2.1 (g.2.2 72)) (G.1 20)) (fun z5 z6 => (if z6 ≤ (0 : Int32) then z5 else z5))))) = F_X11_widest (G.2.1 (g.2.2 70)) (G.2.1 (g.2.2 71)) (G.2.1 (g.2.2 72)) (G.1 20) → HT g Ty G_44 H → va_S (AF Ty s.heap.size) s.heap H locs → Wm p l e (wsG yX11_widest cX11_widest 9 (some .int)) ({ frames := 4, cells := 0, slots := 0, locals := 92 }) s m [.ref h0] below meth c H locs (0) (0) (QwI g Ty s.heap.size (fun r u => u.1 = Ty ∧ FR [27] [] [] G u.2 ∧ F_X11_widest (G.2.1 (g.2.2 70)) (G.2.1 (g.2.2 71)) (G.2.1 (g.2.2 72)) (G.1 20) = r)) 0 0 (AF Ty s.heap.size) (F0 m 44 ls []) := by
        intro n_44
        induction n_44 with
        | zero => intro H locs G_44 y1_44 y2_44 y4_44 y5_44 y6_44 ls frL_44 ry1_44 ry2_44 ry3_44 ry6_44 hm; exact absurd hm (Nat.not_lt_zero _)
        | succ n_44 ih_44 =>
          intro H locs G_44 y1_44 y2_44 y4_44 y5_44 y6_44 ls frL_44 ry1_44 ry2_44 ry3_44 ry6_44 hm_44 hl hv hH hS
          have L_156 : ∀ (H : Heap) (locs : List Loc) (G_156 : Gh) (y1_156 : Int32) (y2_156 : Int32) (ls : Array Slot), FR [27] [] [] G G_156 → rgI (-2) (2147483647) y1_156 → rgI (0) (63) y2_156 → rgI (0) (3) y3_7 → rgI (0) (23) y6_44 → lv_has ls 9 [(0, .ref h0), (1, .int y1_156), (2, .int y2_156), (3, .int y3_7), (4, .int y4_44), (5, .int y5_44), (6, .int y6_44)] → (tu2 (F_X11_widest_44 n_44 y1_156 y2_156 y3_7 y4_44 y5_44 (y6_44 + (1 : Int32)) (G.2.1 (g.2.2 70)) (G.2.1 (g.2.2 71)) (G.2.1 (g.2.2 72)) (G.1 20)) (fun z7 z8 => (tu2 (F_X11_widest_7 n_7 z7 z8 (y3_7 + (1 : Int32)) (G.2.1 (g.2.2 70)) (G.2.1 (g.2.2 71)) (G.2.1 (g.2.2 72)) (G.1 20)) (fun z9 z10 => (if z10 ≤ (0 : Int32) then z9 else z9))))) = F_X11_widest (G.2.1 (g.2.2 70)) (G.2.1 (g.2.2 71)) (G.2.1 (g.2.2 72)) (G.1 20) → HT g Ty G_156 H → va_S (AF Ty s.heap.size) s.heap H locs → Wm p l e (wsG yX11_widest cX11_widest 9 (some .int)) ({ frames := 4, cells := 0, slots := 0, locals := 92 }) s m [.ref h0] below meth c H locs (0) (0) (QwI g Ty s.heap.size (fun r u => u.1 = Ty ∧ FR [27] [] [] G u.2 ∧ F_X11_widest (G.2.1 (g.2.2 70)) (G.2.1 (g.2.2 71)) (G.2.1 (g.2.2 72)) (G.1 20) = r)) 0 0 (AF Ty s.heap.size) (F0 m 156 ls []) := by
            intro H locs G_156 y1_156 y2_156 ls frL_156 ry1_156 ry2_156 ry3_156 ry6_156 hl hv hH hS
            obtain ⟨x_1, ex_1⟩ : ∃ y : Int32, y = y6_44 + 1 := ⟨_, rfl⟩
            try rw [← ex_1] at hv
            have rx_1 : rgI (1) (24) x_1 := by rw [ex_1]; exact rg_w (rg_add ry6_156 rl_1 (by decide) (by decide)) (by decide) (by decide)
            have qx_1 : x_1.toInt = (y6_44 : Int32).toInt + 1 := by rw [ex_1]; exact rg_addE ry6_156 rl_1 (by decide) (by decide)
            refine lv_iinc (v := x_1) (lv' := [(6, .int x_1), (0, .ref h0), (1, .int y1_156), (2, .int y2_156), (3, .int y3_7), (4, .int y4_44), (5, .int y5_44)]) hx hb dX11_widest_156 hl (k := 6) rfl (by rw [ex_1]; rfl) (by decide) rfl (fun ls hl => ?_)
            refine lv_goto (tgt := 44) hx hb dX11_widest_159 (by decide) ?_
            exact ih_44 H locs G_156 y1_156 y2_156 y4_44 y5_44 x_1 ls frL_156 ry1_156 ry2_156 ry3_156 (rg_w rx_1 (by decide) (by decide)) (by have h1 := qx_1; have h2 := ry6_156.1; have h3 := ry6_156.2; have h4 := hm_44; omega) (lv_sub hl [1, 2, 3, 4, 5, 6, 0] rfl) hv hH hS
          have L_123 : ∀ (H : Heap) (locs : List Loc) (G_123 : Gh) (y1_123 : Int32) (y2_123 : Int32) (y7_123 : Int32) (z0_123 : Int32) (ls : Array Slot), FR [27] [] [] G G_123 → rgI (-2) (2147483647) y1_123 → rgI (0) (63) y2_123 → rgI (0) (3) y3_7 → rgI (0) (23) y6_44 → rgI (0) (63) y7_123 → rgI (0) (1) z0_123 → lv_has ls 9 [(0, .ref h0), (1, .int y1_123), (2, .int y2_123), (3, .int y3_7), (4, .int y4_44), (5, .int y5_44), (6, .int y6_44), (7, .int y7_123)] → (tu2 (if z0_123 = (0 : Int32) then (F_X11_widest_44 n_44 y1_123 y2_123 y3_7 y4_44 y5_44 (y6_44 + (1 : Int32)) (G.2.1 (g.2.2 70)) (G.2.1 (g.2.2 71)) (G.2.1 (g.2.2 72)) (G.1 20)) else (if (24 : Int32) < ((F_X10_size (G.1 20)) + y7_123) then (F_X11_widest_44 n_44 y1_123 y2_123 y3_7 y4_44 y5_44 (y6_44 + (1 : Int32)) (G.2.1 (g.2.2 70)) (G.2.1 (g.2.2 71)) (G.2.1 (g.2.2 72)) (G.1 20)) else (F_X11_widest_44 n_44 (((10 : Int32) * y6_44) + y3_7) y7_123 y3_7 y4_44 y5_44 (y6_44 + (1 : Int32)) (G.2.1 (g.2.2 70)) (G.2.1 (g.2.2 71)) (G.2.1 (g.2.2 72)) (G.1 20)))) (fun z11 z12 => (tu2 (F_X11_widest_7 n_7 z11 z12 (y3_7 + (1 : Int32)) (G.2.1 (g.2.2 70)) (G.2.1 (g.2.2 71)) (G.2.1 (g.2.2 72)) (G.1 20)) (fun z13 z14 => (if z14 ≤ (0 : Int32) then z13 else z13))))) = F_X11_widest (G.2.1 (g.2.2 70)) (G.2.1 (g.2.2 71)) (G.2.1 (g.2.2 72)) (G.1 20) → HT g Ty G_123 H → va_S (AF Ty s.heap.size) s.heap H locs → Wm p l e (wsG yX11_widest cX11_widest 9 (some .int)) ({ frames := 4, cells := 0, slots := 0, locals := 92 }) s m [.ref h0] below meth c H locs (0) (0) (QwI g Ty s.heap.size (fun r u => u.1 = Ty ∧ FR [27] [] [] G u.2 ∧ F_X11_widest (G.2.1 (g.2.2 70)) (G.2.1 (g.2.2 71)) (G.2.1 (g.2.2 72)) (G.1 20) = r)) 0 0 (AF Ty s.heap.size) (F0 m 123 ls [.int z0_123]) := by
            intro H locs G_123 y1_123 y2_123 y7_123 z0_123 ls frL_123 ry1_123 ry2_123 ry3_123 ry6_123 ry7_123 rz0_123 hl hv hH hS
            refine lv_istore (lv' := [(8, .int z0_123), (0, .ref h0), (1, .int y1_123), (2, .int y2_123), (3, .int y3_7), (4, .int y4_44), (5, .int y5_44), (6, .int y6_44), (7, .int y7_123)]) hx hb dX11_widest_123 hl (by decide) rfl (fun ls hl => ?_)
            refine lv_iload hx hb dX11_widest_125 (lv_at hl 0 rfl) ?_
            refine lv_if_eq (tgt := 156) hx hb dX11_widest_127 (by decide) (fun c_2 => ?_) (fun c_2 => ?_)
            · rw [if_pos c_2] at hv
              have r_3 : rgI (0) (0) z0_123 := rg_w (rg_eq rl_0 c_2) (by decide) (by decide)
              exact L_156 H locs G_123 y1_123 y2_123 ls frL_123 ry1_123 ry2_123 ry3_123 ry6_123 (lv_sub hl [1, 2, 3, 4, 5, 6, 7] rfl) hv hH hS
            · rw [if_neg c_2] at hv
              have r_4 : rgI (1) (1) z0_123 := rg_w (rg_neL rz0_123 rl_0 c_2) (by decide) (by decide)
              refine lv_aload_n hx hb dX11_widest_130 rfl (lv_at hl 1 rfl) ?_
              obtain ⟨_, ⟨rfl, kq_6, kq_7, kq_8, kq_9, kq_10, kq_11, kq_12, kq_13, kq_14, kq_15, kq_16, kq_17, kq_18, kq_19, t_21⟩, o_c_5⟩ := hH h0 _ k_h0
              refine hg_get hx hb hG igX11 hown hK o_c_5 rfl 0 (by decide) (hG _ mw_357) rfl dX11_widest_131 ?_
              obtain ⟨_, ⟨rfl, kq_23, kq_24, kq_25, t_30⟩, o_c_22⟩ := hH (g.2.2 0) _ kq_6
              refine vp_callSi (W.runV (As := []) (rest := []) ⟨hx, hb, hml, hown, hts⟩ (c_X10_size l g Ty G_123 (g.2.2 0) kq_6) (cwV 0 hts (gwV mw_901 mw_709 mw_710 mw_77 mw_711) rfl rfl rfl hv_X10_size ⟨Nat.le_of_ble_eq_true rfl, Nat.le_of_ble_eq_true rfl⟩) ⟨PcH_blind, hg_recv hK o_c_22 rfl, PcH_pre hK hH⟩ rfl rfl hl.1 rfl (lv_room (Nat.le_of_ble_eq_true rfl)) dX11_widest_134 ⟨Nat.zero_le _, Nat.zero_le _⟩) (fun x_31 hx_31 => ?_)
              try rw [← hx_31] at hv
              have ex_32 : x_31 = F_X10_size (G.1 20) := hx_31.trans (by rw [(frL_123.1 20 (by decide))])
              try rw [← ex_32] at hv
              refine lv_iload hx hb dX11_widest_137 (lv_at hl 8 rfl) ?_
              refine lv_iadd hx hb dX11_widest_139 ?_
              refine lv_topi (fun x_33 ex_33 => ?_)
              try rw [← ex_33] at hv
              refine lv_bipush (v := 24) hx hb dX11_widest_140 (by decide) ?_
              refine lv_icmp_gt (tgt := 156) hx hb dX11_widest_142 (by decide) (fun c_34 => ?_) (fun c_34 => ?_)
              · rw [if_pos c_34] at hv
                have r_35 : rgI (25) (2147483647) x_33 := rg_w (rg_ltR rl_24 (rg_top x_33) c_34) (by decide) (by decide)
                exact L_156 H locs G_123 y1_123 y2_123 ls frL_123 ry1_123 ry2_123 ry3_123 ry6_123 (lv_sub hl [1, 2, 3, 4, 5, 6, 7] rfl) hv hH hS
              · rw [if_neg c_34] at hv
                have r_36 : rgI (-2147483648) (24) x_33 := rg_w (rg_leL (rg_top x_33) rl_24 (nlt_le c_34)) (by decide) (by decide)
                refine lv_iload hx hb dX11_widest_145 (lv_at hl 8 rfl) ?_
                refine lv_istore_n (lv' := [(2, .int y7_123), (8, .int z0_123), (0, .ref h0), (1, .int y1_123), (3, .int y3_7), (4, .int y4_44), (5, .int y5_44), (6, .int y6_44), (7, .int y7_123)]) hx hb dX11_widest_147 rfl hl (by decide) rfl (fun ls hl => ?_)
                refine lv_bipush (v := 10) hx hb dX11_widest_148 (by decide) ?_
                refine lv_iload hx hb dX11_widest_150 (lv_at hl 7 rfl) ?_
                refine lv_imul hx hb dX11_widest_152 ?_
                refine lv_topi (fun x_37 ex_37 => ?_)
                try rw [← ex_37] at hv
                have rx_37 : rgI (0) (230) x_37 := by rw [ex_37]; exact rg_w (rg_mul rl_10 ry6_123 (by decide) (by decide) (by decide)) (by decide) (by decide)
                refine lv_iload_n hx hb dX11_widest_153 rfl (lv_at hl 4 rfl) ?_
                refine lv_iadd hx hb dX11_widest_154 ?_
                refine lv_topi (fun x_38 ex_38 => ?_)
                try rw [← ex_38] at hv
                have rx_38 : rgI (0) (233) x_38 := by rw [ex_38]; exact rg_w (rg_add rx_37 ry3_123 (by decide) (by decide)) (by decide) (by decide)
                refine lv_istore_n (lv' := [(1, .int x_38), (2, .int y7_123), (8, .int z0_123), (0, .ref h0), (3, .int y3_7), (4, .int y4_44), (5, .int y5_44), (6, .int y6_44), (7, .int y7_123)]) hx hb dX11_widest_155 rfl hl (by decide) rfl (fun ls hl => ?_)
                exact L_156 H locs G_123 x_38 y7_123 ls frL_123 (rg_w rx_38 (by decide) (by decide)) ry7_123 ry3_123 ry6_123 (lv_sub hl [3, 0, 1, 4, 5, 6, 7] rfl) hv hH hS
          have L_122 : ∀ (H : Heap) (locs : List Loc) (G_122 : Gh) (y1_122 : Int32) (y2_122 : Int32) (y7_122 : Int32) (ls : Array Slot), FR [27] [] [] G G_122 → rgI (-2) (2147483647) y1_122 → rgI (0) (63) y2_122 → rgI (0) (3) y3_7 → rgI (0) (23) y6_44 → rgI (0) (63) y7_122 → lv_has ls 9 [(0, .ref h0), (1, .int y1_122), (2, .int y2_122), (3, .int y3_7), (4, .int y4_44), (5, .int y5_44), (6, .int y6_44), (7, .int y7_122)] → (tu2 (F_X11_widest_44 n_44 y1_122 y2_122 y3_7 y4_44 y5_44 (y6_44 + (1 : Int32)) (G.2.1 (g.2.2 70)) (G.2.1 (g.2.2 71)) (G.2.1 (g.2.2 72)) (G.1 20)) (fun z15 z16 => (tu2 (F_X11_widest_7 n_7 z15 z16 (y3_7 + (1 : Int32)) (G.2.1 (g.2.2 70)) (G.2.1 (g.2.2 71)) (G.2.1 (g.2.2 72)) (G.1 20)) (fun z17 z18 => (if z18 ≤ (0 : Int32) then z17 else z17))))) = F_X11_widest (G.2.1 (g.2.2 70)) (G.2.1 (g.2.2 71)) (G.2.1 (g.2.2 72)) (G.1 20) → HT g Ty G_122 H → va_S (AF Ty s.heap.size) s.heap H locs → Wm p l e (wsG yX11_widest cX11_widest 9 (some .int)) ({ frames := 4, cells := 0, slots := 0, locals := 92 }) s m [.ref h0] below meth c H locs (0) (0) (QwI g Ty s.heap.size (fun r u => u.1 = Ty ∧ FR [27] [] [] G u.2 ∧ F_X11_widest (G.2.1 (g.2.2 70)) (G.2.1 (g.2.2 71)) (G.2.1 (g.2.2 72)) (G.1 20) = r)) 0 0 (AF Ty s.heap.size) (F0 m 122 ls []) := by
            intro H locs G_122 y1_122 y2_122 y7_122 ls frL_122 ry1_122 ry2_122 ry3_122 ry6_122 ry7_122 hl hv hH hS
            refine lv_iconst (v := 0) hx hb dX11_widest_122 (by decide) ?_
            exact L_123 H locs G_122 y1_122 y2_122 y7_122 0 ls frL_122 ry1_122 ry2_122 ry3_122 ry6_122 ry7_122 (rg_w rl_0 (by decide) (by decide)) (lv_sub hl [0, 1, 2, 3, 4, 5, 6, 7] rfl) hv hH hS
          have L_118 : ∀ (H : Heap) (locs : List Loc) (G_118 : Gh) (y1_118 : Int32) (y2_118 : Int32) (y7_118 : Int32) (ls : Array Slot), FR [27] [] [] G G_118 → rgI (-2) (2147483647) y1_118 → rgI (0) (63) y2_118 → rgI (0) (3) y3_7 → rgI (0) (23) y6_44 → rgI (0) (63) y7_118 → lv_has ls 9 [(0, .ref h0), (1, .int y1_118), (2, .int y2_118), (3, .int y3_7), (4, .int y4_44), (5, .int y5_44), (6, .int y6_44), (7, .int y7_118)] → (tu2 (if (24 : Int32) < ((F_X10_size (G.1 20)) + y7_118) then (F_X11_widest_44 n_44 y1_118 y2_118 y3_7 y4_44 y5_44 (y6_44 + (1 : Int32)) (G.2.1 (g.2.2 70)) (G.2.1 (g.2.2 71)) (G.2.1 (g.2.2 72)) (G.1 20)) else (F_X11_widest_44 n_44 (((10 : Int32) * y6_44) + y3_7) y7_118 y3_7 y4_44 y5_44 (y6_44 + (1 : Int32)) (G.2.1 (g.2.2 70)) (G.2.1 (g.2.2 71)) (G.2.1 (g.2.2 72)) (G.1 20))) (fun z19 z20 => (tu2 (F_X11_widest_7 n_7 z19 z20 (y3_7 + (1 : Int32)) (G.2.1 (g.2.2 70)) (G.2.1 (g.2.2 71)) (G.2.1 (g.2.2 72)) (G.1 20)) (fun z21 z22 => (if z22 ≤ (0 : Int32) then z21 else z21))))) = F_X11_widest (G.2.1 (g.2.2 70)) (G.2.1 (g.2.2 71)) (G.2.1 (g.2.2 72)) (G.1 20) → HT g Ty G_118 H → va_S (AF Ty s.heap.size) s.heap H locs → Wm p l e (wsG yX11_widest cX11_widest 9 (some .int)) ({ frames := 4, cells := 0, slots := 0, locals := 92 }) s m [.ref h0] below meth c H locs (0) (0) (QwI g Ty s.heap.size (fun r u => u.1 = Ty ∧ FR [27] [] [] G u.2 ∧ F_X11_widest (G.2.1 (g.2.2 70)) (G.2.1 (g.2.2 71)) (G.2.1 (g.2.2 72)) (G.1 20) = r)) 0 0 (AF Ty s.heap.size) (F0 m 118 ls []) := by
            intro H locs G_118 y1_118 y2_118 y7_118 ls frL_118 ry1_118 ry2_118 ry3_118 ry6_118 ry7_118 hl hv hH hS
            refine lv_iconst (v := 1) hx hb dX11_widest_118 (by decide) ?_
            refine lv_goto (tgt := 123) hx hb dX11_widest_119 (by decide) ?_
            exact L_123 H locs G_118 y1_118 y2_118 y7_118 1 ls frL_118 ry1_118 ry2_118 ry3_118 ry6_118 ry7_118 (rg_w rl_1 (by decide) (by decide)) (lv_sub hl [0, 1, 2, 3, 4, 5, 6, 7] rfl) hv hH hS
          rw [F_X11_widest_44] at hv
          refine lv_iload hx hb dX11_widest_44 (lv_at hl 6 rfl) ?_
          refine lv_bipush (v := 24) hx hb dX11_widest_46 (by decide) ?_
          refine lv_icmp_ge (tgt := 162) hx hb dX11_widest_48 (by decide) (fun c_39 => ?_) (fun c_39 => ?_)
          · rw [if_pos c_39] at hv
            have r_40 : rgI (24) (24) y6_44 := rg_w (rg_leR rl_24 ry6_44 c_39) (by decide) (by decide)
            rw [tu2_eq] at hv
            obtain ⟨x_41, ex_41⟩ : ∃ y : Int32, y = y3_7 + 1 := ⟨_, rfl⟩
            try rw [← ex_41] at hv
            have rx_41 : rgI (1) (4) x_41 := by rw [ex_41]; exact rg_w (rg_add ry3_44 rl_1 (by decide) (by decide)) (by decide) (by decide)
            have qx_41 : x_41.toInt = (y3_7 : Int32).toInt + 1 := by rw [ex_41]; exact rg_addE ry3_44 rl_1 (by decide) (by decide)
            refine lv_iinc (v := x_41) (lv' := [(3, .int x_41), (0, .ref h0), (1, .int y1_44), (2, .int y2_44), (4, .int y4_44), (5, .int y5_44), (6, .int y6_44)]) hx hb dX11_widest_162 hl (k := 3) rfl (by rw [ex_41]; rfl) (by decide) rfl (fun ls hl => ?_)
            refine lv_goto (tgt := 7) hx hb dX11_widest_165 (by decide) ?_
            exact ih_7 H locs G_44 y1_44 y2_44 x_41 ls frL_44 ry1_44 ry2_44 (rg_w rx_41 (by decide) (by decide)) (by have h1 := qx_41; have h2 := ry3_44.1; have h3 := ry3_44.2; have h4 := hm_7; omega) (lv_sub hl [1, 2, 3, 0] rfl) hv hH hS
          · rw [if_neg c_39] at hv
            have r_42 : rgI (0) (23) y6_44 := rg_w (rg_ltL ry6_44 rl_24 (nle_lt c_39)) (by decide) (by decide)
            refine lv_aload_n hx hb dX11_widest_51 rfl (lv_at hl 0 rfl) ?_
            obtain ⟨_, ⟨rfl, kq_44, kq_45, kq_46, kq_47, kq_48, kq_49, kq_50, kq_51, kq_52, kq_53, kq_54, kq_55, kq_56, kq_57, t_59⟩, o_c_43⟩ := hH h0 _ k_h0
            refine hg_get hx hb hG igX11 hown hK o_c_43 rfl 0 (by decide) (hG _ mw_357) rfl dX11_widest_52 ?_
            refine lv_iload hx hb dX11_widest_55 (lv_at hl 6 rfl) ?_
            obtain ⟨_, ⟨rfl, kq_61, kq_62, kq_63, t_68⟩, o_c_60⟩ := hH (g.2.2 0) _ kq_44
            refine vp_callSi (W.runV (As := [.int y6_44]) (rest := []) ⟨hx, hb, hml, hown, hts⟩ (c_X10_has l g Ty G_44 (g.2.2 0) y6_44 kq_44) (cwV 1 hts (gwV mw_603 mw_604 mw_605 mw_77 mw_606) rfl rfl rfl hv_X10_has ⟨Nat.le_of_ble_eq_true rfl, Nat.le_of_ble_eq_true rfl⟩) ⟨PcH_blind, hg_recv hK o_c_60 rfl, PcH_pre hK hH⟩ rfl rfl hl.1 rfl (lv_room (Nat.le_of_ble_eq_true rfl)) dX11_widest_57 ⟨Nat.zero_le _, Nat.zero_le _⟩) (fun x_69 hx_69 => ?_)
            have rx_69 : rgI (0) (1) x_69 := hx_69.1
            try rw [← hx_69.2.2] at hv
            have ex_70 : x_69 = F_X10_has (G.1 20) y6_44 := hx_69.2.2.trans (by rw [(frL_44.1 20 (by decide))])
            try rw [← ex_70] at hv
            refine lv_if_eq (tgt := 156) hx hb dX11_widest_60 (by decide) (fun c_71 => ?_) (fun c_71 => ?_)
            · rw [if_pos c_71] at hv
              have r_72 : rgI (0) (0) x_69 := rg_w (rg_eq rl_0 c_71) (by decide) (by decide)
              exact L_156 H locs G_44 y1_44 y2_44 ls frL_44 ry1_44 ry2_44 ry3_44 r_42 (lv_sub hl [0, 1, 2, 3, 4, 5, 6] rfl) hv hH hS
            · rw [if_neg c_71] at hv
              have r_73 : rgI (1) (1) x_69 := rg_w (rg_neL rx_69 rl_0 c_71) (by decide) (by decide)
              refine lv_iload hx hb dX11_widest_63 (lv_at hl 4 rfl) ?_
              refine lv_iconst (v := 1) hx hb dX11_widest_65 (by decide) ?_
              refine lv_iload hx hb dX11_widest_66 (lv_at hl 6 rfl) ?_
              refine lv_ishl hx hb dX11_widest_68 ?_
              refine lv_topi (fun x_74 ex_74 => ?_)
              try rw [← ex_74] at hv
              refine lv_iand hx hb dX11_widest_69 ?_
              refine lv_topi (fun x_75 ex_75 => ?_)
              try rw [← ex_75] at hv
              refine lv_if_ne (tgt := 156) hx hb dX11_widest_70 (by decide) (fun c_76 => ?_) (fun c_76 => ?_)
              · rw [if_neg c_76] at hv
                exact L_156 H locs G_44 y1_44 y2_44 ls frL_44 ry1_44 ry2_44 ry3_44 r_42 (lv_sub hl [0, 1, 2, 3, 4, 5, 6] rfl) hv hH hS
              · rw [if_pos c_76] at hv
                have r_77 : rgI (0) (0) x_75 := rg_w (rg_eq rl_0 c_76) (by decide) (by decide)
                refine lv_aload_n hx hb dX11_widest_73 rfl (lv_at hl 0 rfl) ?_
                refine hg_get hx hb hG igX11 hown hK o_c_43 rfl 0 (by decide) (hG _ mw_357) rfl dX11_widest_74 ?_
                refine lv_iload hx hb dX11_widest_77 (lv_at hl 6 rfl) ?_
                refine vp_callSi (W.runV (As := [.int y6_44]) (rest := []) ⟨hx, hb, hml, hown, hts⟩ (c_X10_spreadOf l g Ty G_44 (g.2.2 0) y6_44 kq_44) (cwV 1 hts (gwV mw_914 mw_650 mw_651 mw_77 mw_652) rfl rfl rfl hv_X10_spreadOf ⟨Nat.le_of_ble_eq_true rfl, Nat.le_of_ble_eq_true rfl⟩) ⟨PcH_blind, hg_recv hK o_c_60 rfl, PcH_pre hK hH⟩ rfl rfl hl.1 rfl (lv_room (Nat.le_of_ble_eq_true rfl)) dX11_widest_79 ⟨Nat.zero_le _, Nat.zero_le _⟩) (fun x_78 hx_78 => ?_)
                try rw [← hx_78] at hv
                have ex_79 : x_78 = F_X10_spreadOf (G.2.1 (g.2.2 71)) (G.2.1 (g.2.2 72)) y6_44 := hx_78.trans (by rw [(frL_44.2.1 (g.2.2 71) trivial), (frL_44.2.1 (g.2.2 72) trivial)])
                try rw [← ex_79] at hv
                refine lv_iload hx hb dX11_widest_82 (lv_at hl 5 rfl) ?_
                refine lv_iand hx hb dX11_widest_84 ?_
                refine lv_topi (fun x_80 ex_80 => ?_)
                try rw [← ex_80] at hv
                refine lv_iconst (v := 1) hx hb dX11_widest_85 (by decide) ?_
                refine lv_iload hx hb dX11_widest_86 (lv_at hl 6 rfl) ?_
                refine lv_ishl hx hb dX11_widest_88 ?_
                refine lv_topi (fun x_81 ex_81 => ?_)
                try rw [← ex_81] at hv
                have q_82 : x_74 = x_81 := ex_74.trans ex_81.symm
                subst q_82
                refine lv_ior hx hb dX11_widest_89 ?_
                refine lv_topi (fun x_83 ex_83 => ?_)
                try rw [← ex_83] at hv
                refine vp_callSi (W.runS (As := [.int x_83]) (rest := []) ⟨hx, hb, hml, hown, hts⟩ (c_J6_bitCount_x l g Ty G_44 x_83 ) (cwSx 1 hts hG (gwC mw_620) mw_99 mw_618 mw_619 rfl rfl rfl hd_J6_bitCount_0f7a4 ⟨Nat.le_of_ble_eq_true rfl, Nat.le_of_ble_eq_true rfl⟩) ⟨PcH_blind, PcH_pre hK hH⟩ rfl rfl hl.1 rfl (lv_room (Nat.le_of_ble_eq_true rfl)) dX11_widest_90 ⟨Nat.zero_le _, Nat.zero_le _⟩) (fun x_84 hx_84 => ?_)
                have rx_84 : rgI (0) (63) x_84 := hx_84.1
                try rw [← hx_84.2] at hv
                try rw [← hx_84.2] at hv
                refine lv_istore (lv' := [(7, .int x_84), (0, .ref h0), (1, .int y1_44), (2, .int y2_44), (3, .int y3_7), (4, .int y4_44), (5, .int y5_44), (6, .int y6_44)]) hx hb dX11_widest_93 hl (by decide) rfl (fun ls hl => ?_)
                refine lv_iload hx hb dX11_widest_95 (lv_at hl 0 rfl) ?_
                refine lv_iload_n hx hb dX11_widest_97 rfl (lv_at hl 3 rfl) ?_
                refine lv_icmp_gt (tgt := 118) hx hb dX11_widest_98 (by decide) (fun c_85 => ?_) (fun c_85 => ?_)
                · rw [if_pos c_85] at hv
                  have r_86 : rgI (0) (62) y2_44 := rg_w (rg_ltL ry2_44 rx_84 c_85) (by decide) (by decide)
                  have r_87 : rgI (1) (63) x_84 := rg_w (rg_ltR ry2_44 rx_84 c_85) (by decide) (by decide)
                  try rw [ex_83] at hv
                  try rw [ex_81] at hv
                  exact L_118 H locs G_44 y1_44 y2_44 x_84 ls frL_44 ry1_44 (rg_w r_86 (by decide) (by decide)) ry3_44 r_42 (rg_w r_87 (by decide) (by decide)) (lv_sub hl [1, 2, 3, 4, 5, 6, 7, 0] rfl) hv hH hS
                · rw [if_neg c_85] at hv
                  refine lv_iload hx hb dX11_widest_101 (lv_at hl 0 rfl) ?_
                  refine lv_iload_n hx hb dX11_widest_103 rfl (lv_at hl 3 rfl) ?_
                  refine lv_icmp_ne (tgt := 122) hx hb dX11_widest_104 (by decide) (fun c_88 => ?_) (fun c_88 => ?_)
                  · rw [if_neg c_88] at hv
                    exact L_122 H locs G_44 y1_44 y2_44 x_84 ls frL_44 ry1_44 ry2_44 ry3_44 r_42 rx_84 (lv_sub hl [1, 2, 3, 4, 5, 6, 7, 0] rfl) hv hH hS
                  · rw [if_pos c_88] at hv
                    refine lv_bipush (v := 10) hx hb dX11_widest_107 (by decide) ?_
                    refine lv_iload hx hb dX11_widest_109 (lv_at hl 7 rfl) ?_
                    refine lv_imul hx hb dX11_widest_111 ?_
                    refine lv_topi (fun x_89 ex_89 => ?_)
                    try rw [← ex_89] at hv
                    have rx_89 : rgI (0) (230) x_89 := by rw [ex_89]; exact rg_w (rg_mul rl_10 r_42 (by decide) (by decide) (by decide)) (by decide) (by decide)
                    refine lv_iload_n hx hb dX11_widest_112 rfl (lv_at hl 4 rfl) ?_
                    refine lv_iadd hx hb dX11_widest_113 ?_
                    refine lv_topi (fun x_90 ex_90 => ?_)
                    try rw [← ex_90] at hv
                    have rx_90 : rgI (0) (233) x_90 := by rw [ex_90]; exact rg_w (rg_add rx_89 ry3_44 (by decide) (by decide)) (by decide) (by decide)
                    refine lv_iload_n hx hb dX11_widest_114 rfl (lv_at hl 2 rfl) ?_
                    refine lv_icmp_ge (tgt := 122) hx hb dX11_widest_115 (by decide) (fun c_91 => ?_) (fun c_91 => ?_)
                    · rw [if_pos c_91] at hv
                      have r_92 : rgI (-2) (233) y1_44 := rg_w (rg_leL ry1_44 rx_90 c_91) (by decide) (by decide)
                      exact L_122 H locs G_44 y1_44 y2_44 x_84 ls frL_44 (rg_w r_92 (by decide) (by decide)) ry2_44 ry3_44 r_42 rx_84 (lv_sub hl [1, 2, 3, 4, 5, 6, 7, 0] rfl) hv hH hS
                    · rw [if_neg c_91] at hv
                      have r_93 : rgI (1) (2147483647) y1_44 := rg_w (rg_ltR rx_90 ry1_44 (nle_lt c_91)) (by decide) (by decide)
                      try rw [ex_90] at hv
                      try rw [ex_89] at hv
                      exact L_118 H locs G_44 y1_44 y2_44 x_84 ls frL_44 (rg_w r_93 (by decide) (by decide)) ry2_44 ry3_44 r_42 rx_84 (lv_sub hl [1, 2, 3, 4, 5, 6, 7, 0] rfl) hv hH hS
      rw [F_X11_widest_7] at hv
      refine lv_iload_n hx hb dX11_widest_7 rfl (lv_at hl 3 rfl) ?_
      refine lv_iconst (v := 4) hx hb dX11_widest_8 (by decide) ?_
      refine lv_icmp_ge (tgt := 168) hx hb dX11_widest_9 (by decide) (fun c_94 => ?_) (fun c_94 => ?_)
      · rw [if_pos c_94] at hv
        have r_95 : rgI (4) (4) y3_7 := rg_w (rg_leR rl_4 ry3_7 c_94) (by decide) (by decide)
        rw [tu2_eq] at hv
        refine lv_iload_n hx hb dX11_widest_168 rfl (lv_at hl 2 rfl) ?_
        refine lv_if_le (tgt := 181) hx hb dX11_widest_169 (by decide) (fun c_96 => ?_) (fun c_96 => ?_)
        · rw [if_pos c_96] at hv
          have r_97 : rgI (0) (0) y2_7 := rg_w (rg_leL ry2_7 rl_0 c_96) (by decide) (by decide)
          exact L_181 H locs G_7 y1_7 ls frL_7 ry1_7 (lv_sub hl [1] rfl) hv hH hS
        · rw [if_neg c_96] at hv
          have r_98 : rgI (1) (63) y2_7 := rg_w (rg_ltR rl_0 ry2_7 (nle_lt c_96)) (by decide) (by decide)
          refine lv_aload_n hx hb dX11_widest_172 rfl (lv_at hl 0 rfl) ?_
          obtain ⟨_, ⟨rfl, kq_100, kq_101, kq_102, kq_103, kq_104, kq_105, kq_106, kq_107, kq_108, kq_109, kq_110, kq_111, kq_112, kq_113, t_115⟩, o_c_99⟩ := hH h0 _ k_h0
          refine hg_get hx hb hG igX11 hown hK o_c_99 rfl 5 (by decide) (hG _ mw_362) rfl dX11_widest_173 ?_
          refine lv_iload_n hx hb dX11_widest_176 rfl (lv_at hl 2 rfl) ?_
          refine lv_i2l hx hb dX11_widest_177 rfl ?_
          refine lv_topl (fun u_116 eu_116 => ?_)
          obtain ⟨_, ⟨q_118, rfl, kq_118, rq_119, t_120⟩, o_c_117⟩ := hH (g.2.2 5) _ kq_105
          refine va_callv (va_runV (As := [.long u_116]) (rest := []) ⟨hx, hb, hml, hown, hts⟩ (c_X7_tell_x l g Ty G_7 H.size (g.2.2 5) u_116 kq_105 hD1) (cwV 1 hts (gwV mw_583 mw_584 mw_585 mw_80 mw_586) rfl rfl rfl hv_X7_tell ⟨Nat.le_of_ble_eq_true rfl, Nat.le_of_ble_eq_true rfl⟩) ⟨PcT_blind, hg_recv hK o_c_117 rfl, PcT_pre hK hH⟩ rfl rfl hl.1 rfl (lv_room (Nat.le_of_ble_eq_true rfl)) dX11_widest_178 ⟨Nat.zero_le _, Nat.zero_le _⟩) hS (fun q _ h => AF.mono hS.1 h) (fun q h => AF.mono hS.1 h) (fun ux_121 t H locs ht hvm hx_121 hB hz hk hS => ?_)
          obtain ⟨eTx_121, eGx_121⟩ := hx_121
          obtain ⟨G_122, eG_122⟩ : ∃ z, z = ux_121.2 := ⟨_, rfl⟩
          rw [← eG_122] at eGx_121
          obtain ⟨hfr_123, hex_124⟩ := eGx_121
          have fr_125 : FR [27] [] [] G G_122 := FR.tr frL_7 hfr_123 (by decide) (fun _ _ => trivial) (by decide)
          have u_126 : G_122.1 24 = 0 := (hfr_123.1 24 (by decide)).trans ((frL_7.1 24 (by decide)).trans h24)
          have u_127 : G_122.1 20 = (G.1 20) := (hfr_123.1 20 (by decide)).trans (frL_7.1 20 (by decide))
          have w_128 : G_122.2.1 (g.2.2 70) = (G.2.1 (g.2.2 70)) := (hfr_123.2.1 (g.2.2 70) trivial).trans (frL_7.2.1 (g.2.2 70) trivial)
          have w_129 : G_122.2.1 (g.2.2 71) = (G.2.1 (g.2.2 71)) := (hfr_123.2.1 (g.2.2 71) trivial).trans (frL_7.2.1 (g.2.2 71) trivial)
          have w_130 : G_122.2.1 (g.2.2 72) = (G.2.1 (g.2.2 72)) := (hfr_123.2.1 (g.2.2 72) trivial).trans (frL_7.2.1 (g.2.2 72) trivial)
          have hH : HT g Ty G_122 H := by rw [← ht, ← eTx_121, eG_122]; exact hB
          exact L_181 H locs G_122 y1_7 ls fr_125 ry1_7 (lv_sub hl [1] rfl) hv hH hS
      · rw [if_neg c_94] at hv
        have r_131 : rgI (0) (3) y3_7 := rg_w (rg_ltL ry3_7 rl_4 (nle_lt c_94)) (by decide) (by decide)
        refine lv_aload_n hx hb dX11_widest_12 rfl (lv_at hl 0 rfl) ?_
        obtain ⟨_, ⟨rfl, kq_133, kq_134, kq_135, kq_136, kq_137, kq_138, kq_139, kq_140, kq_141, kq_142, kq_143, kq_144, kq_145, kq_146, t_148⟩, o_c_132⟩ := hH h0 _ k_h0
        refine hg_get hx hb hG igX11 hown hK o_c_132 rfl 0 (by decide) (hG _ mw_357) rfl dX11_widest_13 ?_
        refine lv_iload_n hx hb dX11_widest_16 rfl (lv_at hl 3 rfl) ?_
        obtain ⟨_, ⟨rfl, kq_150, kq_151, kq_152, t_157⟩, o_c_149⟩ := hH (g.2.2 0) _ kq_133
        refine vp_callSi (W.runV (As := [.int y3_7]) (rest := []) ⟨hx, hb, hml, hown, hts⟩ (c_X10_takenAt l g Ty G_7 (g.2.2 0) y3_7 kq_133) (cwV 1 hts (gwV mw_1004 mw_646 mw_647 mw_77 mw_648) rfl rfl rfl hv_X10_takenAt ⟨Nat.le_of_ble_eq_true rfl, Nat.le_of_ble_eq_true rfl⟩) ⟨PcH_blind, hg_recv hK o_c_149 rfl, PcH_pre hK hH⟩ rfl rfl hl.1 rfl (lv_room (Nat.le_of_ble_eq_true rfl)) dX11_widest_17 ⟨Nat.zero_le _, Nat.zero_le _⟩) (fun x_158 hx_158 => ?_)
        try rw [← hx_158] at hv
        have ex_159 : x_158 = F_X10_takenAt (G.2.1 (g.2.2 70)) y3_7 := hx_158.trans (by rw [(frL_7.2.1 (g.2.2 70) trivial)])
        try rw [← ex_159] at hv
        refine lv_istore (lv' := [(4, .int x_158), (0, .ref h0), (1, .int y1_7), (2, .int y2_7), (3, .int y3_7)]) hx hb dX11_widest_20 hl (by decide) rfl (fun ls hl => ?_)
        refine lv_aload_n hx hb dX11_widest_22 rfl (lv_at hl 1 rfl) ?_
        refine hg_get hx hb hG igX11 hown hK o_c_132 rfl 6 (by decide) (hG _ mw_363) rfl dX11_widest_23 ?_
        refine lv_aload_n hx hb dX11_widest_26 rfl (lv_at hl 1 rfl) ?_
        refine hg_get hx hb hG igX11 hown hK o_c_132 rfl 0 (by decide) (hG _ mw_357) rfl dX11_widest_27 ?_
        refine lv_iload_n hx hb dX11_widest_30 rfl (lv_at hl 4 rfl) ?_
        obtain ⟨_, ⟨q_161, q_163, q_164, q_165, q_166, q_167, q_168, q_169, q_170, rfl, kq_161, kq_163, kq_169, kq_170, rq_162, rq_165, t_171⟩, o_c_160⟩ := hH (g.2.2 6) _ kq_139
        refine vp_callSi (W.runV (As := [.ref (g.2.2 0), .int y3_7]) (rest := []) ⟨hx, hb, hml, hown, hts⟩ (c_X8_letting_z l g Ty G_7 (g.2.2 6) (g.2.2 0) y3_7 kq_139 kq_133 ((frL_7.1 24 (by decide)).trans h24)) (cwV 2 hts (gwV mw_1005 mw_670 mw_671 mw_81 mw_672) rfl rfl rfl hv_X8_letting ⟨Nat.le_of_ble_eq_true rfl, Nat.le_of_ble_eq_true rfl⟩) ⟨PcH_blind, hg_recv hK o_c_160 rfl, PcH_pre hK hH⟩ rfl rfl hl.1 rfl (lv_room (Nat.le_of_ble_eq_true rfl)) dX11_widest_31 ⟨Nat.zero_le _, Nat.zero_le _⟩) (fun x_172 hx_172 => ?_)
        try rw [← hx_172] at hv
        have ex_173 : x_172 = F_X8_letting_z (G.1 20) y3_7 := hx_172.trans (by rw [(frL_7.1 20 (by decide))])
        try rw [← ex_173] at hv
        refine lv_iload hx hb dX11_widest_34 (lv_at hl 0 rfl) ?_
        refine lv_iconst (v := (-1)) hx hb dX11_widest_36 (by decide) ?_
        refine lv_ixor hx hb dX11_widest_37 ?_
        refine lv_topi (fun x_174 ex_174 => ?_)
        try rw [← ex_174] at hv
        refine lv_iand hx hb dX11_widest_38 ?_
        refine lv_topi (fun x_175 ex_175 => ?_)
        try rw [← ex_175] at hv
        refine lv_istore (lv' := [(5, .int x_175), (4, .int x_158), (0, .ref h0), (1, .int y1_7), (2, .int y2_7), (3, .int y3_7)]) hx hb dX11_widest_39 hl (by decide) rfl (fun ls hl => ?_)
        refine lv_iconst (v := 0) hx hb dX11_widest_41 (by decide) ?_
        refine lv_istore (lv' := [(6, .int 0), (5, .int x_175), (4, .int x_158), (0, .ref h0), (1, .int y1_7), (2, .int y2_7), (3, .int y3_7)]) hx hb dX11_widest_42 hl (by decide) rfl (fun ls hl => ?_)
        exact L_44 26 H locs G_7 y1_7 y2_7 x_158 x_175 0 ls frL_7 ry1_7 ry2_7 r_131 (rg_w rl_0 (by decide) (by decide)) (by decide) (lv_sub hl [3, 4, 5, 6, 2, 1, 0] rfl) hv hH hS
  refine lv_bipush (v := (-2)) hx hb dX11_widest_0 (by decide) ?_
  refine lv_istore_n (lv' := [(1, .int (-2)), (0, .ref h0)]) hx hb dX11_widest_2 rfl hl (by decide) rfl (fun ls hl => ?_)
  refine lv_iconst (v := 0) hx hb dX11_widest_3 (by decide) ?_
  refine lv_istore_n (lv' := [(2, .int 0), (1, .int (-2)), (0, .ref h0)]) hx hb dX11_widest_4 rfl hl (by decide) rfl (fun ls hl => ?_)
  refine lv_iconst (v := 0) hx hb dX11_widest_5 (by decide) ?_
  refine lv_istore_n (lv' := [(3, .int 0), (2, .int 0), (1, .int (-2)), (0, .ref h0)]) hx hb dX11_widest_6 rfl hl (by decide) rfl (fun ls hl => ?_)
  exact L_7 6 s.heap [] G (-2) 0 0 ls FR.rf (rg_w rl_m2 (by decide) (by decide)) (rg_w rl_0 (by decide) (by decide)) (rg_w rl_0 (by decide) (by decide)) (by decide) (lv_sub hl [3, 2, 1, 0] rfl) hv hH hS

def F_X11_fits (m20 : Int32) : Int32 := (F_X11_toldWithSize (F_X3_fitting m20))
set_option maxHeartbeats 4000000 in
set_option maxRecDepth 100000 in
theorem c_X11_fits (l : Launch) (g : Gx) (Ty : TyM) (G : Gh) (sz : Nat) (h0 : Nat) (k_h0 : Ty h0 = some (21, 0)) (hD1 : LD1 g) (h1 : G.1 1 = 0) : Met l yX11_fits (wsG yX11_fits cX11_fits 1 (some .int)) ({ frames := 6, cells := 0, slots := 0, locals := 137 }) (PcT g Ty G sz [.ref h0]) (QwI g Ty sz (fun r u => u.1 = Ty ∧ FR [27] [] [] G u.2 ∧ F_X11_fits (G.1 20) = r)) 0 0 (AF Ty sz) := by
  refine Met.ofW (cc := cX11_fits) (maxL := 1) (ret := (some .int)) (by decide) rfl ?_
  intro p e s m args below meth c s₁ B hml hv
  obtain ⟨rfl, hsz, hK, hH⟩ := hv
  subst hsz
  have hx := B.exec
  have hb := B.bytes
  have hr := B.returns
  have hts := atoms_spec (ws := (wsG yX11_fits cX11_fits 1 (some .int))) B.pre
  have hG : ∀ w ∈ GW, w.before ([.ref h0] : List Value).toArray s = true := fun w h => hts w (List.mem_cons_of_mem _ h)
  have hown : s.vm.findClass RX11 = some m.cls := findClass_of_methodNamed B.named
  have hlocks := B.notSynchronized
  have hl := lv_entry [.ref h0] (n := 1) (Nat.le_of_ble_eq_true rfl)
  rw [lg_entry_eq]
  generalize (lg_sl [.ref h0] ++ List.replicate (1 - (lg_sl [.ref h0]).length) Slot.unset).toArray = ls at hl ⊢
  have hl : lv_has ls 1 [(0, .ref h0)] := hl
  have hv : (F_X11_toldWithSize (F_X3_fitting (G.1 20))) = F_X11_fits (G.1 20) := rfl
  have hS : va_S (AF Ty s.heap.size) s.heap s.heap [] := va_S.rf
  refine lv_aload_n hx hb dX11_fits_0 rfl (lv_at hl 0 rfl) ?_
  refine lv_aload_n hx hb dX11_fits_1 rfl (lv_at hl 0 rfl) ?_
  obtain ⟨_, ⟨rfl, kq_2, kq_3, kq_4, kq_5, kq_6, kq_7, kq_8, kq_9, kq_10, kq_11, kq_12, kq_13, kq_14, kq_15, t_17⟩, o_c_1⟩ := hH h0 _ k_h0
  refine hg_get hx hb hG igX11 hown hK o_c_1 rfl 11 (by decide) (hG _ mw_368) rfl dX11_fits_2 ?_
  obtain ⟨_, ⟨q_20, q_21, rfl, kq_19, kq_20, kq_21, kq_23, rq_22, t_25⟩, o_c_18⟩ := hH (g.2.2 11) _ kq_13
  refine va_calli (va_runV (As := []) (rest := [.ref h0]) ⟨hx, hb, hml, hown, hts⟩ (c_X3_fitting l g Ty G s.heap.size (g.2.2 11) kq_13 h1) (cwV 0 hts (gwV mw_1024 mw_1025 mw_1026 mw_85 mw_1027) rfl rfl rfl hv_X3_fitting ⟨Nat.le_of_ble_eq_true rfl, Nat.le_of_ble_eq_true rfl⟩) ⟨PcT_blind, hg_recv hK o_c_18 rfl, PcT_pre hK hH⟩ rfl rfl hl.1 rfl (lv_room (Nat.le_of_ble_eq_true rfl)) dX11_fits_5 ⟨Nat.zero_le _, Nat.zero_le _⟩) hS (fun q _ h => AF.mono hS.1 h) (fun q h => AF.mono hS.1 h) (fun x_26 ux_26 t H locs ht hvm hx_26 hB hz hk hS => ?_)
  obtain ⟨hx_26, fx_26⟩ := hx_26
  have hH : HT g Ty G H := by rw [← ht]; rw [fx_26] at hB; exact hB
  try rw [← hx_26] at hv
  try rw [← hx_26] at hv
  obtain ⟨_, ⟨rfl, kq_28, kq_29, kq_30, kq_31, kq_32, kq_33, kq_34, kq_35, kq_36, kq_37, kq_38, kq_39, kq_40, kq_41, t_43⟩, o_c_27⟩ := hH h0 _ k_h0
  refine va_calli (va_runV (As := [.int x_26]) (rest := []) ⟨hx, hb, hml, hown, hts⟩ (c_X11_toldWithSize l g Ty G H.size h0 x_26 k_h0 hD1) (cwV 1 hts (gwV mw_915 mw_917 mw_22 mw_76 mw_918) rfl rfl rfl hv_X11_toldWithSize ⟨Nat.le_of_ble_eq_true rfl, Nat.le_of_ble_eq_true rfl⟩) ⟨PcT_blind, hg_recv hK o_c_27 rfl, PcT_pre hK hH⟩ rfl rfl hl.1 rfl (lv_room (Nat.le_of_ble_eq_true rfl)) dX11_fits_8 ⟨Nat.zero_le _, Nat.zero_le _⟩) hS (fun q _ h => AF.mono hS.1 h) (fun q h => AF.mono hS.1 h) (fun x_44 ux_44 t H locs ht hvm hx_44 hB hz hk hS => ?_)
  obtain ⟨eTx_44, eGx_44⟩ := hx_44
  obtain ⟨G_45, eG_45⟩ : ∃ z, z = ux_44.2 := ⟨_, rfl⟩
  rw [← eG_45] at eGx_44
  obtain ⟨hfr_46, hex_47⟩ := eGx_44
  have fr_48 : FR [27] [] [] G G_45 := FR.tr FR.rf hfr_46 (by decide) (fun _ _ => trivial) (by decide)
  have u_49 : G_45.1 20 = (G.1 20) := (hfr_46.1 20 (by decide))
  have u_50 : G_45.1 1 = 0 := (hfr_46.1 1 (by decide)).trans h1
  have hq_51 : F_X11_toldWithSize x_26 = x_44 := by have q := hex_47; exact q
  try rw [hq_51] at hv
  have hH : HT g Ty G_45 H := by rw [← ht, ← eTx_44, eG_45]; exact hB
  exact W.iret hx hb hr (fun t ht hWm => ⟨⟨x_44, (Ty, G_45), rfl, ⟨rfl, ⟨fr_48, hv.symm⟩⟩, by show HT g Ty G_45 t.heap; rw [ht]; exact hH⟩, hS.F ht⟩) hS.2.2 dX11_fits_11

def F_X11_moves (r0 : Nat → Int32) (r1 : Nat → Int32) (m20 : Int32) (m22 : Int32) (a0 : Int32) (a1 : Int32) (a2 : Int32) : Int32 × (Nat → Int32) × Int32 := (tu3 (F_X0_move r0 r1 m20 m22 a0 a1 a2) (fun z4 z5 z6 => ((F_X11_remembered z4), z5, z6)))
set_option maxHeartbeats 4000000 in
set_option maxRecDepth 100000 in
theorem c_X11_moves (l : Launch) (g : Gx) (Ty : TyM) (G : Gh) (sz : Nat) (h0 : Nat) (a0 : Int32) (a1 : Int32) (a2 : Int32) (k_h0 : Ty h0 = some (21, 0)) (hD1 : LD1 g) : Met l yX11_moves (wsG yX11_moves cX11_moves 4 (some .int)) ({ frames := 4, cells := 4, slots := 79, locals := 75 }) (PcT g Ty G sz [.ref h0, .int a0, .int a1, .int a2]) (QwI g Ty sz (fun r u => Ext sz Ty u.1 ∧ FR [22, 28] [(g.2.2 70)] [] G u.2 ∧ F_X11_moves (G.2.1 (g.2.2 70)) (G.2.1 (g.2.2 71)) (G.1 20) (G.1 22) a0 a1 a2 = (r, (u.2.2.1 (g.2.2 70)), (u.2.1 22)))) 4 79 (AF Ty sz) := by
  refine Met.ofW (cc := cX11_moves) (maxL := 4) (ret := (some .int)) (by decide) rfl ?_
  intro p e s m args below meth c s₁ B hml hv
  obtain ⟨rfl, hsz, hK, hH⟩ := hv
  subst hsz
  have hx := B.exec
  have hb := B.bytes
  have hr := B.returns
  have hts := atoms_spec (ws := (wsG yX11_moves cX11_moves 4 (some .int))) B.pre
  have hG : ∀ w ∈ GW, w.before ([.ref h0, .int a0, .int a1, .int a2] : List Value).toArray s = true := fun w h => hts w (List.mem_cons_of_mem _ h)
  have hown : s.vm.findClass RX11 = some m.cls := findClass_of_methodNamed B.named
  have hlocks := B.notSynchronized
  have hl := lv_entry [.ref h0, .int a0, .int a1, .int a2] (n := 4) (Nat.le_of_ble_eq_true rfl)
  rw [lg_entry_eq]
  generalize (lg_sl [.ref h0, .int a0, .int a1, .int a2] ++ List.replicate (4 - (lg_sl [.ref h0, .int a0, .int a1, .int a2]).length) Slot.unset).toArray = ls at hl ⊢
  have hl : lv_has ls 4 [(0, .ref h0), (1, .int a0), (2, .int a1), (3, .int a2)] := hl
  have hv : (tu3 (F_X0_move (G.2.1 (g.2.2 70)) (G.2.1 (g.2.2 71)) (G.1 20) (G.1 22) a0 a1 a2) (fun z1 z2 z3 => ((F_X11_remembered z1), z2, z3))) = F_X11_moves (G.2.1 (g.2.2 70)) (G.2.1 (g.2.2 71)) (G.1 20) (G.1 22) a0 a1 a2 := rfl
  have hS : va_S (AF Ty s.heap.size) s.heap s.heap [] := va_S.rf
  refine lv_aload_n hx hb dX11_moves_0 rfl (lv_at hl 0 rfl) ?_
  obtain ⟨_, ⟨rfl, kq_2, kq_3, kq_4, kq_5, kq_6, kq_7, kq_8, kq_9, kq_10, kq_11, kq_12, kq_13, kq_14, kq_15, t_17⟩, o_c_1⟩ := hH h0 _ k_h0
  refine hg_get hx hb hG igX11 hown hK o_c_1 rfl 1 (by decide) (hG _ mw_358) rfl dX11_moves_1 ?_
  refine lv_aload_n hx hb dX11_moves_4 rfl (lv_at hl 0 rfl) ?_
  refine hg_get hx hb hG igX11 hown hK o_c_1 rfl 0 (by decide) (hG _ mw_357) rfl dX11_moves_5 ?_
  obtain ⟨_, ⟨q_19, q_20, q_21, q_22, q_23, q_24, q_25, rfl, kq_19, kq_20, kq_21⟩, o_c_18⟩ := hH (g.2.2 1) _ kq_3
  refine va_callv (va_runV (As := [.ref (g.2.2 0)]) (rest := []) ⟨hx, hb, hml, hown, hts⟩ (c_X10_take_n l g Ty G s.heap.size (g.2.2 1) (g.2.2 0) kq_3 kq_2) (cwV 1 hts (gwV mw_628 mw_629 mw_630 mw_77 mw_631) rfl rfl rfl hv_X10_take ⟨Nat.le_of_ble_eq_true rfl, Nat.le_of_ble_eq_true rfl⟩) ⟨PcT_blind, hg_recv hK o_c_18 rfl, PcT_pre hK hH⟩ rfl rfl hl.1 rfl (lv_room (Nat.le_of_ble_eq_true rfl)) dX11_moves_8 ⟨Nat.le_of_ble_eq_true rfl, Nat.le_of_ble_eq_true rfl⟩) hS (fun q _ h => AF.mono hS.1 h) (fun q h => AF.mono hS.1 h) (fun ux_26 t H locs ht hvm hx_26 hB hz hk hS => ?_)
  have hH : HT g Ty G H := by rw [← ht]; rw [hx_26] at hB; exact hB
  refine lv_aload_n hx hb dX11_moves_11 rfl (lv_at hl 0 rfl) ?_
  refine lv_aload_n hx hb dX11_moves_12 rfl (lv_at hl 0 rfl) ?_
  obtain ⟨_, ⟨rfl, kq_28, kq_29, kq_30, kq_31, kq_32, kq_33, kq_34, kq_35, kq_36, kq_37, kq_38, kq_39, kq_40, kq_41, t_43⟩, o_c_27⟩ := hH h0 _ k_h0
  refine hg_get hx hb hG igX11 hown hK o_c_27 rfl 8 (by decide) (hG _ mw_365) rfl dX11_moves_13 ?_
  refine lv_iload_n hx hb dX11_moves_16 rfl (lv_at hl 1 rfl) ?_
  refine lv_iload_n hx hb dX11_moves_17 rfl (lv_at hl 2 rfl) ?_
  refine lv_iload_n hx hb dX11_moves_18 rfl (lv_at hl 3 rfl) ?_
  obtain ⟨_, ⟨rfl, kq_45, kq_46, kq_47⟩, o_c_44⟩ := hH (g.2.2 8) _ kq_36
  refine va_calli (va_runV (As := [.int a0, .int a1, .int a2]) (rest := [.ref h0]) ⟨hx, hb, hml, hown, hts⟩ (c_X0_move l g Ty G H.size (g.2.2 8) a0 a1 a2 kq_36 hD1) (cwV 3 hts (gwV mw_840 mw_841 mw_842 mw_82 mw_843) rfl rfl rfl hv_X0_move ⟨Nat.le_of_ble_eq_true rfl, Nat.le_of_ble_eq_true rfl⟩) ⟨PcT_blind, hg_recv hK o_c_44 rfl, PcT_pre hK hH⟩ rfl rfl hl.1 rfl (lv_room (Nat.le_of_ble_eq_true rfl)) dX11_moves_19 ⟨Nat.le_of_ble_eq_true rfl, Nat.le_of_ble_eq_true rfl⟩) hS (fun q _ h => AF.mono hS.1 h) (fun q h => AF.mono hS.1 h) (fun x_48 ux_48 t H locs ht hvm hx_48 hB hz hk hS => ?_)
  obtain ⟨eTx_48, eGx_48⟩ := hx_48
  obtain ⟨G_49, eG_49⟩ : ∃ z, z = ux_48.2 := ⟨_, rfl⟩
  rw [← eG_49] at eGx_48
  obtain ⟨hfr_50, hex_51⟩ := eGx_48
  have fr_52 : FR [22, 28] [(g.2.2 70)] [] G G_49 := FR.tr FR.rf hfr_50 (by decide) (fun b h => ⟨h.1, trivial⟩) (by decide)
  have u_53 : G_49.1 20 = (G.1 20) := (hfr_50.1 20 (by decide))
  have w_54 : G_49.2.1 (g.2.2 71) = (G.2.1 (g.2.2 71)) := (hfr_50.2.1 (g.2.2 71) ⟨(hD1 71 (by decide) 70 (by decide) (by decide)), trivial⟩)
  obtain ⟨f_55, ef_55⟩ : ∃ z : Nat → Int32, G_49.2.1 (g.2.2 70) = z := ⟨_, rfl⟩
  obtain ⟨n_56, en_56⟩ : ∃ z : Int32, G_49.1 22 = z := ⟨_, rfl⟩
  have hq_57 : F_X0_move (G.2.1 (g.2.2 70)) (G.2.1 (g.2.2 71)) (G.1 20) (G.1 22) a0 a1 a2 = (x_48, f_55, n_56) := by have q := hex_51; rw [ef_55, en_56] at q; exact q
  rw [hq_57, tu3_eq] at hv
  have hH : HT g Ty G_49 H := by rw [← ht, ← eTx_48, eG_49]; exact hB
  obtain ⟨_, ⟨rfl, kq_59, kq_60, kq_61, kq_62, kq_63, kq_64, kq_65, kq_66, kq_67, kq_68, kq_69, kq_70, kq_71, kq_72, t_74⟩, o_c_58⟩ := hH h0 _ k_h0
  have hLx_75 := hS.1
  refine va_calli (va_runV (As := [.int x_48]) (rest := []) ⟨hx, hb, hml, hown, hts⟩ (c_X11_remembered l g Ty G_49 H.size h0 x_48 k_h0 hD1) (cwV 1 hts (gwV mw_742 mw_744 mw_16 mw_76 mw_745) rfl rfl rfl hv_X11_remembered ⟨Nat.le_of_ble_eq_true rfl, Nat.le_of_ble_eq_true rfl⟩) ⟨PcT_blind, hg_recv hK o_c_58 rfl, PcT_pre hK hH⟩ rfl rfl hl.1 rfl (lv_room (Nat.le_of_ble_eq_true rfl)) dX11_moves_22 ⟨Nat.le_of_ble_eq_true rfl, Nat.le_of_ble_eq_true rfl⟩) hS (fun q _ h => AF.mono hS.1 h) (fun q h => AF.mono hS.1 h) (fun x_75 ux_75 t H locs ht hvm hx_75 hB hz hk hS => ?_)
  obtain ⟨eTx_75, eGx_75⟩ := hx_75
  obtain ⟨T_76, eT_76⟩ : ∃ z, z = ux_75.1 := ⟨_, rfl⟩
  rw [← eT_76] at eTx_75
  have k_77 := eTx_75.1 _ _ k_h0
  have hE_78 : Ext s.heap.size Ty T_76 := Ext.le hLx_75 eTx_75
  obtain ⟨G_79, eG_79⟩ : ∃ z, z = ux_75.2 := ⟨_, rfl⟩
  rw [← eG_79] at eGx_75
  obtain ⟨hfr_80, hex_81⟩ := eGx_75
  have fr_82 : FR [22, 28] [(g.2.2 70)] [] G G_79 := FR.tr fr_52 hfr_80 (by decide) (fun _ _ => trivial) (by decide)
  have u_83 : G_79.1 20 = (G.1 20) := (hfr_80.1 20 (by decide)).trans u_53
  have u_84 : G_79.1 22 = n_56 := (hfr_80.1 22 (by decide)).trans en_56
  have w_85 : G_79.2.1 (g.2.2 71) = (G.2.1 (g.2.2 71)) := (hfr_80.2.1 (g.2.2 71) trivial).trans w_54
  have w_86 : G_79.2.1 (g.2.2 70) = f_55 := (hfr_80.2.1 (g.2.2 70) trivial).trans ef_55
  have hq_87 : F_X11_remembered x_48 = x_75 := by have q := hex_81; exact q
  try rw [hq_87] at hv
  have hH : HT g T_76 G_79 H := by rw [← ht, eT_76, eG_79]; exact hB
  exact W.iret hx hb hr (fun t ht hWm => ⟨⟨x_75, (T_76, G_79), rfl, ⟨hE_78, ⟨fr_82, hv.symm.trans (by rw [w_86, u_84])⟩⟩, by show HT g T_76 G_79 t.heap; rw [ht]; exact hH⟩, hS.F ht⟩) hS.2.2 dX11_moves_25

def F_X11_gain (a0 : Int32) (a1 : Int32) (a2 : Int32) : Int32 := (if a1 ≤ a2 then (if a2 ≤ a1 then ((a0 / (3 : Int32)) - a1) else ((a0 / (2 : Int32)) - ((2 : Int32) * a1))) else (a0 - a1))
set_option maxHeartbeats 4000000 in
set_option maxRecDepth 100000 in
theorem c_X11_gain (l : Launch) (g : Gx) (Ty : TyM) (G : Gh) (a0 : Int32) (a1 : Int32) (a2 : Int32) : Met l yX11_gain (wsG yX11_gain cX11_gain 3 (some .int)) ({ frames := 0, cells := 0, slots := 0, locals := 0 }) (PcH g Ty G [.int a0, .int a1, .int a2]) (vp_Si (fun r => r = F_X11_gain a0 a1 a2)) 0 0 (fun _ => False) := by
  refine Met.ofW (cc := cX11_gain) (maxL := 3) (ret := (some .int)) (by decide) rfl ?_
  intro p e s m args below meth c s₁ B hml hv
  obtain ⟨rfl, hK, hH⟩ := hv
  have hx := B.exec
  have hb := B.bytes
  have hr := B.returns
  have hts := atoms_spec (ws := (wsG yX11_gain cX11_gain 3 (some .int))) B.pre
  have hG : ∀ w ∈ GW, w.before ([.int a0, .int a1, .int a2] : List Value).toArray s = true := fun w h => hts w (List.mem_cons_of_mem _ h)
  have hown : s.vm.findClass RX11 = some m.cls := findClass_of_methodNamed B.named
  have hlocks := B.notSynchronized
  have hl := lv_entry [.int a0, .int a1, .int a2] (n := 3) (Nat.le_of_ble_eq_true rfl)
  rw [lg_entry_eq]
  generalize (lg_sl [.int a0, .int a1, .int a2] ++ List.replicate (3 - (lg_sl [.int a0, .int a1, .int a2]).length) Slot.unset).toArray = ls at hl ⊢
  have hl : lv_has ls 3 [(0, .int a0), (1, .int a1), (2, .int a2)] := hl
  have hv : (if a1 ≤ a2 then (if a2 ≤ a1 then ((a0 / (3 : Int32)) - a1) else ((a0 / (2 : Int32)) - ((2 : Int32) * a1))) else (a0 - a1)) = F_X11_gain a0 a1 a2 := rfl
  refine lv_iload_n hx hb dX11_gain_0 rfl (lv_at hl 1 rfl) ?_
  refine lv_iload_n hx hb dX11_gain_1 rfl (lv_at hl 2 rfl) ?_
  refine lv_icmp_le (tgt := 9) hx hb dX11_gain_2 (by decide) (fun c_1 => ?_) (fun c_1 => ?_)
  · rw [if_pos c_1] at hv
    refine lv_iload_n hx hb dX11_gain_9 rfl (lv_at hl 1 rfl) ?_
    refine lv_iload_n hx hb dX11_gain_10 rfl (lv_at hl 2 rfl) ?_
    refine lv_icmp_ge (tgt := 24) hx hb dX11_gain_11 (by decide) (fun c_2 => ?_) (fun c_2 => ?_)
    · rw [if_pos c_2] at hv
      refine lv_iload_n hx hb dX11_gain_24 rfl (lv_at hl 0 rfl) ?_
      refine lv_iconst (v := 3) hx hb dX11_gain_25 (by decide) ?_
      refine lv_idiv hx hb dX11_gain_26 (by decide) ?_
      refine lv_topi (fun x_3 ex_3 => ?_)
      try rw [← ex_3] at hv
      try rw [← ex_3] at hv
      refine lv_iload_n hx hb dX11_gain_27 rfl (lv_at hl 1 rfl) ?_
      refine lv_isub hx hb dX11_gain_28 ?_
      refine lv_topi (fun x_4 ex_4 => ?_)
      try rw [← ex_4] at hv
      exact W.iret hx hb hr (fun t ht hW => ⟨x_4, rfl, hv, ht⟩) (fun q h => by cases h) dX11_gain_29
    · rw [if_neg c_2] at hv
      have r_5 : rgI (-2147483648) (2147483646) a1 := rg_w (rg_ltL (rg_top a1) (rg_top a2) (nle_lt c_2)) (by decide) (by decide)
      have r_6 : rgI (-2147483647) (2147483647) a2 := rg_w (rg_ltR (rg_top a1) (rg_top a2) (nle_lt c_2)) (by decide) (by decide)
      refine lv_iload_n hx hb dX11_gain_14 rfl (lv_at hl 0 rfl) ?_
      refine lv_iconst (v := 2) hx hb dX11_gain_15 (by decide) ?_
      refine lv_idiv hx hb dX11_gain_16 (by decide) ?_
      refine lv_topi (fun x_7 ex_7 => ?_)
      try rw [← ex_7] at hv
      try rw [← ex_7] at hv
      refine lv_iconst (v := 2) hx hb dX11_gain_17 (by decide) ?_
      refine lv_iload_n hx hb dX11_gain_18 rfl (lv_at hl 1 rfl) ?_
      refine lv_imul hx hb dX11_gain_19 ?_
      refine lv_topi (fun x_8 ex_8 => ?_)
      try rw [← ex_8] at hv
      refine lv_isub hx hb dX11_gain_20 ?_
      refine lv_topi (fun x_9 ex_9 => ?_)
      try rw [← ex_9] at hv
      refine lv_goto (tgt := 29) hx hb dX11_gain_21 (by decide) ?_
      exact W.iret hx hb hr (fun t ht hW => ⟨x_9, rfl, hv, ht⟩) (fun q h => by cases h) dX11_gain_29
  · rw [if_neg c_1] at hv
    have r_10 : rgI (-2147483648) (2147483646) a2 := rg_w (rg_ltL (rg_top a2) (rg_top a1) (nle_lt c_1)) (by decide) (by decide)
    have r_11 : rgI (-2147483647) (2147483647) a1 := rg_w (rg_ltR (rg_top a2) (rg_top a1) (nle_lt c_1)) (by decide) (by decide)
    refine lv_iload_n hx hb dX11_gain_5 rfl (lv_at hl 0 rfl) ?_
    refine lv_iload_n hx hb dX11_gain_6 rfl (lv_at hl 1 rfl) ?_
    refine lv_isub hx hb dX11_gain_7 ?_
    refine lv_topi (fun x_12 ex_12 => ?_)
    try rw [← ex_12] at hv
    exact W.iret hx hb hr (fun t ht hW => ⟨x_12, rfl, hv, ht⟩) (fun q h => by cases h) dX11_gain_8

def F_X11_isBest_2 : Nat → Int32 → Int32 → Int32 → Int32 → Int32
  | 0, _, _, _, _ => (0 : Int32)
  | n + 1, y0, y1, y2, y3 => (if (9 : Int32) < y3 then (1 : Int32) else (if (F_X11_gain y0 y3 y2) ≤ (F_X11_gain y0 y1 y2) then (F_X11_isBest_2 n y0 y1 y2 (y3 + (1 : Int32))) else (0 : Int32)))
def F_X11_isBest (a0 : Int32) (a1 : Int32) (a2 : Int32) : Int32 := (F_X11_isBest_2 12 a0 a1 a2 (0 : Int32))
set_option maxHeartbeats 4000000 in
set_option maxRecDepth 100000 in
theorem c_X11_isBest (l : Launch) (g : Gx) (Ty : TyM) (G : Gh) (a0 : Int32) (a1 : Int32) (a2 : Int32) : Met l yX11_isBest (wsG yX11_isBest cX11_isBest 4 (some .boolean)) ({ frames := 1, cells := 0, slots := 0, locals := 22 }) (PcH g Ty G [.int a0, .int a1, .int a2]) (vp_Si (fun r => rgI (0) (1) r ∧ r = F_X11_isBest a0 a1 a2)) 0 0 (fun _ => False) := by
  refine Met.ofW (cc := cX11_isBest) (maxL := 4) (ret := (some .boolean)) (by decide) rfl ?_
  intro p e s m args below meth c s₁ B hml hv
  obtain ⟨rfl, hK, hH⟩ := hv
  have hx := B.exec
  have hb := B.bytes
  have hr := B.returns
  have hts := atoms_spec (ws := (wsG yX11_isBest cX11_isBest 4 (some .boolean))) B.pre
  have hG : ∀ w ∈ GW, w.before ([.int a0, .int a1, .int a2] : List Value).toArray s = true := fun w h => hts w (List.mem_cons_of_mem _ h)
  have hown : s.vm.findClass RX11 = some m.cls := findClass_of_methodNamed B.named
  have hlocks := B.notSynchronized
  have hl := lv_entry [.int a0, .int a1, .int a2] (n := 4) (Nat.le_of_ble_eq_true rfl)
  rw [lg_entry_eq]
  generalize (lg_sl [.int a0, .int a1, .int a2] ++ List.replicate (4 - (lg_sl [.int a0, .int a1, .int a2]).length) Slot.unset).toArray = ls at hl ⊢
  have hl : lv_has ls 4 [(0, .int a0), (1, .int a1), (2, .int a2)] := hl
  have hv : (F_X11_isBest_2 12 a0 a1 a2 (0 : Int32)) = F_X11_isBest a0 a1 a2 := rfl
  have L_2 : ∀ (n_2 : Nat) (y3_2 : Int32) (ls : Array Slot), rgI (0) (10) y3_2 → (10 - (y3_2).toInt).toNat < n_2 → lv_has ls 4 [(0, .int a0), (1, .int a1), (2, .int a2), (3, .int y3_2)] → (F_X11_isBest_2 n_2 a0 a1 a2 y3_2) = F_X11_isBest a0 a1 a2 → Wm p l e (wsG yX11_isBest cX11_isBest 4 (some .boolean)) ({ frames := 1, cells := 0, slots := 0, locals := 22 }) s m [.int a0, .int a1, .int a2] below meth c s.heap [] (0) (0) (vp_Si (fun r => rgI (0) (1) r ∧ r = F_X11_isBest a0 a1 a2)) 0 0 (fun _ => False) (F0 m 2 ls []) := by
    intro n_2
    induction n_2 with
    | zero => intro y3_2 ls ry3_2 hm; exact absurd hm (Nat.not_lt_zero _)
    | succ n_2 ih_2 =>
      intro y3_2 ls ry3_2 hm_2 hl hv
      rw [F_X11_isBest_2] at hv
      refine lv_iload_n hx hb dX11_isBest_2 rfl (lv_at hl 3 rfl) ?_
      refine lv_bipush (v := 9) hx hb dX11_isBest_3 (by decide) ?_
      refine lv_icmp_gt (tgt := 31) hx hb dX11_isBest_5 (by decide) (fun c_1 => ?_) (fun c_1 => ?_)
      · rw [if_pos c_1] at hv
        have r_2 : rgI (10) (10) y3_2 := rg_w (rg_ltR rl_9 ry3_2 c_1) (by decide) (by decide)
        refine lv_iconst (v := 1) hx hb dX11_isBest_31 (by decide) ?_
        exact W.zret hx hb hr rfl (fun t ht hW => ⟨1, rfl, ⟨rg_w rl_1 (by decide) (by decide), hv⟩, ht⟩) (fun q h => by cases h) dX11_isBest_32
      · rw [if_neg c_1] at hv
        have r_3 : rgI (0) (9) y3_2 := rg_w (rg_leL ry3_2 rl_9 (nlt_le c_1)) (by decide) (by decide)
        refine lv_iload_n hx hb dX11_isBest_8 rfl (lv_at hl 0 rfl) ?_
        refine lv_iload_n hx hb dX11_isBest_9 rfl (lv_at hl 3 rfl) ?_
        refine lv_iload_n hx hb dX11_isBest_10 rfl (lv_at hl 2 rfl) ?_
        refine vp_callSi (W.runS (As := [.int a0, .int y3_2, .int a2]) (rest := []) ⟨hx, hb, hml, hown, hts⟩ (c_X11_gain l g Ty G a0 y3_2 a2 ) (cwSx 3 hts hG (gwC mw_1140) mw_76 mw_1138 mw_1139 rfl rfl rfl hd_X11_gain ⟨Nat.le_of_ble_eq_true rfl, Nat.le_of_ble_eq_true rfl⟩) ⟨PcH_blind, PcH_pre hK hH⟩ rfl rfl hl.1 rfl (lv_room (Nat.le_of_ble_eq_true rfl)) dX11_isBest_11 ⟨Nat.zero_le _, Nat.zero_le _⟩) (fun x_4 hx_4 => ?_)
        try rw [← hx_4] at hv
        have ex_5 : x_4 = F_X11_gain a0 y3_2 a2 := hx_4
        try rw [← ex_5] at hv
        refine lv_iload_n hx hb dX11_isBest_14 rfl (lv_at hl 0 rfl) ?_
        refine lv_iload_n hx hb dX11_isBest_15 rfl (lv_at hl 1 rfl) ?_
        refine lv_iload_n hx hb dX11_isBest_16 rfl (lv_at hl 2 rfl) ?_
        refine vp_callSi (W.runS (As := [.int a0, .int a1, .int a2]) (rest := [.int x_4]) ⟨hx, hb, hml, hown, hts⟩ (c_X11_gain l g Ty G a0 a1 a2 ) (cwSx 3 hts hG (gwC mw_1140) mw_76 mw_1138 mw_1139 rfl rfl rfl hd_X11_gain ⟨Nat.le_of_ble_eq_true rfl, Nat.le_of_ble_eq_true rfl⟩) ⟨PcH_blind, PcH_pre hK hH⟩ rfl rfl hl.1 rfl (lv_room (Nat.le_of_ble_eq_true rfl)) dX11_isBest_17 ⟨Nat.zero_le _, Nat.zero_le _⟩) (fun x_6 hx_6 => ?_)
        try rw [← hx_6] at hv
        have ex_7 : x_6 = F_X11_gain a0 a1 a2 := hx_6
        try rw [← ex_7] at hv
        refine lv_icmp_le (tgt := 25) hx hb dX11_isBest_20 (by decide) (fun c_8 => ?_) (fun c_8 => ?_)
        · rw [if_pos c_8] at hv
          obtain ⟨x_9, ex_9⟩ : ∃ y : Int32, y = y3_2 + 1 := ⟨_, rfl⟩
          try rw [← ex_9] at hv
          have rx_9 : rgI (1) (10) x_9 := by rw [ex_9]; exact rg_w (rg_add r_3 rl_1 (by decide) (by decide)) (by decide) (by decide)
          have qx_9 : x_9.toInt = (y3_2 : Int32).toInt + 1 := by rw [ex_9]; exact rg_addE r_3 rl_1 (by decide) (by decide)
          refine lv_iinc (v := x_9) (lv' := [(3, .int x_9), (0, .int a0), (1, .int a1), (2, .int a2)]) hx hb dX11_isBest_25 hl (k := 3) rfl (by rw [ex_9]; rfl) (by decide) rfl (fun ls hl => ?_)
          refine lv_goto (tgt := 2) hx hb dX11_isBest_28 (by decide) ?_
          exact ih_2 x_9 ls (rg_w rx_9 (by decide) (by decide)) (by have h1 := qx_9; have h2 := r_3.1; have h3 := r_3.2; have h4 := hm_2; omega) (lv_sub hl [1, 2, 3, 0] rfl) hv
        · rw [if_neg c_8] at hv
          have r_10 : rgI (-2147483648) (2147483646) x_6 := rg_w (rg_ltL (rg_top x_6) (rg_top x_4) (nle_lt c_8)) (by decide) (by decide)
          have r_11 : rgI (-2147483647) (2147483647) x_4 := rg_w (rg_ltR (rg_top x_6) (rg_top x_4) (nle_lt c_8)) (by decide) (by decide)
          refine lv_iconst (v := 0) hx hb dX11_isBest_23 (by decide) ?_
          exact W.zret hx hb hr rfl (fun t ht hW => ⟨0, rfl, ⟨rg_w rl_0 (by decide) (by decide), hv⟩, ht⟩) (fun q h => by cases h) dX11_isBest_24
  refine lv_iconst (v := 0) hx hb dX11_isBest_0 (by decide) ?_
  refine lv_istore_n (lv' := [(3, .int 0), (0, .int a0), (1, .int a1), (2, .int a2)]) hx hb dX11_isBest_1 rfl hl (by decide) rfl (fun ls hl => ?_)
  exact L_2 12 0 ls (rg_w rl_0 (by decide) (by decide)) (by decide) (lv_sub hl [1, 2, 3, 0] rfl) hv

def F_X11_rests_32 : Nat → Int32 → Int32 → Int32 → Int32 → Int32
  | 0, _, y2, _, _ => y2
  | n + 1, y1, y2, y3, y4 => (if (9 : Int32) < y4 then y2 else (if (F_X11_isBest y1 y3 y4) = (0 : Int32) then (F_X11_rests_32 n y1 y2 y3 (y4 + (1 : Int32))) else (if (F_X11_isBest y1 y4 y3) = (0 : Int32) then (F_X11_rests_32 n y1 y2 y3 (y4 + (1 : Int32))) else (if (y2 + (1 : Int32)) = (1 : Int32) then (F_X11_rests_32 n y1 (y2 + (1 : Int32)) y3 (y4 + (1 : Int32))) else (F_X11_rests_32 n y1 (y2 + (1 : Int32)) y3 (y4 + (1 : Int32)))))))
def F_X11_rests_23 : Nat → Int32 → Int32 → Int32 → Int32
  | 0, _, y2, _ => y2
  | n + 1, y1, y2, y3 => (if (9 : Int32) < y3 then y2 else (F_X11_rests_23 n y1 (F_X11_rests_32 12 y1 y2 y3 (0 : Int32)) (y3 + (1 : Int32))))
def F_X11_rests (a0 : Int32) : Int32 := (if a0 < (0 : Int32) then (-1 : Int32) else (if a0 ≤ (20 : Int32) then (F_X11_rests_23 12 a0 (0 : Int32) (0 : Int32)) else (-1 : Int32)))
set_option maxHeartbeats 4000000 in
set_option maxRecDepth 100000 in
theorem c_X11_rests (l : Launch) (g : Gx) (Ty : TyM) (G : Gh) (sz : Nat) (h0 : Nat) (a0 : Int32) (k_h0 : Ty h0 = some (21, 0)) (hD1 : LD1 g) : Met l yX11_rests (wsG yX11_rests cX11_rests 5 (some .int)) ({ frames := 2, cells := 0, slots := 0, locals := 46 }) (PcT g Ty G sz [.ref h0, .int a0]) (QwI g Ty sz (fun r u => u.1 = Ty ∧ FR [27] [] [] G u.2 ∧ F_X11_rests a0 = r)) 0 0 (AF Ty sz) := by
  refine Met.ofW (cc := cX11_rests) (maxL := 5) (ret := (some .int)) (by decide) rfl ?_
  intro p e s m args below meth c s₁ B hml hv
  obtain ⟨rfl, hsz, hK, hH⟩ := hv
  subst hsz
  have hx := B.exec
  have hb := B.bytes
  have hr := B.returns
  have hts := atoms_spec (ws := (wsG yX11_rests cX11_rests 5 (some .int))) B.pre
  have hG : ∀ w ∈ GW, w.before ([.ref h0, .int a0] : List Value).toArray s = true := fun w h => hts w (List.mem_cons_of_mem _ h)
  have hown : s.vm.findClass RX11 = some m.cls := findClass_of_methodNamed B.named
  have hlocks := B.notSynchronized
  have hl := lv_entry [.ref h0, .int a0] (n := 5) (Nat.le_of_ble_eq_true rfl)
  rw [lg_entry_eq]
  generalize (lg_sl [.ref h0, .int a0] ++ List.replicate (5 - (lg_sl [.ref h0, .int a0]).length) Slot.unset).toArray = ls at hl ⊢
  have hl : lv_has ls 5 [(0, .ref h0), (1, .int a0)] := hl
  have hv : (if a0 < (0 : Int32) then (-1 : Int32) else (if a0 ≤ (20 : Int32) then (F_X11_rests_23 12 a0 (0 : Int32) (0 : Int32)) else (-1 : Int32))) = F_X11_rests a0 := rfl
  have hS : va_S (AF Ty s.heap.size) s.heap s.heap [] := va_S.rf
  have L_23 : ∀ (n_23 : Nat) (H : Heap) (locs : List Loc) (G_23 : Gh) (y2_23 : Int32) (y3_23 : Int32) (ls : Array Slot), FR [27] [] [] G G_23 → rgI (0) (20) a0 → rgI (0) (10) y3_23 → (10 - (y3_23).toInt).toNat < n_23 → lv_has ls 5 [(0, .ref h0), (1, .int a0), (2, .int y2_23), (3, .int y3_23)] → (F_X11_rests_23 n_23 a0 y2_23 y3_23) = F_X11_rests a0 → HT g Ty G_23 H → va_S (AF Ty s.heap.size) s.heap H locs → Wm p l e (wsG yX11_rests cX11_rests 5 (some .int)) ({ frames := 2, cells := 0, slots := 0, locals := 46 }) s m [.ref h0, .int a0] below meth c H locs (0) (0) (QwI g Ty s.heap.size (fun r u => u.1 = Ty ∧ FR [27] [] [] G u.2 ∧ F_X11_rests a0 = r)) 0 0 (AF Ty s.heap.size) (F0 m 23 ls []) := by
    intro n_23
    induction n_23 with
    | zero => intro H locs G_23 y2_23 y3_23 ls frL_23 ry1_23 ry3_23 hm; exact absurd hm (Nat.not_lt_zero _)
    | succ n_23 ih_23 =>
      intro H locs G_23 y2_23 y3_23 ls frL_23 ry1_23 ry3_23 hm_23 hl hv hH hS
      have L_32 : ∀ (n_32 : Nat) (H : Heap) (locs : List Loc) (G_32 : Gh) (y2_32 : Int32) (y4_32 : Int32) (ls : Array Slot), FR [27] [] [] G G_32 → rgI (0) (20) a0 → rgI (0) (9) y3_23 → rgI (0) (10) y4_32 → (10 - (y4_32).toInt).toNat < n_32 → lv_has ls 5 [(0, .ref h0), (1, .int a0), (2, .int y2_32), (3, .int y3_23), (4, .int y4_32)] → (F_X11_rests_23 n_23 a0 (F_X11_rests_32 n_32 a0 y2_32 y3_23 y4_32) (y3_23 + (1 : Int32))) = F_X11_rests a0 → HT g Ty G_32 H → va_S (AF Ty s.heap.size) s.heap H locs → Wm p l e (wsG yX11_rests cX11_rests 5 (some .int)) ({ frames := 2, cells := 0, slots := 0, locals := 46 }) s m [.ref h0, .int a0] below meth c H locs (0) (0) (QwI g Ty s.heap.size (fun r u => u.1 = Ty ∧ FR [27] [] [] G u.2 ∧ F_X11_rests a0 = r)) 0 0 (AF Ty s.heap.size) (F0 m 32 ls []) := by
        intro n_32
        induction n_32 with
        | zero => intro H locs G_32 y2_32 y4_32 ls frL_32 ry1_32 ry3_32 ry4_32 hm; exact absurd hm (Nat.not_lt_zero _)
        | succ n_32 ih_32 =>
          intro H locs G_32 y2_32 y4_32 ls frL_32 ry1_32 ry3_32 ry4_32 hm_32 hl hv hH hS
          have L_79 : ∀ (H : Heap) (locs : List Loc) (G_79 : Gh) (y2_79 : Int32) (ls : Array Slot), FR [27] [] [] G G_79 → rgI (0) (20) a0 → rgI (0) (9) y3_23 → rgI (0) (9) y4_32 → lv_has ls 5 [(0, .ref h0), (1, .int a0), (2, .int y2_79), (3, .int y3_23), (4, .int y4_32)] → (F_X11_rests_23 n_23 a0 (F_X11_rests_32 n_32 a0 y2_79 y3_23 (y4_32 + (1 : Int32))) (y3_23 + (1 : Int32))) = F_X11_rests a0 → HT g Ty G_79 H → va_S (AF Ty s.heap.size) s.heap H locs → Wm p l e (wsG yX11_rests cX11_rests 5 (some .int)) ({ frames := 2, cells := 0, slots := 0, locals := 46 }) s m [.ref h0, .int a0] below meth c H locs (0) (0) (QwI g Ty s.heap.size (fun r u => u.1 = Ty ∧ FR [27] [] [] G u.2 ∧ F_X11_rests a0 = r)) 0 0 (AF Ty s.heap.size) (F0 m 79 ls []) := by
            intro H locs G_79 y2_79 ls frL_79 ry1_79 ry3_79 ry4_79 hl hv hH hS
            obtain ⟨x_1, ex_1⟩ : ∃ y : Int32, y = y4_32 + 1 := ⟨_, rfl⟩
            try rw [← ex_1] at hv
            have rx_1 : rgI (1) (10) x_1 := by rw [ex_1]; exact rg_w (rg_add ry4_79 rl_1 (by decide) (by decide)) (by decide) (by decide)
            have qx_1 : x_1.toInt = (y4_32 : Int32).toInt + 1 := by rw [ex_1]; exact rg_addE ry4_79 rl_1 (by decide) (by decide)
            refine lv_iinc (v := x_1) (lv' := [(4, .int x_1), (0, .ref h0), (1, .int a0), (2, .int y2_79), (3, .int y3_23)]) hx hb dX11_rests_79 hl (k := 4) rfl (by rw [ex_1]; rfl) (by decide) rfl (fun ls hl => ?_)
            refine lv_goto (tgt := 32) hx hb dX11_rests_82 (by decide) ?_
            exact ih_32 H locs G_79 y2_79 x_1 ls frL_79 ry1_79 ry3_79 (rg_w rx_1 (by decide) (by decide)) (by have h1 := qx_1; have h2 := ry4_79.1; have h3 := ry4_79.2; have h4 := hm_32; omega) (lv_sub hl [1, 2, 3, 4, 0] rfl) hv hH hS
          rw [F_X11_rests_32] at hv
          refine lv_iload hx hb dX11_rests_32 (lv_at hl 4 rfl) ?_
          refine lv_bipush (v := 9) hx hb dX11_rests_34 (by decide) ?_
          refine lv_icmp_gt (tgt := 85) hx hb dX11_rests_36 (by decide) (fun c_2 => ?_) (fun c_2 => ?_)
          · rw [if_pos c_2] at hv
            have r_3 : rgI (10) (10) y4_32 := rg_w (rg_ltR rl_9 ry4_32 c_2) (by decide) (by decide)
            obtain ⟨x_4, ex_4⟩ : ∃ y : Int32, y = y3_23 + 1 := ⟨_, rfl⟩
            try rw [← ex_4] at hv
            have rx_4 : rgI (1) (10) x_4 := by rw [ex_4]; exact rg_w (rg_add ry3_32 rl_1 (by decide) (by decide)) (by decide) (by decide)
            have qx_4 : x_4.toInt = (y3_23 : Int32).toInt + 1 := by rw [ex_4]; exact rg_addE ry3_32 rl_1 (by decide) (by decide)
            refine lv_iinc (v := x_4) (lv' := [(3, .int x_4), (0, .ref h0), (1, .int a0), (2, .int y2_32), (4, .int y4_32)]) hx hb dX11_rests_85 hl (k := 3) rfl (by rw [ex_4]; rfl) (by decide) rfl (fun ls hl => ?_)
            refine lv_goto (tgt := 23) hx hb dX11_rests_88 (by decide) ?_
            exact ih_23 H locs G_32 y2_32 x_4 ls frL_32 ry1_32 (rg_w rx_4 (by decide) (by decide)) (by have h1 := qx_4; have h2 := ry3_32.1; have h3 := ry3_32.2; have h4 := hm_23; omega) (lv_sub hl [1, 2, 3, 0] rfl) hv hH hS
          · rw [if_neg c_2] at hv
            have r_5 : rgI (0) (9) y4_32 := rg_w (rg_leL ry4_32 rl_9 (nlt_le c_2)) (by decide) (by decide)
            refine lv_iload_n hx hb dX11_rests_39 rfl (lv_at hl 1 rfl) ?_
            refine lv_iload_n hx hb dX11_rests_40 rfl (lv_at hl 3 rfl) ?_
            refine lv_iload hx hb dX11_rests_41 (lv_at hl 4 rfl) ?_
            refine vp_callSi (W.runS (As := [.int a0, .int y3_23, .int y4_32]) (rest := []) ⟨hx, hb, hml, hown, hts⟩ (c_X11_isBest l g Ty G_32 a0 y3_23 y4_32 ) (cwSx 3 hts hG (gwC mw_1137) mw_76 mw_1135 mw_1136 rfl rfl rfl hd_X11_isBest ⟨Nat.le_of_ble_eq_true rfl, Nat.le_of_ble_eq_true rfl⟩) ⟨PcH_blind, PcH_pre hK hH⟩ rfl rfl hl.1 rfl (lv_room (Nat.le_of_ble_eq_true rfl)) dX11_rests_43 ⟨Nat.zero_le _, Nat.zero_le _⟩) (fun x_6 hx_6 => ?_)
            have rx_6 : rgI (0) (1) x_6 := hx_6.1
            try rw [← hx_6.2] at hv
            have ex_7 : x_6 = F_X11_isBest a0 y3_23 y4_32 := hx_6.2
            try rw [← ex_7] at hv
            refine lv_if_eq (tgt := 79) hx hb dX11_rests_46 (by decide) (fun c_8 => ?_) (fun c_8 => ?_)
            · rw [if_pos c_8] at hv
              have r_9 : rgI (0) (0) x_6 := rg_w (rg_eq rl_0 c_8) (by decide) (by decide)
              exact L_79 H locs G_32 y2_32 ls frL_32 ry1_32 ry3_32 r_5 (lv_sub hl [0, 1, 2, 3, 4] rfl) hv hH hS
            · rw [if_neg c_8] at hv
              have r_10 : rgI (1) (1) x_6 := rg_w (rg_neL rx_6 rl_0 c_8) (by decide) (by decide)
              refine lv_iload_n hx hb dX11_rests_49 rfl (lv_at hl 1 rfl) ?_
              refine lv_iload hx hb dX11_rests_50 (lv_at hl 4 rfl) ?_
              refine lv_iload_n hx hb dX11_rests_52 rfl (lv_at hl 3 rfl) ?_
              refine vp_callSi (W.runS (As := [.int a0, .int y4_32, .int y3_23]) (rest := []) ⟨hx, hb, hml, hown, hts⟩ (c_X11_isBest l g Ty G_32 a0 y4_32 y3_23 ) (cwSx 3 hts hG (gwC mw_1137) mw_76 mw_1135 mw_1136 rfl rfl rfl hd_X11_isBest ⟨Nat.le_of_ble_eq_true rfl, Nat.le_of_ble_eq_true rfl⟩) ⟨PcH_blind, PcH_pre hK hH⟩ rfl rfl hl.1 rfl (lv_room (Nat.le_of_ble_eq_true rfl)) dX11_rests_53 ⟨Nat.zero_le _, Nat.zero_le _⟩) (fun x_11 hx_11 => ?_)
              have rx_11 : rgI (0) (1) x_11 := hx_11.1
              try rw [← hx_11.2] at hv
              have ex_12 : x_11 = F_X11_isBest a0 y4_32 y3_23 := hx_11.2
              try rw [← ex_12] at hv
              refine lv_if_eq (tgt := 79) hx hb dX11_rests_56 (by decide) (fun c_13 => ?_) (fun c_13 => ?_)
              · rw [if_pos c_13] at hv
                have r_14 : rgI (0) (0) x_11 := rg_w (rg_eq rl_0 c_13) (by decide) (by decide)
                exact L_79 H locs G_32 y2_32 ls frL_32 ry1_32 ry3_32 r_5 (lv_sub hl [0, 1, 2, 3, 4] rfl) hv hH hS
              · rw [if_neg c_13] at hv
                have r_15 : rgI (1) (1) x_11 := rg_w (rg_neL rx_11 rl_0 c_13) (by decide) (by decide)
                obtain ⟨x_16, ex_16⟩ : ∃ y : Int32, y = y2_32 + 1 := ⟨_, rfl⟩
                try rw [← ex_16] at hv
                refine lv_iinc (v := x_16) (lv' := [(2, .int x_16), (0, .ref h0), (1, .int a0), (3, .int y3_23), (4, .int y4_32)]) hx hb dX11_rests_59 hl (k := 2) rfl (by rw [ex_16]; rfl) (by decide) rfl (fun ls hl => ?_)
                refine lv_iload_n hx hb dX11_rests_62 rfl (lv_at hl 0 rfl) ?_
                refine lv_iconst (v := 1) hx hb dX11_rests_63 (by decide) ?_
                refine lv_icmp_ne (tgt := 79) hx hb dX11_rests_64 (by decide) (fun c_17 => ?_) (fun c_17 => ?_)
                · rw [if_neg c_17] at hv
                  exact L_79 H locs G_32 x_16 ls frL_32 ry1_32 ry3_32 r_5 (lv_sub hl [1, 2, 0, 3, 4] rfl) hv hH hS
                · rw [if_pos c_17] at hv
                  have r_18 : rgI (1) (1) x_16 := rg_w (rg_eq rl_1 c_17) (by decide) (by decide)
                  refine lv_aload_n hx hb dX11_rests_67 rfl (lv_at hl 1 rfl) ?_
                  obtain ⟨_, ⟨rfl, kq_20, kq_21, kq_22, kq_23, kq_24, kq_25, kq_26, kq_27, kq_28, kq_29, kq_30, kq_31, kq_32, kq_33, t_35⟩, o_c_19⟩ := hH h0 _ k_h0
                  refine hg_get hx hb hG igX11 hown hK o_c_19 rfl 5 (by decide) (hG _ mw_362) rfl dX11_rests_68 ?_
                  refine lv_iload_n hx hb dX11_rests_71 rfl (lv_at hl 3 rfl) ?_
                  refine lv_i2l hx hb dX11_rests_72 rfl ?_
                  refine lv_topl (fun u_36 eu_36 => ?_)
                  refine lv_iload hx hb dX11_rests_73 (lv_at hl 4 rfl) ?_
                  refine lv_i2l hx hb dX11_rests_75 rfl ?_
                  refine lv_topl (fun u_37 eu_37 => ?_)
                  obtain ⟨_, ⟨q_39, rfl, kq_39, rq_40, t_41⟩, o_c_38⟩ := hH (g.2.2 5) _ kq_25
                  refine va_callv (va_runV (As := [.long u_36, .long u_37]) (rest := []) ⟨hx, hb, hml, hown, hts⟩ (c_X7_tellTwo_x l g Ty G_32 H.size (g.2.2 5) u_36 u_37 kq_25 hD1) (cwV 2 hts (gwV mw_753 mw_754 mw_755 mw_80 mw_756) rfl rfl rfl hv_X7_tellTwo ⟨Nat.le_of_ble_eq_true rfl, Nat.le_of_ble_eq_true rfl⟩) ⟨PcT_blind, hg_recv hK o_c_38 rfl, PcT_pre hK hH⟩ rfl rfl hl.1 rfl (lv_room (Nat.le_of_ble_eq_true rfl)) dX11_rests_76 ⟨Nat.zero_le _, Nat.zero_le _⟩) hS (fun q _ h => AF.mono hS.1 h) (fun q h => AF.mono hS.1 h) (fun ux_42 t H locs ht hvm hx_42 hB hz hk hS => ?_)
                  obtain ⟨eTx_42, eGx_42⟩ := hx_42
                  obtain ⟨G_43, eG_43⟩ : ∃ z, z = ux_42.2 := ⟨_, rfl⟩
                  rw [← eG_43] at eGx_42
                  obtain ⟨hfr_44, hex_45⟩ := eGx_42
                  have fr_46 : FR [27] [] [] G G_43 := FR.tr frL_32 hfr_44 (by decide) (fun _ _ => trivial) (by decide)
                  have hH : HT g Ty G_43 H := by rw [← ht, ← eTx_42, eG_43]; exact hB
                  exact L_79 H locs G_43 x_16 ls fr_46 ry1_32 ry3_32 r_5 (lv_sub hl [1, 2, 0, 3, 4] rfl) hv hH hS
      rw [F_X11_rests_23] at hv
      refine lv_iload_n hx hb dX11_rests_23 rfl (lv_at hl 3 rfl) ?_
      refine lv_bipush (v := 9) hx hb dX11_rests_24 (by decide) ?_
      refine lv_icmp_gt (tgt := 91) hx hb dX11_rests_26 (by decide) (fun c_47 => ?_) (fun c_47 => ?_)
      · rw [if_pos c_47] at hv
        have r_48 : rgI (10) (10) y3_23 := rg_w (rg_ltR rl_9 ry3_23 c_47) (by decide) (by decide)
        refine lv_iload_n hx hb dX11_rests_91 rfl (lv_at hl 2 rfl) ?_
        exact W.iret hx hb hr (fun t ht hWm => ⟨⟨y2_23, (Ty, G_23), rfl, ⟨rfl, ⟨frL_23, hv.symm⟩⟩, by show HT g Ty G_23 t.heap; rw [ht]; exact hH⟩, hS.F ht⟩) hS.2.2 dX11_rests_92
      · rw [if_neg c_47] at hv
        have r_49 : rgI (0) (9) y3_23 := rg_w (rg_leL ry3_23 rl_9 (nlt_le c_47)) (by decide) (by decide)
        refine lv_iconst (v := 0) hx hb dX11_rests_29 (by decide) ?_
        refine lv_istore (lv' := [(4, .int 0), (0, .ref h0), (1, .int a0), (2, .int y2_23), (3, .int y3_23)]) hx hb dX11_rests_30 hl (by decide) rfl (fun ls hl => ?_)
        exact L_32 12 H locs G_23 y2_23 0 ls frL_23 ry1_23 r_49 (rg_w rl_0 (by decide) (by decide)) (by decide) (lv_sub hl [1, 2, 3, 4, 0] rfl) hv hH hS
  have L_10 : ∀ (H : Heap) (locs : List Loc) (G_10 : Gh) (ls : Array Slot), FR [27] [] [] G G_10 → lv_has ls 5 [] → (-1 : Int32) = F_X11_rests a0 → HT g Ty G_10 H → va_S (AF Ty s.heap.size) s.heap H locs → Wm p l e (wsG yX11_rests cX11_rests 5 (some .int)) ({ frames := 2, cells := 0, slots := 0, locals := 46 }) s m [.ref h0, .int a0] below meth c H locs (0) (0) (QwI g Ty s.heap.size (fun r u => u.1 = Ty ∧ FR [27] [] [] G u.2 ∧ F_X11_rests a0 = r)) 0 0 (AF Ty s.heap.size) (F0 m 10 ls []) := by
    intro H locs G_10 ls frL_10 hl hv hH hS
    refine lv_iconst (v := (-1)) hx hb dX11_rests_10 (by decide) ?_
    exact W.iret hx hb hr (fun t ht hWm => ⟨⟨(-1), (Ty, G_10), rfl, ⟨rfl, ⟨frL_10, hv.symm⟩⟩, by show HT g Ty G_10 t.heap; rw [ht]; exact hH⟩, hS.F ht⟩) hS.2.2 dX11_rests_11
  refine lv_iload_n hx hb dX11_rests_0 rfl (lv_at hl 1 rfl) ?_
  refine lv_if_lt (tgt := 10) hx hb dX11_rests_1 (by decide) (fun c_50 => ?_) (fun c_50 => ?_)
  · rw [if_pos c_50] at hv
    have r_51 : rgI (-2147483648) (-1) a0 := rg_w (rg_ltL (rg_top a0) rl_0 c_50) (by decide) (by decide)
    exact L_10 s.heap [] G ls FR.rf (lv_sub hl [] rfl) hv hH hS
  · rw [if_neg c_50] at hv
    have r_52 : rgI (0) (2147483647) a0 := rg_w (rg_leR rl_0 (rg_top a0) (nlt_le c_50)) (by decide) (by decide)
    refine lv_iload_n hx hb dX11_rests_4 rfl (lv_at hl 1 rfl) ?_
    refine lv_bipush (v := 20) hx hb dX11_rests_5 (by decide) ?_
    refine lv_icmp_le (tgt := 12) hx hb dX11_rests_7 (by decide) (fun c_53 => ?_) (fun c_53 => ?_)
    · rw [if_pos c_53] at hv
      have r_54 : rgI (0) (20) a0 := rg_w (rg_leL r_52 rl_20 c_53) (by decide) (by decide)
      refine lv_iconst (v := 0) hx hb dX11_rests_12 (by decide) ?_
      refine lv_istore_n (lv' := [(2, .int 0), (0, .ref h0), (1, .int a0)]) hx hb dX11_rests_13 rfl hl (by decide) rfl (fun ls hl => ?_)
      refine lv_aload_n hx hb dX11_rests_14 rfl (lv_at hl 1 rfl) ?_
      obtain ⟨_, ⟨rfl, kq_56, kq_57, kq_58, kq_59, kq_60, kq_61, kq_62, kq_63, kq_64, kq_65, kq_66, kq_67, kq_68, kq_69, t_71⟩, o_c_55⟩ := hH h0 _ k_h0
      refine hg_get hx hb hG igX11 hown hK o_c_55 rfl 5 (by decide) (hG _ mw_362) rfl dX11_rests_15 ?_
      obtain ⟨_, ⟨q_73, rfl, kq_73, rq_74, t_75⟩, o_c_72⟩ := hH (g.2.2 5) _ kq_61
      refine va_callv (va_runV (As := []) (rest := []) ⟨hx, hb, hml, hown, hts⟩ (c_X7_clear_x l g Ty G s.heap.size (g.2.2 5) kq_61 hD1) (cwV 0 hts (gwV mw_932 mw_588 mw_589 mw_80 mw_590) rfl rfl rfl hv_X7_clear ⟨Nat.le_of_ble_eq_true rfl, Nat.le_of_ble_eq_true rfl⟩) ⟨PcT_blind, hg_recv hK o_c_72 rfl, PcT_pre hK hH⟩ rfl rfl hl.1 rfl (lv_room (Nat.le_of_ble_eq_true rfl)) dX11_rests_18 ⟨Nat.zero_le _, Nat.zero_le _⟩) hS (fun q _ h => AF.mono hS.1 h) (fun q h => AF.mono hS.1 h) (fun ux_76 t H locs ht hvm hx_76 hB hz hk hS => ?_)
      obtain ⟨eTx_76, eGx_76⟩ := hx_76
      obtain ⟨G_77, eG_77⟩ : ∃ z, z = ux_76.2 := ⟨_, rfl⟩
      rw [← eG_77] at eGx_76
      obtain ⟨hfr_78, hex_79⟩ := eGx_76
      have fr_80 : FR [27] [] [] G G_77 := FR.tr FR.rf hfr_78 (by decide) (fun _ _ => trivial) (by decide)
      have hH : HT g Ty G_77 H := by rw [← ht, ← eTx_76, eG_77]; exact hB
      refine lv_iconst (v := 0) hx hb dX11_rests_21 (by decide) ?_
      refine lv_istore_n (lv' := [(3, .int 0), (2, .int 0), (0, .ref h0), (1, .int a0)]) hx hb dX11_rests_22 rfl hl (by decide) rfl (fun ls hl => ?_)
      exact L_23 12 H locs G_77 0 0 ls fr_80 r_54 (rg_w rl_0 (by decide) (by decide)) (by decide) (lv_sub hl [2, 3, 1, 0] rfl) hv hH hS
    · rw [if_neg c_53] at hv
      have r_81 : rgI (21) (2147483647) a0 := rg_w (rg_ltR rl_20 r_52 (nle_lt c_53)) (by decide) (by decide)
      exact L_10 s.heap [] G ls FR.rf (lv_sub hl [] rfl) hv hH hS

def F_X11_odds (r0 : Nat → Int32) (r1 : Nat → Int32) (m20 : Int32) (a0 : Int32) (a1 : Int32) (a2 : Int32) : Int32 := (if (F_X10_has m20 a0) = (0 : Int32) then (-1 : Int32) else (if a1 < (0 : Int32) then (-1 : Int32) else (if (16 : Int32) < a1 then (-1 : Int32) else (if a2 < (0 : Int32) then (-1 : Int32) else (if a2 ≤ (10 : Int32) then (if ((F_J6_bitCount_0f7a4 (F_X10_spreadOf r0 r1 a0)) - (1 : Int32)) ≤ (16 : Int32) then (0 : Int32) else (-1 : Int32)) else (-1 : Int32))))))
set_option maxHeartbeats 4000000 in
set_option maxRecDepth 100000 in
theorem c_X11_odds (l : Launch) (g : Gx) (Ty : TyM) (G : Gh) (sz : Nat) (h0 : Nat) (a0 : Int32) (a1 : Int32) (a2 : Int32) (k_h0 : Ty h0 = some (21, 0)) (hD1 : LD1 g) : Met l yX11_odds (wsG yX11_odds cX11_odds 5 (some .int)) ({ frames := 3, cells := 0, slots := 0, locals := 71 }) (PcT g Ty G sz [.ref h0, .int a0, .int a1, .int a2]) (QwI g Ty sz (fun r u => u.1 = Ty ∧ FR [27] [] [] G u.2 ∧ F_X11_odds (G.2.1 (g.2.2 71)) (G.2.1 (g.2.2 72)) (G.1 20) a0 a1 a2 = r)) 0 0 (AF Ty sz) := by
  refine Met.ofW (cc := cX11_odds) (maxL := 5) (ret := (some .int)) (by decide) rfl ?_
  intro p e s m args below meth c s₁ B hml hv
  obtain ⟨rfl, hsz, hK, hH⟩ := hv
  subst hsz
  have hx := B.exec
  have hb := B.bytes
  have hr := B.returns
  have hts := atoms_spec (ws := (wsG yX11_odds cX11_odds 5 (some .int))) B.pre
  have hG : ∀ w ∈ GW, w.before ([.ref h0, .int a0, .int a1, .int a2] : List Value).toArray s = true := fun w h => hts w (List.mem_cons_of_mem _ h)
  have hown : s.vm.findClass RX11 = some m.cls := findClass_of_methodNamed B.named
  have hlocks := B.notSynchronized
  have hl := lv_entry [.ref h0, .int a0, .int a1, .int a2] (n := 5) (Nat.le_of_ble_eq_true rfl)
  rw [lg_entry_eq]
  generalize (lg_sl [.ref h0, .int a0, .int a1, .int a2] ++ List.replicate (5 - (lg_sl [.ref h0, .int a0, .int a1, .int a2]).length) Slot.unset).toArray = ls at hl ⊢
  have hl : lv_has ls 5 [(0, .ref h0), (1, .int a0), (2, .int a1), (3, .int a2)] := hl
  have hv : (if (F_X10_has (G.1 20) a0) = (0 : Int32) then (-1 : Int32) else (if a1 < (0 : Int32) then (-1 : Int32) else (if (16 : Int32) < a1 then (-1 : Int32) else (if a2 < (0 : Int32) then (-1 : Int32) else (if a2 ≤ (10 : Int32) then (if ((F_J6_bitCount_0f7a4 (F_X10_spreadOf (G.2.1 (g.2.2 71)) (G.2.1 (g.2.2 72)) a0)) - (1 : Int32)) ≤ (16 : Int32) then (0 : Int32) else (-1 : Int32)) else (-1 : Int32)))))) = F_X11_odds (G.2.1 (g.2.2 71)) (G.2.1 (g.2.2 72)) (G.1 20) a0 a1 a2 := rfl
  have hS : va_S (AF Ty s.heap.size) s.heap s.heap [] := va_S.rf
  have L_31 : ∀ (H : Heap) (locs : List Loc) (G_31 : Gh) (ls : Array Slot), FR [27] [] [] G G_31 → lv_has ls 5 [] → (-1 : Int32) = F_X11_odds (G.2.1 (g.2.2 71)) (G.2.1 (g.2.2 72)) (G.1 20) a0 a1 a2 → HT g Ty G_31 H → va_S (AF Ty s.heap.size) s.heap H locs → Wm p l e (wsG yX11_odds cX11_odds 5 (some .int)) ({ frames := 3, cells := 0, slots := 0, locals := 71 }) s m [.ref h0, .int a0, .int a1, .int a2] below meth c H locs (0) (0) (QwI g Ty s.heap.size (fun r u => u.1 = Ty ∧ FR [27] [] [] G u.2 ∧ F_X11_odds (G.2.1 (g.2.2 71)) (G.2.1 (g.2.2 72)) (G.1 20) a0 a1 a2 = r)) 0 0 (AF Ty s.heap.size) (F0 m 31 ls []) := by
    intro H locs G_31 ls frL_31 hl hv hH hS
    refine lv_iconst (v := (-1)) hx hb dX11_odds_31 (by decide) ?_
    exact W.iret hx hb hr (fun t ht hWm => ⟨⟨(-1), (Ty, G_31), rfl, ⟨rfl, ⟨frL_31, hv.symm⟩⟩, by show HT g Ty G_31 t.heap; rw [ht]; exact hH⟩, hS.F ht⟩) hS.2.2 dX11_odds_32
  refine lv_aload_n hx hb dX11_odds_0 rfl (lv_at hl 0 rfl) ?_
  obtain ⟨_, ⟨rfl, kq_2, kq_3, kq_4, kq_5, kq_6, kq_7, kq_8, kq_9, kq_10, kq_11, kq_12, kq_13, kq_14, kq_15, t_17⟩, o_c_1⟩ := hH h0 _ k_h0
  refine hg_get hx hb hG igX11 hown hK o_c_1 rfl 0 (by decide) (hG _ mw_357) rfl dX11_odds_1 ?_
  refine lv_iload_n hx hb dX11_odds_4 rfl (lv_at hl 1 rfl) ?_
  obtain ⟨_, ⟨rfl, kq_19, kq_20, kq_21, t_26⟩, o_c_18⟩ := hH (g.2.2 0) _ kq_2
  refine vp_callSi (W.runV (As := [.int a0]) (rest := []) ⟨hx, hb, hml, hown, hts⟩ (c_X10_has l g Ty G (g.2.2 0) a0 kq_2) (cwV 1 hts (gwV mw_603 mw_604 mw_605 mw_77 mw_606) rfl rfl rfl hv_X10_has ⟨Nat.le_of_ble_eq_true rfl, Nat.le_of_ble_eq_true rfl⟩) ⟨PcH_blind, hg_recv hK o_c_18 rfl, PcH_pre hK hH⟩ rfl rfl hl.1 rfl (lv_room (Nat.le_of_ble_eq_true rfl)) dX11_odds_5 ⟨Nat.zero_le _, Nat.zero_le _⟩) (fun x_27 hx_27 => ?_)
  have rx_27 : rgI (0) (1) x_27 := hx_27.1
  try rw [← hx_27.2.2] at hv
  have ex_28 : x_27 = F_X10_has (G.1 20) a0 := hx_27.2.2
  try rw [← ex_28] at hv
  refine lv_if_eq (tgt := 31) hx hb dX11_odds_8 (by decide) (fun c_29 => ?_) (fun c_29 => ?_)
  · rw [if_pos c_29] at hv
    have r_30 : rgI (0) (0) x_27 := rg_w (rg_eq rl_0 c_29) (by decide) (by decide)
    exact L_31 s.heap [] G ls FR.rf (lv_sub hl [] rfl) hv hH hS
  · rw [if_neg c_29] at hv
    have r_31 : rgI (1) (1) x_27 := rg_w (rg_neL rx_27 rl_0 c_29) (by decide) (by decide)
    have r_32 : rgI (0) (23) a0 := rg_w (hx_27.2.1.resolve_left c_29) (by decide) (by decide)
    refine lv_iload_n hx hb dX11_odds_11 rfl (lv_at hl 2 rfl) ?_
    refine lv_if_lt (tgt := 31) hx hb dX11_odds_12 (by decide) (fun c_33 => ?_) (fun c_33 => ?_)
    · rw [if_pos c_33] at hv
      have r_34 : rgI (-2147483648) (-1) a1 := rg_w (rg_ltL (rg_top a1) rl_0 c_33) (by decide) (by decide)
      exact L_31 s.heap [] G ls FR.rf (lv_sub hl [] rfl) hv hH hS
    · rw [if_neg c_33] at hv
      have r_35 : rgI (0) (2147483647) a1 := rg_w (rg_leR rl_0 (rg_top a1) (nlt_le c_33)) (by decide) (by decide)
      refine lv_iload_n hx hb dX11_odds_15 rfl (lv_at hl 2 rfl) ?_
      refine lv_bipush (v := 16) hx hb dX11_odds_16 (by decide) ?_
      refine lv_icmp_gt (tgt := 31) hx hb dX11_odds_18 (by decide) (fun c_36 => ?_) (fun c_36 => ?_)
      · rw [if_pos c_36] at hv
        have r_37 : rgI (17) (2147483647) a1 := rg_w (rg_ltR rl_16 r_35 c_36) (by decide) (by decide)
        exact L_31 s.heap [] G ls FR.rf (lv_sub hl [] rfl) hv hH hS
      · rw [if_neg c_36] at hv
        have r_38 : rgI (0) (16) a1 := rg_w (rg_leL r_35 rl_16 (nlt_le c_36)) (by decide) (by decide)
        refine lv_iload_n hx hb dX11_odds_21 rfl (lv_at hl 3 rfl) ?_
        refine lv_if_lt (tgt := 31) hx hb dX11_odds_22 (by decide) (fun c_39 => ?_) (fun c_39 => ?_)
        · rw [if_pos c_39] at hv
          have r_40 : rgI (-2147483648) (-1) a2 := rg_w (rg_ltL (rg_top a2) rl_0 c_39) (by decide) (by decide)
          exact L_31 s.heap [] G ls FR.rf (lv_sub hl [] rfl) hv hH hS
        · rw [if_neg c_39] at hv
          have r_41 : rgI (0) (2147483647) a2 := rg_w (rg_leR rl_0 (rg_top a2) (nlt_le c_39)) (by decide) (by decide)
          refine lv_iload_n hx hb dX11_odds_25 rfl (lv_at hl 3 rfl) ?_
          refine lv_bipush (v := 10) hx hb dX11_odds_26 (by decide) ?_
          refine lv_icmp_le (tgt := 33) hx hb dX11_odds_28 (by decide) (fun c_42 => ?_) (fun c_42 => ?_)
          · rw [if_pos c_42] at hv
            have r_43 : rgI (0) (10) a2 := rg_w (rg_leL r_41 rl_10 c_42) (by decide) (by decide)
            refine lv_aload_n hx hb dX11_odds_33 rfl (lv_at hl 0 rfl) ?_
            refine hg_get hx hb hG igX11 hown hK o_c_1 rfl 0 (by decide) (hG _ mw_357) rfl dX11_odds_34 ?_
            refine lv_iload_n hx hb dX11_odds_37 rfl (lv_at hl 1 rfl) ?_
            refine vp_callSi (W.runV (As := [.int a0]) (rest := []) ⟨hx, hb, hml, hown, hts⟩ (c_X10_spreadOf l g Ty G (g.2.2 0) a0 kq_2) (cwV 1 hts (gwV mw_914 mw_650 mw_651 mw_77 mw_652) rfl rfl rfl hv_X10_spreadOf ⟨Nat.le_of_ble_eq_true rfl, Nat.le_of_ble_eq_true rfl⟩) ⟨PcH_blind, hg_recv hK o_c_18 rfl, PcH_pre hK hH⟩ rfl rfl hl.1 rfl (lv_room (Nat.le_of_ble_eq_true rfl)) dX11_odds_38 ⟨Nat.zero_le _, Nat.zero_le _⟩) (fun x_44 hx_44 => ?_)
            try rw [← hx_44] at hv
            have ex_45 : x_44 = F_X10_spreadOf (G.2.1 (g.2.2 71)) (G.2.1 (g.2.2 72)) a0 := hx_44
            try rw [← ex_45] at hv
            refine vp_callSi (W.runS (As := [.int x_44]) (rest := []) ⟨hx, hb, hml, hown, hts⟩ (c_J6_bitCount_x l g Ty G x_44 ) (cwSx 1 hts hG (gwC mw_620) mw_99 mw_618 mw_619 rfl rfl rfl hd_J6_bitCount_0f7a4 ⟨Nat.le_of_ble_eq_true rfl, Nat.le_of_ble_eq_true rfl⟩) ⟨PcH_blind, PcH_pre hK hH⟩ rfl rfl hl.1 rfl (lv_room (Nat.le_of_ble_eq_true rfl)) dX11_odds_41 ⟨Nat.zero_le _, Nat.zero_le _⟩) (fun x_46 hx_46 => ?_)
            have rx_46 : rgI (0) (63) x_46 := hx_46.1
            try rw [← hx_46.2] at hv
            try rw [← hx_46.2] at hv
            refine lv_iconst (v := 1) hx hb dX11_odds_44 (by decide) ?_
            refine lv_isub hx hb dX11_odds_45 ?_
            refine lv_topi (fun x_47 ex_47 => ?_)
            try rw [← ex_47] at hv
            have rx_47 : rgI (-1) (62) x_47 := by rw [ex_47]; exact rg_w (rg_sub rx_46 rl_1 (by decide) (by decide)) (by decide) (by decide)
            refine lv_istore (lv' := [(4, .int x_47), (0, .ref h0), (1, .int a0), (2, .int a1), (3, .int a2)]) hx hb dX11_odds_46 hl (by decide) rfl (fun ls hl => ?_)
            refine lv_iload hx hb dX11_odds_48 (lv_at hl 0 rfl) ?_
            refine lv_bipush (v := 16) hx hb dX11_odds_50 (by decide) ?_
            refine lv_icmp_le (tgt := 57) hx hb dX11_odds_52 (by decide) (fun c_48 => ?_) (fun c_48 => ?_)
            · rw [if_pos c_48] at hv
              have r_49 : rgI (-1) (16) x_47 := rg_w (rg_leL rx_47 rl_16 c_48) (by decide) (by decide)
              refine lv_aload_n hx hb dX11_odds_57 rfl (lv_at hl 1 rfl) ?_
              refine hg_get hx hb hG igX11 hown hK o_c_1 rfl 13 (by decide) (hG _ mw_370) rfl dX11_odds_58 ?_
              refine lv_iload hx hb dX11_odds_61 (lv_at hl 0 rfl) ?_
              refine lv_iload_n hx hb dX11_odds_63 rfl (lv_at hl 3 rfl) ?_
              refine lv_iload_n hx hb dX11_odds_64 rfl (lv_at hl 4 rfl) ?_
              obtain ⟨_, ⟨q_51, q_52, q_53, rfl, kq_51⟩, o_c_50⟩ := hH (g.2.2 13) _ kq_15
              refine va_callv (va_runV (As := [.int x_47, .int a1, .int a2]) (rest := []) ⟨hx, hb, hml, hown, hts⟩ (c_X1_reckon l g Ty G s.heap.size (g.2.2 13) x_47 a1 a2 kq_15) (cwV 3 hts (gwV mw_1111 mw_1112 mw_1113 mw_87 mw_1114) rfl rfl rfl hv_X1_reckon ⟨Nat.le_of_ble_eq_true rfl, Nat.le_of_ble_eq_true rfl⟩) ⟨PcT_blind, hg_recv hK o_c_50 rfl, PcT_pre hK hH⟩ rfl rfl hl.1 rfl (lv_room (Nat.le_of_ble_eq_true rfl)) dX11_odds_65 ⟨Nat.zero_le _, Nat.zero_le _⟩) hS (fun q _ h => AF.mono hS.1 h) (fun q h => AF.mono hS.1 h) (fun ux_54 t H locs ht hvm hx_54 hB hz hk hS => ?_)
              have hH : HT g Ty G H := by rw [← ht]; rw [hx_54] at hB; exact hB
              refine lv_aload_n hx hb dX11_odds_68 rfl (lv_at hl 1 rfl) ?_
              obtain ⟨_, ⟨rfl, kq_56, kq_57, kq_58, kq_59, kq_60, kq_61, kq_62, kq_63, kq_64, kq_65, kq_66, kq_67, kq_68, kq_69, t_71⟩, o_c_55⟩ := hH h0 _ k_h0
              refine hg_get hx hb hG igX11 hown hK o_c_55 rfl 5 (by decide) (hG _ mw_362) rfl dX11_odds_69 ?_
              refine lv_aload_n hx hb dX11_odds_72 rfl (lv_at hl 1 rfl) ?_
              refine hg_get hx hb hG igX11 hown hK o_c_55 rfl 13 (by decide) (hG _ mw_370) rfl dX11_odds_73 ?_
              obtain ⟨_, ⟨q_73, q_74, q_75, rfl, kq_73⟩, o_c_72⟩ := hH (g.2.2 13) _ kq_69
              refine hg_getN hx hb hG igX1 hown hK o_c_72 rfl 1 (by decide) ((hK.2.1 _ nwf_347).use rfl) rfl dX11_odds_76 ?_
              refine lv_aload_n hx hb dX11_odds_79 rfl (lv_at hl 1 rfl) ?_
              refine hg_get hx hb hG igX11 hown hK o_c_55 rfl 13 (by decide) (hG _ mw_370) rfl dX11_odds_80 ?_
              refine hg_getN hx hb hG igX1 hown hK o_c_72 rfl 2 (by decide) ((hK.2.1 _ nwf_349).use rfl) rfl dX11_odds_83 ?_
              obtain ⟨_, ⟨q_77, rfl, kq_77, rq_78, t_79⟩, o_c_76⟩ := hH (g.2.2 5) _ kq_61
              refine va_callv (va_runV (As := [.long q_74, .long q_75]) (rest := []) ⟨hx, hb, hml, hown, hts⟩ (c_X7_tellTwo_x l g Ty G H.size (g.2.2 5) q_74 q_75 kq_61 hD1) (cwV 2 hts (gwV mw_753 mw_754 mw_755 mw_80 mw_756) rfl rfl rfl hv_X7_tellTwo ⟨Nat.le_of_ble_eq_true rfl, Nat.le_of_ble_eq_true rfl⟩) ⟨PcT_blind, hg_recv hK o_c_76 rfl, PcT_pre hK hH⟩ rfl rfl hl.1 rfl (lv_room (Nat.le_of_ble_eq_true rfl)) dX11_odds_86 ⟨Nat.zero_le _, Nat.zero_le _⟩) hS (fun q _ h => AF.mono hS.1 h) (fun q h => AF.mono hS.1 h) (fun ux_80 t H locs ht hvm hx_80 hB hz hk hS => ?_)
              obtain ⟨eTx_80, eGx_80⟩ := hx_80
              obtain ⟨G_81, eG_81⟩ : ∃ z, z = ux_80.2 := ⟨_, rfl⟩
              rw [← eG_81] at eGx_80
              obtain ⟨hfr_82, hex_83⟩ := eGx_80
              have fr_84 : FR [27] [] [] G G_81 := FR.tr FR.rf hfr_82 (by decide) (fun _ _ => trivial) (by decide)
              have u_85 : G_81.1 20 = (G.1 20) := (hfr_82.1 20 (by decide))
              have w_86 : G_81.2.1 (g.2.2 71) = (G.2.1 (g.2.2 71)) := (hfr_82.2.1 (g.2.2 71) trivial)
              have w_87 : G_81.2.1 (g.2.2 72) = (G.2.1 (g.2.2 72)) := (hfr_82.2.1 (g.2.2 72) trivial)
              have hH : HT g Ty G_81 H := by rw [← ht, ← eTx_80, eG_81]; exact hB
              refine lv_iconst (v := 0) hx hb dX11_odds_89 (by decide) ?_
              exact W.iret hx hb hr (fun t ht hWm => ⟨⟨0, (Ty, G_81), rfl, ⟨rfl, ⟨fr_84, hv.symm⟩⟩, by show HT g Ty G_81 t.heap; rw [ht]; exact hH⟩, hS.F ht⟩) hS.2.2 dX11_odds_90
            · rw [if_neg c_48] at hv
              have r_88 : rgI (17) (62) x_47 := rg_w (rg_ltR rl_16 rx_47 (nle_lt c_48)) (by decide) (by decide)
              refine lv_iconst (v := (-1)) hx hb dX11_odds_55 (by decide) ?_
              exact W.iret hx hb hr (fun t ht hWm => ⟨⟨(-1), (Ty, G), rfl, ⟨rfl, ⟨FR.rf, hv.symm⟩⟩, by show HT g Ty G t.heap; rw [ht]; exact hH⟩, hS.F ht⟩) hS.2.2 dX11_odds_56
          · rw [if_neg c_42] at hv
            have r_89 : rgI (11) (2147483647) a2 := rg_w (rg_ltR rl_10 r_41 (nle_lt c_42)) (by decide) (by decide)
            exact L_31 s.heap [] G ls FR.rf (lv_sub hl [] rfl) hv hH hS

def F_X11_count (r0 : Nat → Int32) (r1 : Nat → Int32) (m0 : Int32) (m1 : Int32) (m2 : Int32) (m20 : Int32) (m21 : Int32) (m22 : Int32) (m23 : Int32) (m27 : Int32) (m28 : Int32) (a0 : Int32) : Int32 := (if a0 = (0 : Int32) then m20 else (if a0 = (1 : Int32) then (F_X10_withAnyGroup r0 m20) else (if a0 = (2 : Int32) then (F_X10_withAnyMaster r1 m20) else (if a0 = (3 : Int32) then m21 else (if a0 = (4 : Int32) then m22 else (if a0 = (5 : Int32) then m23 else (if a0 = (6 : Int32) then m1 else (if a0 = (7 : Int32) then m2 else (if a0 = (8 : Int32) then m28 else (if a0 = (9 : Int32) then m27 else (if a0 = (10 : Int32) then m0 else (-1 : Int32))))))))))))
set_option maxHeartbeats 4000000 in
set_option maxRecDepth 100000 in
theorem c_X11_count (l : Launch) (g : Gx) (Ty : TyM) (G : Gh) (h0 : Nat) (a0 : Int32) (k_h0 : Ty h0 = some (21, 0)) : Met l yX11_count (wsG yX11_count cX11_count 2 (some .int)) ({ frames := 2, cells := 0, slots := 0, locals := 43 }) (PcH g Ty G [.ref h0, .int a0]) (vp_Si (fun r => r = F_X11_count (G.2.1 (g.2.2 71)) (G.2.1 (g.2.2 72)) (G.1 0) (G.1 1) (G.1 2) (G.1 20) (G.1 21) (G.1 22) (G.1 23) (G.1 27) (G.1 28) a0)) 0 0 (fun _ => False) := by
  refine Met.ofW (cc := cX11_count) (maxL := 2) (ret := (some .int)) (by decide) rfl ?_
  intro p e s m args below meth c s₁ B hml hv
  obtain ⟨rfl, hK, hH⟩ := hv
  have hx := B.exec
  have hb := B.bytes
  have hr := B.returns
  have hts := atoms_spec (ws := (wsG yX11_count cX11_count 2 (some .int))) B.pre
  have hG : ∀ w ∈ GW, w.before ([.ref h0, .int a0] : List Value).toArray s = true := fun w h => hts w (List.mem_cons_of_mem _ h)
  have hown : s.vm.findClass RX11 = some m.cls := findClass_of_methodNamed B.named
  have hlocks := B.notSynchronized
  have hl := lv_entry [.ref h0, .int a0] (n := 2) (Nat.le_of_ble_eq_true rfl)
  rw [lg_entry_eq]
  generalize (lg_sl [.ref h0, .int a0] ++ List.replicate (2 - (lg_sl [.ref h0, .int a0]).length) Slot.unset).toArray = ls at hl ⊢
  have hl : lv_has ls 2 [(0, .ref h0), (1, .int a0)] := hl
  have hv : (if a0 = (0 : Int32) then (G.1 20) else (if a0 = (1 : Int32) then (F_X10_withAnyGroup (G.2.1 (g.2.2 71)) (G.1 20)) else (if a0 = (2 : Int32) then (F_X10_withAnyMaster (G.2.1 (g.2.2 72)) (G.1 20)) else (if a0 = (3 : Int32) then (G.1 21) else (if a0 = (4 : Int32) then (G.1 22) else (if a0 = (5 : Int32) then (G.1 23) else (if a0 = (6 : Int32) then (G.1 1) else (if a0 = (7 : Int32) then (G.1 2) else (if a0 = (8 : Int32) then (G.1 28) else (if a0 = (9 : Int32) then (G.1 27) else (if a0 = (10 : Int32) then (G.1 0) else (-1 : Int32)))))))))))) = F_X11_count (G.2.1 (g.2.2 71)) (G.2.1 (g.2.2 72)) (G.1 0) (G.1 1) (G.1 2) (G.1 20) (G.1 21) (G.1 22) (G.1 23) (G.1 27) (G.1 28) a0 := rfl
  refine lv_iload_n hx hb dX11_count_0 rfl (lv_at hl 1 rfl) ?_
  by_cases c_1 : a0 = 0
  · refine lv_tableIn (tgt := 60) hx hb dX11_count_1 (by rw [c_1]; decide) (by rw [c_1]; decide) (off := 59) (by rw [c_1]; rfl) (by decide) ?_
    rw [if_pos c_1] at hv
    have r_2 : rgI (0) (0) a0 := rg_w (rg_eq rl_0 c_1) (by decide) (by decide)
    refine lv_aload_n hx hb dX11_count_60 rfl (lv_at hl 0 rfl) ?_
    obtain ⟨_, ⟨rfl, kq_4, kq_5, kq_6, kq_7, kq_8, kq_9, kq_10, kq_11, kq_12, kq_13, kq_14, kq_15, kq_16, kq_17, t_19⟩, o_c_3⟩ := hH h0 _ k_h0
    refine hg_get hx hb hG igX11 hown hK o_c_3 rfl 0 (by decide) (hG _ mw_357) rfl dX11_count_61 ?_
    obtain ⟨_, ⟨rfl, kq_21, kq_22, kq_23, t_28⟩, o_c_20⟩ := hH (g.2.2 0) _ kq_4
    refine hg_getN hx hb hG igX10 hown hK o_c_20 rfl 3 (by decide) ((hK.2.1 _ nwf_121).use rfl) rfl dX11_count_64 ?_
    exact W.iret hx hb hr (fun t ht hW => ⟨(G.1 20), rfl, hv, ht⟩) (fun q h => by cases h) dX11_count_67
  rw [if_neg c_1] at hv
  by_cases c_29 : a0 = 1
  · refine lv_tableIn (tgt := 68) hx hb dX11_count_1 (by rw [c_29]; decide) (by rw [c_29]; decide) (off := 67) (by rw [c_29]; rfl) (by decide) ?_
    rw [if_pos c_29] at hv
    have r_30 : rgI (1) (1) a0 := rg_w (rg_eq rl_1 c_29) (by decide) (by decide)
    refine lv_aload_n hx hb dX11_count_68 rfl (lv_at hl 0 rfl) ?_
    obtain ⟨_, ⟨rfl, kq_32, kq_33, kq_34, kq_35, kq_36, kq_37, kq_38, kq_39, kq_40, kq_41, kq_42, kq_43, kq_44, kq_45, t_47⟩, o_c_31⟩ := hH h0 _ k_h0
    refine hg_get hx hb hG igX11 hown hK o_c_31 rfl 0 (by decide) (hG _ mw_357) rfl dX11_count_69 ?_
    obtain ⟨_, ⟨rfl, kq_49, kq_50, kq_51, t_56⟩, o_c_48⟩ := hH (g.2.2 0) _ kq_32
    refine vp_callSi (W.runV (As := []) (rest := []) ⟨hx, hb, hml, hown, hts⟩ (c_X10_withAnyGroup l g Ty G (g.2.2 0) kq_32) (cwV 0 hts (gwV mw_1175 mw_1176 mw_1177 mw_77 mw_1178) rfl rfl rfl hv_X10_withAnyGroup ⟨Nat.le_of_ble_eq_true rfl, Nat.le_of_ble_eq_true rfl⟩) ⟨PcH_blind, hg_recv hK o_c_48 rfl, PcH_pre hK hH⟩ rfl rfl hl.1 rfl (lv_room (Nat.le_of_ble_eq_true rfl)) dX11_count_72 ⟨Nat.zero_le _, Nat.zero_le _⟩) (fun x_57 hx_57 => ?_)
    try rw [← hx_57] at hv
    have ex_58 : x_57 = F_X10_withAnyGroup (G.2.1 (g.2.2 71)) (G.1 20) := hx_57
    try rw [← ex_58] at hv
    exact W.iret hx hb hr (fun t ht hW => ⟨x_57, rfl, hv, ht⟩) (fun q h => by cases h) dX11_count_75
  rw [if_neg c_29] at hv
  by_cases c_59 : a0 = 2
  · refine lv_tableIn (tgt := 76) hx hb dX11_count_1 (by rw [c_59]; decide) (by rw [c_59]; decide) (off := 75) (by rw [c_59]; rfl) (by decide) ?_
    rw [if_pos c_59] at hv
    have r_60 : rgI (2) (2) a0 := rg_w (rg_eq rl_2 c_59) (by decide) (by decide)
    refine lv_aload_n hx hb dX11_count_76 rfl (lv_at hl 0 rfl) ?_
    obtain ⟨_, ⟨rfl, kq_62, kq_63, kq_64, kq_65, kq_66, kq_67, kq_68, kq_69, kq_70, kq_71, kq_72, kq_73, kq_74, kq_75, t_77⟩, o_c_61⟩ := hH h0 _ k_h0
    refine hg_get hx hb hG igX11 hown hK o_c_61 rfl 0 (by decide) (hG _ mw_357) rfl dX11_count_77 ?_
    obtain ⟨_, ⟨rfl, kq_79, kq_80, kq_81, t_86⟩, o_c_78⟩ := hH (g.2.2 0) _ kq_62
    refine vp_callSi (W.runV (As := []) (rest := []) ⟨hx, hb, hml, hown, hts⟩ (c_X10_withAnyMaster l g Ty G (g.2.2 0) kq_62) (cwV 0 hts (gwV mw_1179 mw_1180 mw_1181 mw_77 mw_1182) rfl rfl rfl hv_X10_withAnyMaster ⟨Nat.le_of_ble_eq_true rfl, Nat.le_of_ble_eq_true rfl⟩) ⟨PcH_blind, hg_recv hK o_c_78 rfl, PcH_pre hK hH⟩ rfl rfl hl.1 rfl (lv_room (Nat.le_of_ble_eq_true rfl)) dX11_count_80 ⟨Nat.zero_le _, Nat.zero_le _⟩) (fun x_87 hx_87 => ?_)
    try rw [← hx_87] at hv
    have ex_88 : x_87 = F_X10_withAnyMaster (G.2.1 (g.2.2 72)) (G.1 20) := hx_87
    try rw [← ex_88] at hv
    exact W.iret hx hb hr (fun t ht hW => ⟨x_87, rfl, hv, ht⟩) (fun q h => by cases h) dX11_count_83
  rw [if_neg c_59] at hv
  by_cases c_89 : a0 = 3
  · refine lv_tableIn (tgt := 84) hx hb dX11_count_1 (by rw [c_89]; decide) (by rw [c_89]; decide) (off := 83) (by rw [c_89]; rfl) (by decide) ?_
    rw [if_pos c_89] at hv
    have r_90 : rgI (3) (3) a0 := rg_w (rg_eq rl_3 c_89) (by decide) (by decide)
    refine lv_aload_n hx hb dX11_count_84 rfl (lv_at hl 0 rfl) ?_
    obtain ⟨_, ⟨rfl, kq_92, kq_93, kq_94, kq_95, kq_96, kq_97, kq_98, kq_99, kq_100, kq_101, kq_102, kq_103, kq_104, kq_105, t_107⟩, o_c_91⟩ := hH h0 _ k_h0
    refine hg_get hx hb hG igX11 hown hK o_c_91 rfl 0 (by decide) (hG _ mw_357) rfl dX11_count_85 ?_
    obtain ⟨_, ⟨rfl, kq_109, kq_110, kq_111, t_116⟩, o_c_108⟩ := hH (g.2.2 0) _ kq_92
    refine hg_getN hx hb hG igX10 hown hK o_c_108 rfl 4 (by decide) ((hK.2.1 _ nwf_123).use rfl) rfl dX11_count_88 ?_
    exact W.iret hx hb hr (fun t ht hW => ⟨(G.1 21), rfl, hv, ht⟩) (fun q h => by cases h) dX11_count_91
  rw [if_neg c_89] at hv
  by_cases c_117 : a0 = 4
  · refine lv_tableIn (tgt := 92) hx hb dX11_count_1 (by rw [c_117]; decide) (by rw [c_117]; decide) (off := 91) (by rw [c_117]; rfl) (by decide) ?_
    rw [if_pos c_117] at hv
    have r_118 : rgI (4) (4) a0 := rg_w (rg_eq rl_4 c_117) (by decide) (by decide)
    refine lv_aload_n hx hb dX11_count_92 rfl (lv_at hl 0 rfl) ?_
    obtain ⟨_, ⟨rfl, kq_120, kq_121, kq_122, kq_123, kq_124, kq_125, kq_126, kq_127, kq_128, kq_129, kq_130, kq_131, kq_132, kq_133, t_135⟩, o_c_119⟩ := hH h0 _ k_h0
    refine hg_get hx hb hG igX11 hown hK o_c_119 rfl 0 (by decide) (hG _ mw_357) rfl dX11_count_93 ?_
    obtain ⟨_, ⟨rfl, kq_137, kq_138, kq_139, t_144⟩, o_c_136⟩ := hH (g.2.2 0) _ kq_120
    refine hg_getN hx hb hG igX10 hown hK o_c_136 rfl 5 (by decide) ((hK.2.1 _ nwf_127).use rfl) rfl dX11_count_96 ?_
    exact W.iret hx hb hr (fun t ht hW => ⟨(G.1 22), rfl, hv, ht⟩) (fun q h => by cases h) dX11_count_99
  rw [if_neg c_117] at hv
  by_cases c_145 : a0 = 5
  · refine lv_tableIn (tgt := 100) hx hb dX11_count_1 (by rw [c_145]; decide) (by rw [c_145]; decide) (off := 99) (by rw [c_145]; rfl) (by decide) ?_
    rw [if_pos c_145] at hv
    have r_146 : rgI (5) (5) a0 := rg_w (rg_eq rl_5 c_145) (by decide) (by decide)
    refine lv_aload_n hx hb dX11_count_100 rfl (lv_at hl 0 rfl) ?_
    obtain ⟨_, ⟨rfl, kq_148, kq_149, kq_150, kq_151, kq_152, kq_153, kq_154, kq_155, kq_156, kq_157, kq_158, kq_159, kq_160, kq_161, t_163⟩, o_c_147⟩ := hH h0 _ k_h0
    refine hg_get hx hb hG igX11 hown hK o_c_147 rfl 0 (by decide) (hG _ mw_357) rfl dX11_count_101 ?_
    obtain ⟨_, ⟨rfl, kq_165, kq_166, kq_167, t_172⟩, o_c_164⟩ := hH (g.2.2 0) _ kq_148
    refine hg_getN hx hb hG igX10 hown hK o_c_164 rfl 6 (by decide) ((hK.2.1 _ nwf_129).use rfl) rfl dX11_count_104 ?_
    exact W.iret hx hb hr (fun t ht hW => ⟨(G.1 23), rfl, hv, ht⟩) (fun q h => by cases h) dX11_count_107
  rw [if_neg c_145] at hv
  by_cases c_173 : a0 = 6
  · refine lv_tableIn (tgt := 108) hx hb dX11_count_1 (by rw [c_173]; decide) (by rw [c_173]; decide) (off := 107) (by rw [c_173]; rfl) (by decide) ?_
    rw [if_pos c_173] at hv
    have r_174 : rgI (6) (6) a0 := rg_w (rg_eq rl_6 c_173) (by decide) (by decide)
    refine lv_aload_n hx hb dX11_count_108 rfl (lv_at hl 0 rfl) ?_
    obtain ⟨_, ⟨rfl, kq_176, kq_177, kq_178, kq_179, kq_180, kq_181, kq_182, kq_183, kq_184, kq_185, kq_186, kq_187, kq_188, kq_189, t_191⟩, o_c_175⟩ := hH h0 _ k_h0
    refine hg_get hx hb hG igX11 hown hK o_c_175 rfl 11 (by decide) (hG _ mw_368) rfl dX11_count_109 ?_
    obtain ⟨_, ⟨q_194, q_195, rfl, kq_193, kq_194, kq_195, kq_197, rq_196, t_199⟩, o_c_192⟩ := hH (g.2.2 11) _ kq_187
    refine hg_getN hx hb hG igX3 hown hK o_c_192 rfl 3 (by decide) ((hK.2.1 _ nwf_298).use rfl) rfl dX11_count_112 ?_
    exact W.iret hx hb hr (fun t ht hW => ⟨(G.1 1), rfl, hv, ht⟩) (fun q h => by cases h) dX11_count_115
  rw [if_neg c_173] at hv
  by_cases c_200 : a0 = 7
  · refine lv_tableIn (tgt := 116) hx hb dX11_count_1 (by rw [c_200]; decide) (by rw [c_200]; decide) (off := 115) (by rw [c_200]; rfl) (by decide) ?_
    rw [if_pos c_200] at hv
    have r_201 : rgI (7) (7) a0 := rg_w (rg_eq rl_7 c_200) (by decide) (by decide)
    refine lv_aload_n hx hb dX11_count_116 rfl (lv_at hl 0 rfl) ?_
    obtain ⟨_, ⟨rfl, kq_203, kq_204, kq_205, kq_206, kq_207, kq_208, kq_209, kq_210, kq_211, kq_212, kq_213, kq_214, kq_215, kq_216, t_218⟩, o_c_202⟩ := hH h0 _ k_h0
    refine hg_get hx hb hG igX11 hown hK o_c_202 rfl 12 (by decide) (hG _ mw_369) rfl dX11_count_117 ?_
    obtain ⟨_, ⟨q_220, q_221, q_222, q_224, rfl, kq_220, kq_221, kq_222, rq_223, t_225⟩, o_c_219⟩ := hH (g.2.2 12) _ kq_215
    refine hg_getN hx hb hG igX5 hown hK o_c_219 rfl 3 (by decide) ((hK.2.1 _ nwf_325).use rfl) rfl dX11_count_120 ?_
    exact W.iret hx hb hr (fun t ht hW => ⟨(G.1 2), rfl, hv, ht⟩) (fun q h => by cases h) dX11_count_123
  rw [if_neg c_200] at hv
  by_cases c_226 : a0 = 8
  · refine lv_tableIn (tgt := 124) hx hb dX11_count_1 (by rw [c_226]; decide) (by rw [c_226]; decide) (off := 123) (by rw [c_226]; rfl) (by decide) ?_
    rw [if_pos c_226] at hv
    have r_227 : rgI (8) (8) a0 := rg_w (rg_eq rl_8 c_226) (by decide) (by decide)
    refine lv_aload_n hx hb dX11_count_124 rfl (lv_at hl 0 rfl) ?_
    obtain ⟨_, ⟨rfl, kq_229, kq_230, kq_231, kq_232, kq_233, kq_234, kq_235, kq_236, kq_237, kq_238, kq_239, kq_240, kq_241, kq_242, t_244⟩, o_c_228⟩ := hH h0 _ k_h0
    refine hg_get hx hb hG igX11 hown hK o_c_228 rfl 2 (by decide) (hG _ mw_359) rfl dX11_count_125 ?_
    obtain ⟨_, ⟨q_246, q_247, rfl, kq_246, t_249⟩, o_c_245⟩ := hH (g.2.2 2) _ kq_231
    refine hg_getN hx hb hG igX4 hown hK o_c_245 rfl 2 (by decide) ((hK.2.1 _ nwf_157).use rfl) rfl dX11_count_128 ?_
    exact W.iret hx hb hr (fun t ht hW => ⟨(G.1 28), rfl, hv, ht⟩) (fun q h => by cases h) dX11_count_131
  rw [if_neg c_226] at hv
  by_cases c_250 : a0 = 9
  · refine lv_tableIn (tgt := 132) hx hb dX11_count_1 (by rw [c_250]; decide) (by rw [c_250]; decide) (off := 131) (by rw [c_250]; rfl) (by decide) ?_
    rw [if_pos c_250] at hv
    have r_251 : rgI (9) (9) a0 := rg_w (rg_eq rl_9 c_250) (by decide) (by decide)
    refine lv_aload_n hx hb dX11_count_132 rfl (lv_at hl 0 rfl) ?_
    obtain ⟨_, ⟨rfl, kq_253, kq_254, kq_255, kq_256, kq_257, kq_258, kq_259, kq_260, kq_261, kq_262, kq_263, kq_264, kq_265, kq_266, t_268⟩, o_c_252⟩ := hH h0 _ k_h0
    refine hg_get hx hb hG igX11 hown hK o_c_252 rfl 5 (by decide) (hG _ mw_362) rfl dX11_count_133 ?_
    obtain ⟨_, ⟨q_270, rfl, kq_270, rq_271, t_272⟩, o_c_269⟩ := hH (g.2.2 5) _ kq_258
    refine hg_getN hx hb hG igX7 hown hK o_c_269 rfl 1 (by decide) ((hK.2.1 _ nwf_189).use rfl) rfl dX11_count_136 ?_
    exact W.iret hx hb hr (fun t ht hW => ⟨(G.1 27), rfl, hv, ht⟩) (fun q h => by cases h) dX11_count_139
  rw [if_neg c_250] at hv
  by_cases c_273 : a0 = 10
  · refine lv_tableIn (tgt := 140) hx hb dX11_count_1 (by rw [c_273]; decide) (by rw [c_273]; decide) (off := 139) (by rw [c_273]; rfl) (by decide) ?_
    rw [if_pos c_273] at hv
    have r_274 : rgI (10) (10) a0 := rg_w (rg_eq rl_10 c_273) (by decide) (by decide)
    refine lv_aload_n hx hb dX11_count_140 rfl (lv_at hl 0 rfl) ?_
    obtain ⟨_, ⟨rfl, kq_276, kq_277, kq_278, kq_279, kq_280, kq_281, kq_282, kq_283, kq_284, kq_285, kq_286, kq_287, kq_288, kq_289, t_291⟩, o_c_275⟩ := hH h0 _ k_h0
    refine hg_get hx hb hG igX11 hown hK o_c_275 rfl 4 (by decide) (hG _ mw_361) rfl dX11_count_141 ?_
    obtain ⟨_, ⟨q_293, rfl, kq_293, rq_294, t_295⟩, o_c_292⟩ := hH (g.2.2 4) _ kq_280
    refine hg_getN hx hb hG igX9 hown hK o_c_292 rfl 1 (by decide) ((hK.2.1 _ nwf_174).use rfl) rfl dX11_count_144 ?_
    exact W.iret hx hb hr (fun t ht hW => ⟨(G.1 0), rfl, hv, ht⟩) (fun q h => by cases h) dX11_count_147
  rw [if_neg c_273] at hv
  refine lv_tableOut (tgt := 148) hx hb dX11_count_1 (by have := lv_neT (a := 0) c_1 rfl; have := lv_neT (a := 1) c_29 rfl; have := lv_neT (a := 2) c_59 rfl; have := lv_neT (a := 3) c_89 rfl; have := lv_neT (a := 4) c_117 rfl; have := lv_neT (a := 5) c_145 rfl; have := lv_neT (a := 6) c_173 rfl; have := lv_neT (a := 7) c_200 rfl; have := lv_neT (a := 8) c_226 rfl; have := lv_neT (a := 9) c_250 rfl; have := lv_neT (a := 10) c_273 rfl; omega) (by decide) ?_
  refine lv_iconst (v := (-1)) hx hb dX11_count_148 (by decide) ?_
  exact W.iret hx hb hr (fun t ht hW => ⟨(-1), rfl, hv, ht⟩) (fun q h => by cases h) dX11_count_149

def F_X3_bestQuestion_29 : Nat → Int32 → Int32 → Int32 → Int32 → (Nat → Int32) → (Nat → Int32) → (Nat → Int32) → (Nat → Int32) → Int32 → Int32 → Int32 → Int32 × (Nat → Int32) × Int32
  | 0, _, y2, _, _, _, _, _, yr3, _, _, yn26 => (y2, yr3, yn26)
  | n + 1, y1, y2, y3, y4, yr0, yr1, yr2, yr3, yn20, yn21, yn26 => (if (mvf (Int32.toNatClampNeg y3)) < y4 then (y2, yr3, yn26) else (if y2 = (-1 : Int32) then (F_X3_bestQuestion_29 n y1 (((10 : Int32) * y3) + y4) y3 (y4 + (1 : Int32)) yr0 yr1 yr2 yr3 yn20 yn21 (if (F_J6_bitCount_0f7a4 (y1 &&& (F_X3_soOf yr3 y3 y4))) < ((F_J6_bitCount_0f7a4 y1) - (F_J6_bitCount_0f7a4 (y1 &&& (F_X3_soOf yr3 y3 y4)))) then ((F_J6_bitCount_0f7a4 y1) - (F_J6_bitCount_0f7a4 (y1 &&& (F_X3_soOf yr3 y3 y4)))) else (F_J6_bitCount_0f7a4 (y1 &&& (F_X3_soOf yr3 y3 y4))))) else (if yn26 ≤ (if (F_J6_bitCount_0f7a4 (y1 &&& (F_X3_soOf yr3 y3 y4))) < ((F_J6_bitCount_0f7a4 y1) - (F_J6_bitCount_0f7a4 (y1 &&& (F_X3_soOf yr3 y3 y4)))) then ((F_J6_bitCount_0f7a4 y1) - (F_J6_bitCount_0f7a4 (y1 &&& (F_X3_soOf yr3 y3 y4)))) else (F_J6_bitCount_0f7a4 (y1 &&& (F_X3_soOf yr3 y3 y4)))) then (F_X3_bestQuestion_29 n y1 y2 y3 (y4 + (1 : Int32)) yr0 yr1 yr2 yr3 yn20 yn21 yn26) else (F_X3_bestQuestion_29 n y1 (((10 : Int32) * y3) + y4) y3 (y4 + (1 : Int32)) yr0 yr1 yr2 yr3 yn20 yn21 (if (F_J6_bitCount_0f7a4 (y1 &&& (F_X3_soOf yr3 y3 y4))) < ((F_J6_bitCount_0f7a4 y1) - (F_J6_bitCount_0f7a4 (y1 &&& (F_X3_soOf yr3 y3 y4)))) then ((F_J6_bitCount_0f7a4 y1) - (F_J6_bitCount_0f7a4 (y1 &&& (F_X3_soOf yr3 y3 y4)))) else (F_J6_bitCount_0f7a4 (y1 &&& (F_X3_soOf yr3 y3 y4))))))))
def F_X3_bestQuestion_9 : Nat → Int32 → Int32 → Int32 → (Nat → Int32) → (Nat → Int32) → (Nat → Int32) → (Nat → Int32) → Int32 → Int32 → Int32 → Int32 × (Nat → Int32) × Int32
  | 0, _, y2, _, _, _, _, yr3, _, _, yn26 => (y2, yr3, yn26)
  | n + 1, y1, y2, y3, yr0, yr1, yr2, yr3, yn20, yn21, yn26 => (if (5 : Int32) ≤ y3 then (y2, yr3, yn26) else (if y1 = (0 : Int32) then (y2, yr3, yn26) else (tu1 (F_X3_measure yr0 yr1 yr2 yr3 yn20 yn21 y3) (fun z25 => (tu3 (F_X3_bestQuestion_29 12 y1 y2 y3 (0 : Int32) yr0 yr1 yr2 z25 yn20 yn21 yn26) (fun z26 z27 z28 => (F_X3_bestQuestion_9 n y1 z26 (y3 + (1 : Int32)) yr0 yr1 yr2 z27 yn20 yn21 z28)))))))
def F_X3_bestQuestion (r0 : Nat → Int32) (r1 : Nat → Int32) (r2 : Nat → Int32) (r3 : Nat → Int32) (m20 : Int32) (m21 : Int32) (m26 : Int32) : Int32 × (Nat → Int32) × Int32 := (tu3 (F_X3_bestQuestion_9 7 (F_X3_fitting m20) (-1 : Int32) (0 : Int32) r0 r1 r2 r3 m20 m21 m26) (fun z29 z30 z31 => (z29, z30, z31)))
set_option maxHeartbeats 4000000 in
set_option maxRecDepth 100000 in
theorem c_X3_bestQuestion (l : Launch) (g : Gx) (Ty : TyM) (G : Gh) (sz : Nat) (h0 : Nat) (k_h0 : Ty h0 = some (13, 0)) (hD1 : LD1 g) (h1 : G.1 1 = 0) : Met l yX3_bestQuestion (wsG yX3_bestQuestion cX3_bestQuestion 7 (some .int)) ({ frames := 6, cells := 0, slots := 0, locals := 137 }) (PcO g Ty G sz [.ref h0]) (QwI g Ty sz (fun r u => u.1 = Ty ∧ FR [26] [(g.2.2 74)] [] G u.2 ∧ F_X3_bestQuestion (G.2.1 (g.2.2 70)) (G.2.1 (g.2.2 71)) (G.2.1 (g.2.2 72)) (G.2.1 (g.2.2 74)) (G.1 20) (G.1 21) (G.1 26) = (r, (u.2.2.1 (g.2.2 74)), (u.2.1 26)))) 0 0 (AF Ty sz) := by
  refine Met.ofW (cc := cX3_bestQuestion) (maxL := 7) (ret := (some .int)) (by decide) rfl ?_
  intro p e s m args below meth c s₁ B hml hv
  obtain ⟨rfl, hsz, hK, hH, hO⟩ := hv
  subst hsz
  have hx := B.exec
  have hb := B.bytes
  have hr := B.returns
  have hts := atoms_spec (ws := (wsG yX3_bestQuestion cX3_bestQuestion 7 (some .int))) B.pre
  have hG : ∀ w ∈ GW, w.before ([.ref h0] : List Value).toArray s = true := fun w h => hts w (List.mem_cons_of_mem _ h)
  have hown : s.vm.findClass RX3 = some m.cls := findClass_of_methodNamed B.named
  have hlocks := B.notSynchronized
  have hl := lv_entry [.ref h0] (n := 7) (Nat.le_of_ble_eq_true rfl)
  rw [lg_entry_eq]
  generalize (lg_sl [.ref h0] ++ List.replicate (7 - (lg_sl [.ref h0]).length) Slot.unset).toArray = ls at hl ⊢
  have hl : lv_has ls 7 [(0, .ref h0)] := hl
  have hv : (tu3 (F_X3_bestQuestion_9 7 (F_X3_fitting (G.1 20)) (-1 : Int32) (0 : Int32) (G.2.1 (g.2.2 70)) (G.2.1 (g.2.2 71)) (G.2.1 (g.2.2 72)) (G.2.1 (g.2.2 74)) (G.1 20) (G.1 21) (G.1 26)) (fun z22 z23 z24 => (z22, z23, z24))) = F_X3_bestQuestion (G.2.1 (g.2.2 70)) (G.2.1 (g.2.2 71)) (G.2.1 (g.2.2 72)) (G.2.1 (g.2.2 74)) (G.1 20) (G.1 21) (G.1 26) := rfl
  have hS : va_S (AF Ty s.heap.size) s.heap s.heap [] := va_S.rf
  have L_107 : ∀ (H : Heap) (locs : List Loc) (G_107 : Gh) (fl3_107 : Nat → Int32) (nl26_107 : Int32) (y2_107 : Int32) (ls : Array Slot), FR [26] [(g.2.2 74)] [] G G_107 → G_107.2.1 (g.2.2 74) = fl3_107 → G_107.1 26 = nl26_107 → rgI (-1) (2147483647) y2_107 → lv_has ls 7 [(2, .int y2_107)] → (y2_107, fl3_107, nl26_107) = F_X3_bestQuestion (G.2.1 (g.2.2 70)) (G.2.1 (g.2.2 71)) (G.2.1 (g.2.2 72)) (G.2.1 (g.2.2 74)) (G.1 20) (G.1 21) (G.1 26) → HT g Ty G_107 H → va_S (AF Ty s.heap.size) s.heap H locs → Wm p l e (wsG yX3_bestQuestion cX3_bestQuestion 7 (some .int)) ({ frames := 6, cells := 0, slots := 0, locals := 137 }) s m [.ref h0] below meth c H locs (0) (0) (QwI g Ty s.heap.size (fun r u => u.1 = Ty ∧ FR [26] [(g.2.2 74)] [] G u.2 ∧ F_X3_bestQuestion (G.2.1 (g.2.2 70)) (G.2.1 (g.2.2 71)) (G.2.1 (g.2.2 72)) (G.2.1 (g.2.2 74)) (G.1 20) (G.1 21) (G.1 26) = (r, (u.2.2.1 (g.2.2 74)), (u.2.1 26)))) 0 0 (AF Ty s.heap.size) (F0 m 107 ls []) := by
    intro H locs G_107 fl3_107 nl26_107 y2_107 ls frL_107 efl3_107 enl26_107 ry2_107 hl hv hH hS
    refine lv_iload_n hx hb dX3_bestQuestion_107 rfl (lv_at hl 0 rfl) ?_
    exact W.iret hx hb hr (fun t ht hWm => ⟨⟨y2_107, (Ty, G_107), rfl, ⟨rfl, ⟨frL_107, hv.symm.trans (by rw [efl3_107, enl26_107])⟩⟩, by show HT g Ty G_107 t.heap; rw [ht]; exact hH⟩, hS.F ht⟩) hS.2.2 dX3_bestQuestion_108
  have L_9 : ∀ (n_9 : Nat) (H : Heap) (locs : List Loc) (G_9 : Gh) (fl3_9 : Nat → Int32) (nl26_9 : Int32) (y1_9 : Int32) (y2_9 : Int32) (y3_9 : Int32) (ls : Array Slot), FR [26] [(g.2.2 74)] [] G G_9 → G_9.2.1 (g.2.2 74) = fl3_9 → G_9.1 26 = nl26_9 → rgI (-1) (2147483647) y2_9 → rgI (0) (5) y3_9 → (5 - (y3_9).toInt).toNat < n_9 → lv_has ls 7 [(0, .ref h0), (1, .int y1_9), (2, .int y2_9), (3, .int y3_9)] → (tu3 (F_X3_bestQuestion_9 n_9 y1_9 y2_9 y3_9 (G.2.1 (g.2.2 70)) (G.2.1 (g.2.2 71)) (G.2.1 (g.2.2 72)) fl3_9 (G.1 20) (G.1 21) nl26_9) (fun z1 z2 z3 => (z1, z2, z3))) = F_X3_bestQuestion (G.2.1 (g.2.2 70)) (G.2.1 (g.2.2 71)) (G.2.1 (g.2.2 72)) (G.2.1 (g.2.2 74)) (G.1 20) (G.1 21) (G.1 26) → HT g Ty G_9 H → va_S (AF Ty s.heap.size) s.heap H locs → Wm p l e (wsG yX3_bestQuestion cX3_bestQuestion 7 (some .int)) ({ frames := 6, cells := 0, slots := 0, locals := 137 }) s m [.ref h0] below meth c H locs (0) (0) (QwI g Ty s.heap.size (fun r u => u.1 = Ty ∧ FR [26] [(g.2.2 74)] [] G u.2 ∧ F_X3_bestQuestion (G.2.1 (g.2.2 70)) (G.2.1 (g.2.2 71)) (G.2.1 (g.2.2 72)) (G.2.1 (g.2.2 74)) (G.1 20) (G.1 21) (G.1 26) = (r, (u.2.2.1 (g.2.2 74)), (u.2.1 26)))) 0 0 (AF Ty s.heap.size) (F0 m 9 ls []) := by
    intro n_9
    induction n_9 with
    | zero => intro H locs G_9 fl3_9 nl26_9 y1_9 y2_9 y3_9 ls frL_9 efl3_9 enl26_9 ry2_9 ry3_9 hm; exact absurd hm (Nat.not_lt_zero _)
    | succ n_9 ih_9 =>
      intro H locs G_9 fl3_9 nl26_9 y1_9 y2_9 y3_9 ls frL_9 efl3_9 enl26_9 ry2_9 ry3_9 hm_9 hl hv hH hS
      have L_29 : ∀ (n_29 : Nat) (H : Heap) (locs : List Loc) (G_29 : Gh) (fl3_29 : Nat → Int32) (nl26_29 : Int32) (y2_29 : Int32) (y4_29 : Int32) (ls : Array Slot), FR [26] [(g.2.2 74)] [] G G_29 → G_29.2.1 (g.2.2 74) = fl3_29 → G_29.1 26 = nl26_29 → rgI (-1) (2147483647) y2_29 → rgI (0) (4) y3_9 → rgI (0) (10) y4_29 → (10 - (y4_29).toInt).toNat < n_29 → lv_has ls 7 [(0, .ref h0), (1, .int y1_9), (2, .int y2_29), (3, .int y3_9), (4, .int y4_29)] → (tu3 (F_X3_bestQuestion_29 n_29 y1_9 y2_29 y3_9 y4_29 (G.2.1 (g.2.2 70)) (G.2.1 (g.2.2 71)) (G.2.1 (g.2.2 72)) fl3_29 (G.1 20) (G.1 21) nl26_29) (fun z4 z5 z6 => (tu3 (F_X3_bestQuestion_9 n_9 y1_9 z4 (y3_9 + (1 : Int32)) (G.2.1 (g.2.2 70)) (G.2.1 (g.2.2 71)) (G.2.1 (g.2.2 72)) z5 (G.1 20) (G.1 21) z6) (fun z7 z8 z9 => (z7, z8, z9))))) = F_X3_bestQuestion (G.2.1 (g.2.2 70)) (G.2.1 (g.2.2 71)) (G.2.1 (g.2.2 72)) (G.2.1 (g.2.2 74)) (G.1 20) (G.1 21) (G.1 26) → HT g Ty G_29 H → va_S (AF Ty s.heap.size) s.heap H locs → Wm p l e (wsG yX3_bestQuestion cX3_bestQuestion 7 (some .int)) ({ frames := 6, cells := 0, slots := 0, locals := 137 }) s m [.ref h0] below meth c H locs (0) (0) (QwI g Ty s.heap.size (fun r u => u.1 = Ty ∧ FR [26] [(g.2.2 74)] [] G u.2 ∧ F_X3_bestQuestion (G.2.1 (g.2.2 70)) (G.2.1 (g.2.2 71)) (G.2.1 (g.2.2 72)) (G.2.1 (g.2.2 74)) (G.1 20) (G.1 21) (G.1 26) = (r, (u.2.2.1 (g.2.2 74)), (u.2.1 26)))) 0 0 (AF Ty s.heap.size) (F0 m 29 ls []) := by
        intro n_29
        induction n_29 with
        | zero => intro H locs G_29 fl3_29 nl26_29 y2_29 y4_29 ls frL_29 efl3_29 enl26_29 ry2_29 ry3_29 ry4_29 hm; exact absurd hm (Nat.not_lt_zero _)
        | succ n_29 ih_29 =>
          intro H locs G_29 fl3_29 nl26_29 y2_29 y4_29 ls frL_29 efl3_29 enl26_29 ry2_29 ry3_29 ry4_29 hm_29 hl hv hH hS
          have L_95 : ∀ (H : Heap) (locs : List Loc) (G_95 : Gh) (fl3_95 : Nat → Int32) (nl26_95 : Int32) (y2_95 : Int32) (ls : Array Slot), FR [26] [(g.2.2 74)] [] G G_95 → G_95.2.1 (g.2.2 74) = fl3_95 → G_95.1 26 = nl26_95 → rgI (0) (2147483647) y2_95 → rgI (0) (4) y3_9 → rgI (0) (9) y4_29 → lv_has ls 7 [(0, .ref h0), (1, .int y1_9), (2, .int y2_95), (3, .int y3_9), (4, .int y4_29)] → (tu3 (F_X3_bestQuestion_29 n_29 y1_9 y2_95 y3_9 (y4_29 + (1 : Int32)) (G.2.1 (g.2.2 70)) (G.2.1 (g.2.2 71)) (G.2.1 (g.2.2 72)) fl3_95 (G.1 20) (G.1 21) nl26_95) (fun z10 z11 z12 => (tu3 (F_X3_bestQuestion_9 n_9 y1_9 z10 (y3_9 + (1 : Int32)) (G.2.1 (g.2.2 70)) (G.2.1 (g.2.2 71)) (G.2.1 (g.2.2 72)) z11 (G.1 20) (G.1 21) z12) (fun z13 z14 z15 => (z13, z14, z15))))) = F_X3_bestQuestion (G.2.1 (g.2.2 70)) (G.2.1 (g.2.2 71)) (G.2.1 (g.2.2 72)) (G.2.1 (g.2.2 74)) (G.1 20) (G.1 21) (G.1 26) → HT g Ty G_95 H → va_S (AF Ty s.heap.size) s.heap H locs → Wm p l e (wsG yX3_bestQuestion cX3_bestQuestion 7 (some .int)) ({ frames := 6, cells := 0, slots := 0, locals := 137 }) s m [.ref h0] below meth c H locs (0) (0) (QwI g Ty s.heap.size (fun r u => u.1 = Ty ∧ FR [26] [(g.2.2 74)] [] G u.2 ∧ F_X3_bestQuestion (G.2.1 (g.2.2 70)) (G.2.1 (g.2.2 71)) (G.2.1 (g.2.2 72)) (G.2.1 (g.2.2 74)) (G.1 20) (G.1 21) (G.1 26) = (r, (u.2.2.1 (g.2.2 74)), (u.2.1 26)))) 0 0 (AF Ty s.heap.size) (F0 m 95 ls []) := by
            intro H locs G_95 fl3_95 nl26_95 y2_95 ls frL_95 efl3_95 enl26_95 ry2_95 ry3_95 ry4_95 hl hv hH hS
            obtain ⟨x_1, ex_1⟩ : ∃ y : Int32, y = y4_29 + 1 := ⟨_, rfl⟩
            try rw [← ex_1] at hv
            have rx_1 : rgI (1) (10) x_1 := by rw [ex_1]; exact rg_w (rg_add ry4_95 rl_1 (by decide) (by decide)) (by decide) (by decide)
            have qx_1 : x_1.toInt = (y4_29 : Int32).toInt + 1 := by rw [ex_1]; exact rg_addE ry4_95 rl_1 (by decide) (by decide)
            refine lv_iinc (v := x_1) (lv' := [(4, .int x_1), (0, .ref h0), (1, .int y1_9), (2, .int y2_95), (3, .int y3_9)]) hx hb dX3_bestQuestion_95 hl (k := 4) rfl (by rw [ex_1]; rfl) (by decide) rfl (fun ls hl => ?_)
            refine lv_goto (tgt := 29) hx hb dX3_bestQuestion_98 (by decide) ?_
            exact ih_29 H locs G_95 fl3_95 nl26_95 y2_95 x_1 ls frL_95 efl3_95 enl26_95 (rg_w ry2_95 (by decide) (by decide)) ry3_95 (rg_w rx_1 (by decide) (by decide)) (by have h1 := qx_1; have h2 := ry4_95.1; have h3 := ry4_95.2; have h4 := hm_29; omega) (lv_sub hl [1, 2, 3, 4, 0] rfl) hv hH hS
          have L_81 : ∀ (H : Heap) (locs : List Loc) (G_81 : Gh) (fl3_81 : Nat → Int32) (nl26_81 : Int32) (y6_81 : Int32) (ls : Array Slot), FR [26] [(g.2.2 74)] [] G G_81 → G_81.2.1 (g.2.2 74) = fl3_81 → G_81.1 26 = nl26_81 → rgI (0) (4) y3_9 → rgI (0) (9) y4_29 → rgI (0) (63) y6_81 → lv_has ls 7 [(0, .ref h0), (1, .int y1_9), (3, .int y3_9), (4, .int y4_29), (6, .int y6_81)] → (tu3 (F_X3_bestQuestion_29 n_29 y1_9 (((10 : Int32) * y3_9) + y4_29) y3_9 (y4_29 + (1 : Int32)) (G.2.1 (g.2.2 70)) (G.2.1 (g.2.2 71)) (G.2.1 (g.2.2 72)) fl3_81 (G.1 20) (G.1 21) y6_81) (fun z16 z17 z18 => (tu3 (F_X3_bestQuestion_9 n_9 y1_9 z16 (y3_9 + (1 : Int32)) (G.2.1 (g.2.2 70)) (G.2.1 (g.2.2 71)) (G.2.1 (g.2.2 72)) z17 (G.1 20) (G.1 21) z18) (fun z19 z20 z21 => (z19, z20, z21))))) = F_X3_bestQuestion (G.2.1 (g.2.2 70)) (G.2.1 (g.2.2 71)) (G.2.1 (g.2.2 72)) (G.2.1 (g.2.2 74)) (G.1 20) (G.1 21) (G.1 26) → HT g Ty G_81 H → va_S (AF Ty s.heap.size) s.heap H locs → Wm p l e (wsG yX3_bestQuestion cX3_bestQuestion 7 (some .int)) ({ frames := 6, cells := 0, slots := 0, locals := 137 }) s m [.ref h0] below meth c H locs (0) (0) (QwI g Ty s.heap.size (fun r u => u.1 = Ty ∧ FR [26] [(g.2.2 74)] [] G u.2 ∧ F_X3_bestQuestion (G.2.1 (g.2.2 70)) (G.2.1 (g.2.2 71)) (G.2.1 (g.2.2 72)) (G.2.1 (g.2.2 74)) (G.1 20) (G.1 21) (G.1 26) = (r, (u.2.2.1 (g.2.2 74)), (u.2.1 26)))) 0 0 (AF Ty s.heap.size) (F0 m 81 ls []) := by
            intro H locs G_81 fl3_81 nl26_81 y6_81 ls frL_81 efl3_81 enl26_81 ry3_81 ry4_81 ry6_81 hl hv hH hS
            refine lv_bipush (v := 10) hx hb dX3_bestQuestion_81 (by decide) ?_
            refine lv_iload_n hx hb dX3_bestQuestion_83 rfl (lv_at hl 2 rfl) ?_
            refine lv_imul hx hb dX3_bestQuestion_84 ?_
            refine lv_topi (fun x_2 ex_2 => ?_)
            try rw [← ex_2] at hv
            have rx_2 : rgI (0) (40) x_2 := by rw [ex_2]; exact rg_w (rg_mul rl_10 ry3_81 (by decide) (by decide) (by decide)) (by decide) (by decide)
            refine lv_iload hx hb dX3_bestQuestion_85 (lv_at hl 3 rfl) ?_
            refine lv_iadd hx hb dX3_bestQuestion_87 ?_
            refine lv_topi (fun x_3 ex_3 => ?_)
            try rw [← ex_3] at hv
            have rx_3 : rgI (0) (49) x_3 := by rw [ex_3]; exact rg_w (rg_add rx_2 ry4_81 (by decide) (by decide)) (by decide) (by decide)
            refine lv_istore_n (lv' := [(2, .int x_3), (0, .ref h0), (1, .int y1_9), (3, .int y3_9), (4, .int y4_29), (6, .int y6_81)]) hx hb dX3_bestQuestion_88 rfl hl (by decide) rfl (fun ls hl => ?_)
            refine lv_aload_n hx hb dX3_bestQuestion_89 rfl (lv_at hl 1 rfl) ?_
            refine lv_iload hx hb dX3_bestQuestion_90 (lv_at hl 5 rfl) ?_
            obtain ⟨_, ⟨q_6, q_7, rfl, kq_5, kq_6, kq_7, kq_9, rq_8, t_11⟩, o_c_4⟩ := hH h0 _ k_h0
            refine hg_put (ty := .int) hx hb hG igX3 tyX3 tyX3_ok nmX3 hown hK hS o_c_4 (AF.of k_h0) rfl 5 (by decide) (hG _ mw_300) rfl (by decide +kernel) rfl rfl (Nat.le_of_ble_eq_true rfl) dX3_bestQuestion_92 (fun H locs o_c_4 hz oq hS => ?_)
            obtain ⟨G_12, eG_12⟩ : ∃ z : Gh, z = gset G_81 26 y6_81 := ⟨_, rfl⟩
            have hH : HT g Ty G_12 H := by rw [eG_12]; exact HT.putM 26 y6_81 hH k_h0 ⟨q_6, q_7, rfl, kq_5, kq_6, kq_7, kq_9, rq_8, t_11⟩ o_c_4 oq (⟨⟨by decide, by decide⟩, t_11⟩)
            have fr_13 : FR [26] [(g.2.2 74)] [] G G_12 := FR.n frL_81 eG_12 (by decide)
            have u_14 : G_12.1 1 = 0 := by rw [eG_12]; exact (gs_ne (by decide)).trans ((frL_81.1 1 (by decide)).trans h1)
            have u_15 : G_12.1 20 = (G.1 20) := by rw [eG_12]; exact (gs_ne (by decide)).trans (frL_81.1 20 (by decide))
            have u_16 : G_12.1 21 = (G.1 21) := by rw [eG_12]; exact (gs_ne (by decide)).trans (frL_81.1 21 (by decide))
            have u_17 : G_12.1 26 = y6_81 := by rw [eG_12]; exact gs_eq
            have w_18 : G_12.2.1 (g.2.2 70) = (G.2.1 (g.2.2 70)) := by rw [eG_12]; exact (frL_81.2.1 (g.2.2 70) ⟨(hD1 70 (by decide) 74 (by decide) (by decide)), trivial⟩)
            have w_19 : G_12.2.1 (g.2.2 71) = (G.2.1 (g.2.2 71)) := by rw [eG_12]; exact (frL_81.2.1 (g.2.2 71) ⟨(hD1 71 (by decide) 74 (by decide) (by decide)), trivial⟩)
            have w_20 : G_12.2.1 (g.2.2 72) = (G.2.1 (g.2.2 72)) := by rw [eG_12]; exact (frL_81.2.1 (g.2.2 72) ⟨(hD1 72 (by decide) 74 (by decide) (by decide)), trivial⟩)
            have w_21 : G_12.2.1 (g.2.2 74) = fl3_81 := by rw [eG_12]; exact efl3_81
            clear oq hz
            exact L_95 H locs G_12 fl3_81 y6_81 x_3 ls fr_13 w_21 u_17 (rg_w rx_3 (by decide) (by decide)) ry3_81 ry4_81 (lv_sub hl [1, 2, 0, 3, 4] rfl) hv hH hS
          rw [F_X3_bestQuestion_29] at hv
          refine lv_iload hx hb dX3_bestQuestion_29 (lv_at hl 4 rfl) ?_
          refine va_gets hx hb hO.1 hS hown (hG _ mw_1014) (fun _ h => h) dX3_bestQuestion_31 ?_
          refine lv_iload_n hx hb dX3_bestQuestion_34 rfl (lv_at hl 3 rfl) ?_
          refine va_ti hx hb hO.2.1 hS (rg_in (n := 5) ry3_29 (by decide) (by decide)) rfl dX3_bestQuestion_35 ?_
          refine lv_topi (fun x_22 ex_22 => ?_)
          try rw [← ex_22] at hv
          have rx_22 : rgI (4) (9) x_22 := by rw [ex_22]; exact rg_w (mv_rng _) (by decide) (by decide)
          refine lv_icmp_gt (tgt := 101) hx hb dX3_bestQuestion_36 (by decide) (fun c_23 => ?_) (fun c_23 => ?_)
          · rw [if_pos c_23] at hv
            have r_24 : rgI (5) (10) y4_29 := rg_w (rg_ltR rx_22 ry4_29 c_23) (by decide) (by decide)
            rw [tu3_eq] at hv
            obtain ⟨x_25, ex_25⟩ : ∃ y : Int32, y = y3_9 + 1 := ⟨_, rfl⟩
            try rw [← ex_25] at hv
            have rx_25 : rgI (1) (5) x_25 := by rw [ex_25]; exact rg_w (rg_add ry3_29 rl_1 (by decide) (by decide)) (by decide) (by decide)
            have qx_25 : x_25.toInt = (y3_9 : Int32).toInt + 1 := by rw [ex_25]; exact rg_addE ry3_29 rl_1 (by decide) (by decide)
            refine lv_iinc (v := x_25) (lv' := [(3, .int x_25), (0, .ref h0), (1, .int y1_9), (2, .int y2_29), (4, .int y4_29)]) hx hb dX3_bestQuestion_101 hl (k := 3) rfl (by rw [ex_25]; rfl) (by decide) rfl (fun ls hl => ?_)
            refine lv_goto (tgt := 9) hx hb dX3_bestQuestion_104 (by decide) ?_
            exact ih_9 H locs G_29 fl3_29 nl26_29 y1_9 y2_29 x_25 ls frL_29 efl3_29 enl26_29 ry2_29 (rg_w rx_25 (by decide) (by decide)) (by have h1 := qx_25; have h2 := ry3_29.1; have h3 := ry3_29.2; have h4 := hm_9; omega) (lv_sub hl [1, 2, 3, 0] rfl) hv hH hS
          · rw [if_neg c_23] at hv
            have r_26 : rgI (0) (9) y4_29 := rg_w (rg_leL ry4_29 rx_22 (nlt_le c_23)) (by decide) (by decide)
            refine lv_iload_n hx hb dX3_bestQuestion_39 rfl (lv_at hl 1 rfl) ?_
            refine lv_aload_n hx hb dX3_bestQuestion_40 rfl (lv_at hl 0 rfl) ?_
            refine lv_iload_n hx hb dX3_bestQuestion_41 rfl (lv_at hl 3 rfl) ?_
            refine lv_iload hx hb dX3_bestQuestion_42 (lv_at hl 4 rfl) ?_
            obtain ⟨_, ⟨q_29, q_30, rfl, kq_28, kq_29, kq_30, kq_32, rq_31, t_34⟩, o_c_27⟩ := hH h0 _ k_h0
            refine vp_callSi (W.runV (As := [.int y3_9, .int y4_29]) (rest := [.int y1_9]) ⟨hx, hb, hml, hown, hts⟩ (c_X3_soOf l g Ty G_29 h0 y3_9 y4_29 k_h0) (cwV 2 hts (gwV mw_1043 mw_1045 mw_26 mw_85 mw_1046) rfl rfl rfl hv_X3_soOf ⟨Nat.le_of_ble_eq_true rfl, Nat.le_of_ble_eq_true rfl⟩) ⟨PcH_blind, hg_recv hK o_c_27 rfl, PcH_pre hK hH⟩ rfl rfl hl.1 rfl (lv_room (Nat.le_of_ble_eq_true rfl)) dX3_bestQuestion_44 ⟨Nat.zero_le _, Nat.zero_le _⟩) (fun x_35 hx_35 => ?_)
            try rw [← hx_35] at hv
            have ex_36 : x_35 = F_X3_soOf fl3_29 y3_9 y4_29 := hx_35.trans (by rw [efl3_29])
            try rw [← ex_36] at hv
            refine lv_iand hx hb dX3_bestQuestion_47 ?_
            refine lv_topi (fun x_37 ex_37 => ?_)
            try rw [← ex_37] at hv
            refine vp_callSi (W.runS (As := [.int x_37]) (rest := []) ⟨hx, hb, hml, hown, hts⟩ (c_J6_bitCount_x l g Ty G_29 x_37 ) (cwSx 1 hts hG (gwC mw_620) mw_99 mw_1041 mw_619 rfl rfl rfl hd_J6_bitCount_0f7a4 ⟨Nat.le_of_ble_eq_true rfl, Nat.le_of_ble_eq_true rfl⟩) ⟨PcH_blind, PcH_pre hK hH⟩ rfl rfl hl.1 rfl (lv_room (Nat.le_of_ble_eq_true rfl)) dX3_bestQuestion_48 ⟨Nat.zero_le _, Nat.zero_le _⟩) (fun x_38 hx_38 => ?_)
            have rx_38 : rgI (0) (63) x_38 := hx_38.1
            try rw [← hx_38.2] at hv
            try rw [← hx_38.2] at hv
            refine lv_istore (lv' := [(5, .int x_38), (0, .ref h0), (1, .int y1_9), (2, .int y2_29), (3, .int y3_9), (4, .int y4_29)]) hx hb dX3_bestQuestion_51 hl (by decide) rfl (fun ls hl => ?_)
            refine lv_iload hx hb dX3_bestQuestion_53 (lv_at hl 0 rfl) ?_
            refine lv_iload_n hx hb dX3_bestQuestion_55 rfl (lv_at hl 2 rfl) ?_
            refine vp_callSi (W.runS (As := [.int y1_9]) (rest := [.int x_38]) ⟨hx, hb, hml, hown, hts⟩ (c_J6_bitCount_x l g Ty G_29 y1_9 ) (cwSx 1 hts hG (gwC mw_620) mw_99 mw_1041 mw_619 rfl rfl rfl hd_J6_bitCount_0f7a4 ⟨Nat.le_of_ble_eq_true rfl, Nat.le_of_ble_eq_true rfl⟩) ⟨PcH_blind, PcH_pre hK hH⟩ rfl rfl hl.1 rfl (lv_room (Nat.le_of_ble_eq_true rfl)) dX3_bestQuestion_56 ⟨Nat.zero_le _, Nat.zero_le _⟩) (fun x_39 hx_39 => ?_)
            have rx_39 : rgI (0) (63) x_39 := hx_39.1
            try rw [← hx_39.2] at hv
            try rw [← hx_39.2] at hv
            refine lv_iload hx hb dX3_bestQuestion_59 (lv_at hl 0 rfl) ?_
            refine lv_isub hx hb dX3_bestQuestion_61 ?_
            refine lv_topi (fun x_40 ex_40 => ?_)
            try rw [← ex_40] at hv
            have rx_40 : rgI (-63) (63) x_40 := by rw [ex_40]; exact rg_w (rg_sub rx_39 rx_38 (by decide) (by decide)) (by decide) (by decide)
            refine va_mmax hx hb (by rw [hml]; exact hl.1.symm) hown (hG _ mw_1056) (hG _ mw_473) (hG _ mw_91) (hG _ mw_474) (Nat.le_of_ble_eq_true rfl) (Nat.le_of_ble_eq_true rfl) (Nat.le_of_ble_eq_true rfl) (Nat.le_of_ble_eq_true rfl) dX3_bestQuestion_62 ?_
            refine lv_topi (fun x_41 ex_41 => ?_)
            try rw [← ex_41] at hv
            have rx_41 : rgI (0) (63) x_41 := by rw [ex_41]; exact rg_w (show rgI (0) (63) _ from rg_mx rx_38 rx_40 (by decide) (by decide) (by decide) (by decide)) (by decide) (by decide)
            refine lv_istore (lv' := [(6, .int x_41), (5, .int x_38), (0, .ref h0), (1, .int y1_9), (2, .int y2_29), (3, .int y3_9), (4, .int y4_29)]) hx hb dX3_bestQuestion_65 hl (by decide) rfl (fun ls hl => ?_)
            refine lv_iload_n hx hb dX3_bestQuestion_67 rfl (lv_at hl 4 rfl) ?_
            refine lv_iconst (v := (-1)) hx hb dX3_bestQuestion_68 (by decide) ?_
            refine lv_icmp_eq (tgt := 81) hx hb dX3_bestQuestion_69 (by decide) (fun c_42 => ?_) (fun c_42 => ?_)
            · rw [if_pos c_42] at hv
              have r_43 : rgI (-1) (-1) y2_29 := rg_w (rg_eq rl_m1 c_42) (by decide) (by decide)
              exact L_81 H locs G_29 fl3_29 nl26_29 x_41 ls frL_29 efl3_29 enl26_29 ry3_29 r_26 rx_41 (lv_sub hl [2, 3, 5, 6, 0] rfl) hv hH hS
            · rw [if_neg c_42] at hv
              have r_44 : rgI (0) (2147483647) y2_29 := rg_w (rg_neL ry2_29 rl_m1 c_42) (by decide) (by decide)
              refine lv_iload hx hb dX3_bestQuestion_72 (lv_at hl 0 rfl) ?_
              refine lv_aload_n hx hb dX3_bestQuestion_74 rfl (lv_at hl 2 rfl) ?_
              refine hg_get hx hb hG igX3 hown hK o_c_27 rfl 5 (by decide) (hG _ mw_300) rfl dX3_bestQuestion_75 ?_
              rw [enl26_29]
              refine lv_icmp_ge (tgt := 95) hx hb dX3_bestQuestion_78 (by decide) (fun c_45 => ?_) (fun c_45 => ?_)
              · rw [if_pos c_45] at hv
                have r_46 : rgI (-2147483648) (63) nl26_29 := rg_w (rg_leL (rg_top nl26_29) rx_41 c_45) (by decide) (by decide)
                exact L_95 H locs G_29 fl3_29 nl26_29 y2_29 ls frL_29 efl3_29 enl26_29 r_44 ry3_29 r_26 (lv_sub hl [2, 3, 4, 5, 6] rfl) hv hH hS
              · rw [if_neg c_45] at hv
                have r_47 : rgI (1) (2147483647) nl26_29 := rg_w (rg_ltR rx_41 (rg_top nl26_29) (nle_lt c_45)) (by decide) (by decide)
                exact L_81 H locs G_29 fl3_29 nl26_29 x_41 ls frL_29 efl3_29 enl26_29 ry3_29 r_26 rx_41 (lv_sub hl [2, 3, 5, 6, 0] rfl) hv hH hS
      rw [F_X3_bestQuestion_9] at hv
      refine lv_iload_n hx hb dX3_bestQuestion_9 rfl (lv_at hl 3 rfl) ?_
      refine va_gets hx hb hO.1 hS hown (hG _ mw_1014) (fun _ h => h) dX3_bestQuestion_10 ?_
      refine va_tlen (v := 5) hx hb hO.2.1 hS rfl dX3_bestQuestion_13 ?_
      refine lv_icmp_ge (tgt := 107) hx hb dX3_bestQuestion_14 (by decide) (fun c_48 => ?_) (fun c_48 => ?_)
      · rw [if_pos c_48] at hv
        have r_49 : rgI (5) (5) y3_9 := rg_w (rg_leR rl_5 ry3_9 c_48) (by decide) (by decide)
        rw [tu3_eq] at hv
        exact L_107 H locs G_9 fl3_9 nl26_9 y2_9 ls frL_9 efl3_9 enl26_9 ry2_9 (lv_sub hl [2] rfl) hv hH hS
      · rw [if_neg c_48] at hv
        have r_50 : rgI (0) (4) y3_9 := rg_w (rg_ltL ry3_9 rl_5 (nle_lt c_48)) (by decide) (by decide)
        refine lv_iload_n hx hb dX3_bestQuestion_17 rfl (lv_at hl 1 rfl) ?_
        refine lv_if_eq (tgt := 107) hx hb dX3_bestQuestion_18 (by decide) (fun c_51 => ?_) (fun c_51 => ?_)
        · rw [if_pos c_51] at hv
          have r_52 : rgI (0) (0) y1_9 := rg_w (rg_eq rl_0 c_51) (by decide) (by decide)
          rw [tu3_eq] at hv
          exact L_107 H locs G_9 fl3_9 nl26_9 y2_9 ls frL_9 efl3_9 enl26_9 ry2_9 (lv_sub hl [2] rfl) hv hH hS
        · rw [if_neg c_51] at hv
          refine lv_aload_n hx hb dX3_bestQuestion_21 rfl (lv_at hl 0 rfl) ?_
          refine lv_iload_n hx hb dX3_bestQuestion_22 rfl (lv_at hl 3 rfl) ?_
          obtain ⟨_, ⟨q_55, q_56, rfl, kq_54, kq_55, kq_56, kq_58, rq_57, t_60⟩, o_c_53⟩ := hH h0 _ k_h0
          refine va_callv (va_runV (As := [.int y3_9]) (rest := []) ⟨hx, hb, hml, hown, hts⟩ (c_X3_measure l g Ty G_9 H.size h0 y3_9 k_h0 hD1) (cwV 1 hts (gwV mw_1028 mw_1030 mw_24 mw_85 mw_1031) rfl rfl rfl hv_X3_measure ⟨Nat.le_of_ble_eq_true rfl, Nat.le_of_ble_eq_true rfl⟩) ⟨PcT_blind, hg_recv hK o_c_53 rfl, PcT_pre hK hH⟩ rfl rfl hl.1 rfl (lv_room (Nat.le_of_ble_eq_true rfl)) dX3_bestQuestion_23 ⟨Nat.zero_le _, Nat.zero_le _⟩) hS (fun q _ h => AF.mono hS.1 h) (fun q h => AF.mono hS.1 h) (fun ux_61 t H locs ht hvm hx_61 hB hz hk hS => ?_)
          obtain ⟨eTx_61, eGx_61⟩ := hx_61
          obtain ⟨G_62, eG_62⟩ : ∃ z, z = ux_61.2 := ⟨_, rfl⟩
          rw [← eG_62] at eGx_61
          obtain ⟨hfr_63, hex_64⟩ := eGx_61
          have fr_65 : FR [26] [(g.2.2 74)] [] G G_62 := FR.tr frL_9 hfr_63 (by decide) (fun b h => ⟨h.1, trivial⟩) (by decide)
          have u_66 : G_62.1 1 = 0 := (hfr_63.1 1 (by decide)).trans ((frL_9.1 1 (by decide)).trans h1)
          have u_67 : G_62.1 20 = (G.1 20) := (hfr_63.1 20 (by decide)).trans (frL_9.1 20 (by decide))
          have u_68 : G_62.1 21 = (G.1 21) := (hfr_63.1 21 (by decide)).trans (frL_9.1 21 (by decide))
          have u_69 : G_62.1 26 = nl26_9 := (hfr_63.1 26 (by decide)).trans enl26_9
          have w_70 : G_62.2.1 (g.2.2 70) = (G.2.1 (g.2.2 70)) := (hfr_63.2.1 (g.2.2 70) ⟨(hD1 70 (by decide) 74 (by decide) (by decide)), trivial⟩).trans (frL_9.2.1 (g.2.2 70) ⟨(hD1 70 (by decide) 74 (by decide) (by decide)), trivial⟩)
          have w_71 : G_62.2.1 (g.2.2 71) = (G.2.1 (g.2.2 71)) := (hfr_63.2.1 (g.2.2 71) ⟨(hD1 71 (by decide) 74 (by decide) (by decide)), trivial⟩).trans (frL_9.2.1 (g.2.2 71) ⟨(hD1 71 (by decide) 74 (by decide) (by decide)), trivial⟩)
          have w_72 : G_62.2.1 (g.2.2 72) = (G.2.1 (g.2.2 72)) := (hfr_63.2.1 (g.2.2 72) ⟨(hD1 72 (by decide) 74 (by decide) (by decide)), trivial⟩).trans (frL_9.2.1 (g.2.2 72) ⟨(hD1 72 (by decide) 74 (by decide) (by decide)), trivial⟩)
          obtain ⟨f_73, ef_73⟩ : ∃ z : Nat → Int32, G_62.2.1 (g.2.2 74) = z := ⟨_, rfl⟩
          have hq_74 : F_X3_measure (G.2.1 (g.2.2 70)) (G.2.1 (g.2.2 71)) (G.2.1 (g.2.2 72)) fl3_9 (G.1 20) (G.1 21) y3_9 = f_73 := by have q := hex_64; rw [(frL_9.2.1 (g.2.2 70) ⟨(hD1 70 (by decide) 74 (by decide) (by decide)), trivial⟩), (frL_9.2.1 (g.2.2 71) ⟨(hD1 71 (by decide) 74 (by decide) (by decide)), trivial⟩), (frL_9.2.1 (g.2.2 72) ⟨(hD1 72 (by decide) 74 (by decide) (by decide)), trivial⟩), efl3_9, (frL_9.1 20 (by decide)), (frL_9.1 21 (by decide)), ef_73] at q; exact q
          rw [hq_74, tu1_eq] at hv
          have hH : HT g Ty G_62 H := by rw [← ht, ← eTx_61, eG_62]; exact hB
          refine lv_iconst (v := 0) hx hb dX3_bestQuestion_26 (by decide) ?_
          refine lv_istore (lv' := [(4, .int 0), (0, .ref h0), (1, .int y1_9), (2, .int y2_9), (3, .int y3_9)]) hx hb dX3_bestQuestion_27 hl (by decide) rfl (fun ls hl => ?_)
          exact L_29 12 H locs G_62 f_73 nl26_9 y2_9 0 ls fr_65 ef_73 u_69 ry2_9 r_50 (rg_w rl_0 (by decide) (by decide)) (by decide) (lv_sub hl [1, 2, 3, 4, 0] rfl) hv hH hS
  refine lv_aload_n hx hb dX3_bestQuestion_0 rfl (lv_at hl 0 rfl) ?_
  obtain ⟨_, ⟨q_77, q_78, rfl, kq_76, kq_77, kq_78, kq_80, rq_79, t_82⟩, o_c_75⟩ := hH h0 _ k_h0
  refine va_calli (va_runV (As := []) (rest := []) ⟨hx, hb, hml, hown, hts⟩ (c_X3_fitting l g Ty G s.heap.size h0 k_h0 h1) (cwV 0 hts (gwV mw_1055 mw_1025 mw_1026 mw_85 mw_1027) rfl rfl rfl hv_X3_fitting ⟨Nat.le_of_ble_eq_true rfl, Nat.le_of_ble_eq_true rfl⟩) ⟨PcT_blind, hg_recv hK o_c_75 rfl, PcT_pre hK hH⟩ rfl rfl hl.1 rfl (lv_room (Nat.le_of_ble_eq_true rfl)) dX3_bestQuestion_1 ⟨Nat.zero_le _, Nat.zero_le _⟩) hS (fun q _ h => AF.mono hS.1 h) (fun q h => AF.mono hS.1 h) (fun x_83 ux_83 t H locs ht hvm hx_83 hB hz hk hS => ?_)
  obtain ⟨hx_83, fx_83⟩ := hx_83
  have hH : HT g Ty G H := by rw [← ht]; rw [fx_83] at hB; exact hB
  try rw [← hx_83] at hv
  try rw [← hx_83] at hv
  refine lv_istore_n (lv' := [(1, .int x_83), (0, .ref h0)]) hx hb dX3_bestQuestion_4 rfl hl (by decide) rfl (fun ls hl => ?_)
  refine lv_iconst (v := (-1)) hx hb dX3_bestQuestion_5 (by decide) ?_
  refine lv_istore_n (lv' := [(2, .int (-1)), (1, .int x_83), (0, .ref h0)]) hx hb dX3_bestQuestion_6 rfl hl (by decide) rfl (fun ls hl => ?_)
  refine lv_iconst (v := 0) hx hb dX3_bestQuestion_7 (by decide) ?_
  refine lv_istore_n (lv' := [(3, .int 0), (2, .int (-1)), (1, .int x_83), (0, .ref h0)]) hx hb dX3_bestQuestion_8 rfl hl (by decide) rfl (fun ls hl => ?_)
  exact L_9 7 H locs G (G.2.1 (g.2.2 74)) (G.1 26) x_83 (-1) 0 ls FR.rf rfl rfl (rg_w rl_m1 (by decide) (by decide)) (rg_w rl_0 (by decide) (by decide)) (by decide) (lv_sub hl [3, 2, 1, 0] rfl) hv hH hS

def F_X11_asks (r0 : Nat → Int32) (r1 : Nat → Int32) (r2 : Nat → Int32) (r3 : Nat → Int32) (m20 : Int32) (m21 : Int32) (m26 : Int32) : Int32 × (Nat → Int32) × Int32 := (tu3 (F_X3_bestQuestion r0 r1 r2 r3 m20 m21 m26) (fun z4 z5 z6 => (if z4 = (-1 : Int32) then ((-2 : Int32), z5, z6) else (z4, z5, z6))))
set_option maxHeartbeats 4000000 in
set_option maxRecDepth 100000 in
theorem c_X11_asks (l : Launch) (g : Gx) (Ty : TyM) (G : Gh) (sz : Nat) (h0 : Nat) (k_h0 : Ty h0 = some (21, 0)) (hD1 : LD1 g) (h1 : G.1 1 = 0) : Met l yX11_asks (wsG yX11_asks cX11_asks 2 (some .int)) ({ frames := 7, cells := 0, slots := 0, locals := 163 }) (PcO g Ty G sz [.ref h0]) (QwI g Ty sz (fun r u => u.1 = Ty ∧ FR [26, 27] [(g.2.2 74)] [] G u.2 ∧ F_X11_asks (G.2.1 (g.2.2 70)) (G.2.1 (g.2.2 71)) (G.2.1 (g.2.2 72)) (G.2.1 (g.2.2 74)) (G.1 20) (G.1 21) (G.1 26) = (r, (u.2.2.1 (g.2.2 74)), (u.2.1 26)))) 0 0 (AF Ty sz) := by
  refine Met.ofW (cc := cX11_asks) (maxL := 2) (ret := (some .int)) (by decide) rfl ?_
  intro p e s m args below meth c s₁ B hml hv
  obtain ⟨rfl, hsz, hK, hH, hO⟩ := hv
  subst hsz
  have hx := B.exec
  have hb := B.bytes
  have hr := B.returns
  have hts := atoms_spec (ws := (wsG yX11_asks cX11_asks 2 (some .int))) B.pre
  have hG : ∀ w ∈ GW, w.before ([.ref h0] : List Value).toArray s = true := fun w h => hts w (List.mem_cons_of_mem _ h)
  have hown : s.vm.findClass RX11 = some m.cls := findClass_of_methodNamed B.named
  have hlocks := B.notSynchronized
  have hl := lv_entry [.ref h0] (n := 2) (Nat.le_of_ble_eq_true rfl)
  rw [lg_entry_eq]
  generalize (lg_sl [.ref h0] ++ List.replicate (2 - (lg_sl [.ref h0]).length) Slot.unset).toArray = ls at hl ⊢
  have hl : lv_has ls 2 [(0, .ref h0)] := hl
  have hv : (tu3 (F_X3_bestQuestion (G.2.1 (g.2.2 70)) (G.2.1 (g.2.2 71)) (G.2.1 (g.2.2 72)) (G.2.1 (g.2.2 74)) (G.1 20) (G.1 21) (G.1 26)) (fun z1 z2 z3 => (if z1 = (-1 : Int32) then ((-2 : Int32), z2, z3) else (z1, z2, z3)))) = F_X11_asks (G.2.1 (g.2.2 70)) (G.2.1 (g.2.2 71)) (G.2.1 (g.2.2 72)) (G.2.1 (g.2.2 74)) (G.1 20) (G.1 21) (G.1 26) := rfl
  have hS : va_S (AF Ty s.heap.size) s.heap s.heap [] := va_S.rf
  refine lv_aload_n hx hb dX11_asks_0 rfl (lv_at hl 0 rfl) ?_
  obtain ⟨_, ⟨rfl, kq_2, kq_3, kq_4, kq_5, kq_6, kq_7, kq_8, kq_9, kq_10, kq_11, kq_12, kq_13, kq_14, kq_15, t_17⟩, o_c_1⟩ := hH h0 _ k_h0
  refine hg_get hx hb hG igX11 hown hK o_c_1 rfl 11 (by decide) (hG _ mw_368) rfl dX11_asks_1 ?_
  obtain ⟨_, ⟨q_20, q_21, rfl, kq_19, kq_20, kq_21, kq_23, rq_22, t_25⟩, o_c_18⟩ := hH (g.2.2 11) _ kq_13
  refine va_calli (va_runV (As := []) (rest := []) ⟨hx, hb, hml, hown, hts⟩ (c_X3_bestQuestion l g Ty G s.heap.size (g.2.2 11) kq_13 hD1 h1) (cwV 0 hts (gwV mw_1051 mw_1052 mw_1053 mw_85 mw_1054) rfl rfl rfl hv_X3_bestQuestion ⟨Nat.le_of_ble_eq_true rfl, Nat.le_of_ble_eq_true rfl⟩) ⟨PcO_blind, hg_recv hK o_c_18 rfl, PcO_pre hK hH hO hS⟩ rfl rfl hl.1 rfl (lv_room (Nat.le_of_ble_eq_true rfl)) dX11_asks_4 ⟨Nat.zero_le _, Nat.zero_le _⟩) hS (fun q _ h => AF.mono hS.1 h) (fun q h => AF.mono hS.1 h) (fun x_26 ux_26 t H locs ht hvm hx_26 hB hz hk hS => ?_)
  obtain ⟨eTx_26, eGx_26⟩ := hx_26
  obtain ⟨G_27, eG_27⟩ : ∃ z, z = ux_26.2 := ⟨_, rfl⟩
  rw [← eG_27] at eGx_26
  obtain ⟨hfr_28, hex_29⟩ := eGx_26
  have fr_30 : FR [26, 27] [(g.2.2 74)] [] G G_27 := FR.tr FR.rf hfr_28 (by decide) (fun b h => ⟨h.1, trivial⟩) (by decide)
  have u_31 : G_27.1 20 = (G.1 20) := (hfr_28.1 20 (by decide))
  have u_32 : G_27.1 21 = (G.1 21) := (hfr_28.1 21 (by decide))
  have u_33 : G_27.1 1 = 0 := (hfr_28.1 1 (by decide)).trans h1
  have w_34 : G_27.2.1 (g.2.2 70) = (G.2.1 (g.2.2 70)) := (hfr_28.2.1 (g.2.2 70) ⟨(hD1 70 (by decide) 74 (by decide) (by decide)), trivial⟩)
  have w_35 : G_27.2.1 (g.2.2 71) = (G.2.1 (g.2.2 71)) := (hfr_28.2.1 (g.2.2 71) ⟨(hD1 71 (by decide) 74 (by decide) (by decide)), trivial⟩)
  have w_36 : G_27.2.1 (g.2.2 72) = (G.2.1 (g.2.2 72)) := (hfr_28.2.1 (g.2.2 72) ⟨(hD1 72 (by decide) 74 (by decide) (by decide)), trivial⟩)
  obtain ⟨f_37, ef_37⟩ : ∃ z : Nat → Int32, G_27.2.1 (g.2.2 74) = z := ⟨_, rfl⟩
  obtain ⟨n_38, en_38⟩ : ∃ z : Int32, G_27.1 26 = z := ⟨_, rfl⟩
  have hq_39 : F_X3_bestQuestion (G.2.1 (g.2.2 70)) (G.2.1 (g.2.2 71)) (G.2.1 (g.2.2 72)) (G.2.1 (g.2.2 74)) (G.1 20) (G.1 21) (G.1 26) = (x_26, f_37, n_38) := by have q := hex_29; rw [ef_37, en_38] at q; exact q
  rw [hq_39, tu3_eq] at hv
  have hH : HT g Ty G_27 H := by rw [← ht, ← eTx_26, eG_27]; exact hB
  refine lv_istore_n (lv' := [(1, .int x_26), (0, .ref h0)]) hx hb dX11_asks_7 rfl hl (by decide) rfl (fun ls hl => ?_)
  refine lv_iload_n hx hb dX11_asks_8 rfl (lv_at hl 0 rfl) ?_
  refine lv_iconst (v := (-1)) hx hb dX11_asks_9 (by decide) ?_
  refine lv_icmp_ne (tgt := 16) hx hb dX11_asks_10 (by decide) (fun c_40 => ?_) (fun c_40 => ?_)
  · rw [if_neg c_40] at hv
    refine lv_aload_n hx hb dX11_asks_16 rfl (lv_at hl 1 rfl) ?_
    obtain ⟨_, ⟨rfl, kq_42, kq_43, kq_44, kq_45, kq_46, kq_47, kq_48, kq_49, kq_50, kq_51, kq_52, kq_53, kq_54, kq_55, t_57⟩, o_c_41⟩ := hH h0 _ k_h0
    refine hg_get hx hb hG igX11 hown hK o_c_41 rfl 5 (by decide) (hG _ mw_362) rfl dX11_asks_17 ?_
    refine lv_aload_n hx hb dX11_asks_20 rfl (lv_at hl 1 rfl) ?_
    refine hg_get hx hb hG igX11 hown hK o_c_41 rfl 11 (by decide) (hG _ mw_368) rfl dX11_asks_21 ?_
    obtain ⟨_, ⟨q_60, q_61, rfl, kq_59, kq_60, kq_61, kq_63, rq_62, t_65⟩, o_c_58⟩ := hH (g.2.2 11) _ kq_53
    refine hg_getN hx hb hG igX3 hown hK o_c_58 rfl 5 (by decide) ((hK.2.1 _ nwf_301).use rfl) rfl dX11_asks_24 ?_
    rw [en_38]
    refine lv_i2l hx hb dX11_asks_27 rfl ?_
    refine lv_topl (fun u_66 eu_66 => ?_)
    obtain ⟨_, ⟨q_68, rfl, kq_68, rq_69, t_70⟩, o_c_67⟩ := hH (g.2.2 5) _ kq_47
    refine va_callv (va_runV (As := [.long u_66]) (rest := []) ⟨hx, hb, hml, hown, hts⟩ (c_X7_tell_x l g Ty G_27 H.size (g.2.2 5) u_66 kq_47 hD1) (cwV 1 hts (gwV mw_583 mw_584 mw_585 mw_80 mw_586) rfl rfl rfl hv_X7_tell ⟨Nat.le_of_ble_eq_true rfl, Nat.le_of_ble_eq_true rfl⟩) ⟨PcT_blind, hg_recv hK o_c_67 rfl, PcT_pre hK hH⟩ rfl rfl hl.1 rfl (lv_room (Nat.le_of_ble_eq_true rfl)) dX11_asks_28 ⟨Nat.zero_le _, Nat.zero_le _⟩) hS (fun q _ h => AF.mono hS.1 h) (fun q h => AF.mono hS.1 h) (fun ux_71 t H locs ht hvm hx_71 hB hz hk hS => ?_)
    obtain ⟨eTx_71, eGx_71⟩ := hx_71
    obtain ⟨G_72, eG_72⟩ : ∃ z, z = ux_71.2 := ⟨_, rfl⟩
    rw [← eG_72] at eGx_71
    obtain ⟨hfr_73, hex_74⟩ := eGx_71
    have fr_75 : FR [26, 27] [(g.2.2 74)] [] G G_72 := FR.tr fr_30 hfr_73 (by decide) (fun _ _ => trivial) (by decide)
    have u_76 : G_72.1 20 = (G.1 20) := (hfr_73.1 20 (by decide)).trans u_31
    have u_77 : G_72.1 21 = (G.1 21) := (hfr_73.1 21 (by decide)).trans u_32
    have u_78 : G_72.1 1 = 0 := (hfr_73.1 1 (by decide)).trans u_33
    have u_79 : G_72.1 26 = n_38 := (hfr_73.1 26 (by decide)).trans en_38
    have w_80 : G_72.2.1 (g.2.2 70) = (G.2.1 (g.2.2 70)) := (hfr_73.2.1 (g.2.2 70) trivial).trans w_34
    have w_81 : G_72.2.1 (g.2.2 71) = (G.2.1 (g.2.2 71)) := (hfr_73.2.1 (g.2.2 71) trivial).trans w_35
    have w_82 : G_72.2.1 (g.2.2 72) = (G.2.1 (g.2.2 72)) := (hfr_73.2.1 (g.2.2 72) trivial).trans w_36
    have w_83 : G_72.2.1 (g.2.2 74) = f_37 := (hfr_73.2.1 (g.2.2 74) trivial).trans ef_37
    have hH : HT g Ty G_72 H := by rw [← ht, ← eTx_71, eG_72]; exact hB
    refine lv_iload_n hx hb dX11_asks_31 rfl (lv_at hl 0 rfl) ?_
    exact W.iret hx hb hr (fun t ht hWm => ⟨⟨x_26, (Ty, G_72), rfl, ⟨rfl, ⟨fr_75, hv.symm.trans (by rw [w_83, u_79])⟩⟩, by show HT g Ty G_72 t.heap; rw [ht]; exact hH⟩, hS.F ht⟩) hS.2.2 dX11_asks_32
  · rw [if_pos c_40] at hv
    have r_84 : rgI (-1) (-1) x_26 := rg_w (rg_eq rl_m1 c_40) (by decide) (by decide)
    refine lv_bipush (v := (-2)) hx hb dX11_asks_13 (by decide) ?_
    exact W.iret hx hb hr (fun t ht hWm => ⟨⟨(-2), (Ty, G_27), rfl, ⟨rfl, ⟨fr_30, hv.symm.trans (by rw [ef_37, en_38])⟩⟩, by show HT g Ty G_27 t.heap; rw [ht]; exact hH⟩, hS.F ht⟩) hS.2.2 dX11_asks_15
