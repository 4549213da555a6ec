def F_X0_heirOf (r0 : Nat → Int32) (r1 : Nat → Int32) (a0 : Int32) (a1 : Int32) : Int32 := (if (24 : Int32) ≤ (F_X10_leastOf (a0 &&& (F_X10_withGroup r0 a1))) then (0 : Int32) else (r1 (Int32.toNatClampNeg (F_X10_leastOf (a0 &&& (F_X10_withGroup r0 a1))))))
set_option maxHeartbeats 4000000 in
set_option maxRecDepth 100000 in
theorem c_X0_heirOf (l : Launch) (g : Gx) (Ty : TyM) (G : Gh) (h0 : Nat) (a0 : Int32) (a1 : Int32) (k_h0 : Ty h0 = some (10, 0)) : Met l yX0_heirOf (wsG yX0_heirOf cX0_heirOf 4 (some .int)) ({ frames := 2, cells := 0, slots := 0, locals := 44 }) (PcH g Ty G [.ref h0, .int a0, .int a1]) (vp_Si (fun r => r = F_X0_heirOf (G.2.1 (g.2.2 71)) (G.2.1 (g.2.2 73)) a0 a1)) 0 0 (fun _ => False) := by
  refine Met.ofW (cc := cX0_heirOf) (maxL := 4) (ret := (some .int)) (by decide) rfl ?_
  intro p e s m args below meth c s₁ B hml hv
  obtain ⟨rfl, hK, hH⟩ := hv
  have hx := B.exec
  have hb := B.bytes
  have hr := B.returns
  have hts := atoms_spec (ws := (wsG yX0_heirOf cX0_heirOf 4 (some .int))) B.pre
  have hG : ∀ w ∈ GW, w.before ([.ref h0, .int a0, .int a1] : List Value).toArray s = true := fun w h => hts w (List.mem_cons_of_mem _ h)
  have hown : s.vm.findClass RX0 = some m.cls := findClass_of_methodNamed B.named
  have hlocks := B.notSynchronized
  have hl := lv_entry [.ref h0, .int a0, .int a1] (n := 4) (Nat.le_of_ble_eq_true rfl)
  rw [lg_entry_eq]
  generalize (lg_sl [.ref h0, .int a0, .int a1] ++ List.replicate (4 - (lg_sl [.ref h0, .int a0, .int a1]).length) Slot.unset).toArray = ls at hl ⊢
  have hl : lv_has ls 4 [(0, .ref h0), (1, .int a0), (2, .int a1)] := hl
  have hv : (if (24 : Int32) ≤ (F_X10_leastOf (a0 &&& (F_X10_withGroup (G.2.1 (g.2.2 71)) a1))) then (0 : Int32) else ((G.2.1 (g.2.2 73)) (Int32.toNatClampNeg (F_X10_leastOf (a0 &&& (F_X10_withGroup (G.2.1 (g.2.2 71)) a1)))))) = F_X0_heirOf (G.2.1 (g.2.2 71)) (G.2.1 (g.2.2 73)) a0 a1 := rfl
  refine lv_aload_n hx hb dX0_heirOf_0 rfl (lv_at hl 0 rfl) ?_
  obtain ⟨_, ⟨rfl, kq_2, kq_3, kq_4⟩, o_c_1⟩ := hH h0 _ k_h0
  refine hg_get hx hb hG igX0 hown hK o_c_1 rfl 0 (by decide) (hG _ mw_239) rfl dX0_heirOf_1 ?_
  refine lv_iload_n hx hb dX0_heirOf_4 rfl (lv_at hl 1 rfl) ?_
  refine lv_aload_n hx hb dX0_heirOf_5 rfl (lv_at hl 0 rfl) ?_
  refine hg_get hx hb hG igX0 hown hK o_c_1 rfl 0 (by decide) (hG _ mw_239) rfl dX0_heirOf_6 ?_
  refine lv_iload_n hx hb dX0_heirOf_9 rfl (lv_at hl 2 rfl) ?_
  obtain ⟨_, ⟨rfl, kq_6, kq_7, kq_8, t_13⟩, o_c_5⟩ := hH (g.2.2 0) _ kq_2
  refine vp_callSi (W.runV (As := [.int a1]) (rest := [.int a0, .ref (g.2.2 0)]) ⟨hx, hb, hml, hown, hts⟩ (c_X10_withGroup l g Ty G (g.2.2 0) a1 kq_2) (cwV 1 hts (gwV mw_732 mw_659 mw_660 mw_77 mw_661) rfl rfl rfl hv_X10_withGroup ⟨Nat.le_of_ble_eq_true rfl, Nat.le_of_ble_eq_true rfl⟩) ⟨PcH_blind, hg_recv hK o_c_5 rfl, PcH_pre hK hH⟩ rfl rfl hl.1 rfl (lv_room (Nat.le_of_ble_eq_true rfl)) dX0_heirOf_10 ⟨Nat.zero_le _, Nat.zero_le _⟩) (fun x_14 hx_14 => ?_)
  try rw [← hx_14] at hv
  have ex_15 : x_14 = F_X10_withGroup (G.2.1 (g.2.2 71)) a1 := hx_14
  try rw [← ex_15] at hv
  refine lv_iand hx hb dX0_heirOf_13 ?_
  refine lv_topi (fun x_16 ex_16 => ?_)
  try rw [← ex_16] at hv
  refine vp_callSi (W.runV (As := [.int x_16]) (rest := []) ⟨hx, hb, hml, hown, hts⟩ (c_X10_leastOf l g Ty G (g.2.2 0) x_16 kq_2) (cwV 1 hts (gwV mw_733 mw_654 mw_655 mw_77 mw_656) rfl rfl rfl hv_X10_leastOf ⟨Nat.le_of_ble_eq_true rfl, Nat.le_of_ble_eq_true rfl⟩) ⟨PcH_blind, hg_recv hK o_c_5 rfl, PcH_pre hK hH⟩ rfl rfl hl.1 rfl (lv_room (Nat.le_of_ble_eq_true rfl)) dX0_heirOf_14 ⟨Nat.zero_le _, Nat.zero_le _⟩) (fun x_17 hx_17 => ?_)
  have rx_17 : rgI (0) (24) x_17 := hx_17.1
  try rw [← hx_17.2] at hv
  have ex_18 : x_17 = F_X10_leastOf x_16 := hx_17.2
  try rw [← ex_18] at hv
  refine lv_istore_n (lv' := [(3, .int x_17), (0, .ref h0), (1, .int a0), (2, .int a1)]) hx hb dX0_heirOf_17 rfl hl (by decide) rfl (fun ls hl => ?_)
  refine lv_iload_n hx hb dX0_heirOf_18 rfl (lv_at hl 0 rfl) ?_
  refine lv_bipush (v := 24) hx hb dX0_heirOf_19 (by decide) ?_
  refine lv_icmp_ge (tgt := 33) hx hb dX0_heirOf_21 (by decide) (fun c_19 => ?_) (fun c_19 => ?_)
  · rw [if_pos c_19] at hv
    have r_20 : rgI (24) (24) x_17 := rg_w (rg_leR rl_24 rx_17 c_19) (by decide) (by decide)
    refine lv_iconst (v := 0) hx hb dX0_heirOf_33 (by decide) ?_
    exact W.iret hx hb hr (fun t ht hW => ⟨0, rfl, hv, ht⟩) (fun q h => by cases h) dX0_heirOf_34
  · rw [if_neg c_19] at hv
    have r_21 : rgI (0) (23) x_17 := rg_w (rg_ltL rx_17 rl_24 (nle_lt c_19)) (by decide) (by decide)
    refine lv_aload_n hx hb dX0_heirOf_24 rfl (lv_at hl 1 rfl) ?_
    refine hg_get hx hb hG igX0 hown hK o_c_1 rfl 2 (by decide) (hG _ mw_241) rfl dX0_heirOf_25 ?_
    refine lv_iload_n hx hb dX0_heirOf_28 rfl (lv_at hl 0 rfl) ?_
    obtain ⟨_, rfl, o_c_22⟩ := hH (g.2.2 73) _ kq_4
    have o_c_22 : va_at g.1 vwCl ((g.2.2 73), .inl (g.2.1 1, 24, .inl (G.2.1 (g.2.2 73)))) s.heap := o_c_22
    refine hg_iald hx hb hK o_c_22 (rg_in (n := 24) r_21 (by decide) (by decide)) dX0_heirOf_29 ?_
    refine lv_topi (fun x_23 ex_23 => ?_)
    try rw [← ex_23] at hv
    refine lv_goto (tgt := 34) hx hb dX0_heirOf_30 (by decide) ?_
    exact W.iret hx hb hr (fun t ht hW => ⟨x_23, rfl, hv, ht⟩) (fun q h => by cases h) dX0_heirOf_34

def F_X0_nameHeirs_3 : Nat → Int32 → Int32 → Int32 → Int32 → (Nat → Int32) → (Nat → Int32) → Int32 → (Nat → Int32) × Int32
  | 0, _, _, _, _, _, yr1, yn23 => (yr1, yn23)
  | n + 1, y1, y2, y3, y4, yr0, yr1, yn23 => (if (24 : Int32) ≤ y4 then (yr1, yn23) else (if (y1 &&& ((1 : Int32) <<< (y4 &&& 31))) = (0 : Int32) then (F_X0_nameHeirs_3 n y1 y2 y3 (y4 + (1 : Int32)) yr0 (upd yr1 (Int32.toNatClampNeg y4) (0 : Int32)) yn23) else (if (F_X10_groupOf yr0 y4) = (0 : Int32) then (F_X0_nameHeirs_3 n y1 y2 y3 (y4 + (1 : Int32)) yr0 (upd yr1 (Int32.toNatClampNeg y4) (0 : Int32)) yn23) else (if (F_X10_groupOf yr0 y4) = y2 then (if y3 = (0 : Int32) then (tu2 (F_X10_newGroup yn23) (fun z15 z16 => (F_X0_nameHeirs_3 n y1 y2 y3 (y4 + (1 : Int32)) yr0 (upd (upd yr1 (Int32.toNatClampNeg y4) (0 : Int32)) (Int32.toNatClampNeg y4) z15) z16))) else (F_X0_nameHeirs_3 n y1 y2 y3 (y4 + (1 : Int32)) yr0 (upd (upd yr1 (Int32.toNatClampNeg y4) (0 : Int32)) (Int32.toNatClampNeg y4) y3) yn23)) else (if (F_X0_heirOf yr0 (upd yr1 (Int32.toNatClampNeg y4) (0 : Int32)) (y1 &&& (((1 : Int32) <<< (y4 &&& 31)) - (1 : Int32))) (F_X10_groupOf yr0 y4)) = (0 : Int32) then (tu2 (F_X10_newGroup yn23) (fun z13 z14 => (F_X0_nameHeirs_3 n y1 y2 y3 (y4 + (1 : Int32)) yr0 (upd (upd yr1 (Int32.toNatClampNeg y4) (0 : Int32)) (Int32.toNatClampNeg y4) z13) z14))) else (F_X0_nameHeirs_3 n y1 y2 y3 (y4 + (1 : Int32)) yr0 (upd (upd yr1 (Int32.toNatClampNeg y4) (0 : Int32)) (Int32.toNatClampNeg y4) (F_X0_heirOf yr0 (upd yr1 (Int32.toNatClampNeg y4) (0 : Int32)) (y1 &&& (((1 : Int32) <<< (y4 &&& 31)) - (1 : Int32))) (F_X10_groupOf yr0 y4))) yn23))))))
def F_X0_nameHeirs (r0 : Nat → Int32) (r1 : Nat → Int32) (m23 : Int32) (a0 : Int32) (a1 : Int32) (a2 : Int32) : (Nat → Int32) × Int32 := (tu2 (F_X0_nameHeirs_3 26 a0 a1 a2 (0 : Int32) r0 r1 m23) (fun z17 z18 => (z17, z18)))
set_option maxHeartbeats 4000000 in
set_option maxRecDepth 100000 in
theorem c_X0_nameHeirs (l : Launch) (g : Gx) (Ty : TyM) (G : Gh) (sz : Nat) (h0 : Nat) (a0 : Int32) (a1 : Int32) (a2 : Int32) (k_h0 : Ty h0 = some (10, 0)) (hD1 : LD1 g) : Met l yX0_nameHeirs (wsG yX0_nameHeirs cX0_nameHeirs 7 none) ({ frames := 3, cells := 0, slots := 0, locals := 67 }) (PcT g Ty G sz [.ref h0, .int a0, .int a1, .int a2]) (QwV g Ty sz (fun u => u.1 = Ty ∧ FR [23] [(g.2.2 73)] [] G u.2 ∧ F_X0_nameHeirs (G.2.1 (g.2.2 71)) (G.2.1 (g.2.2 73)) (G.1 23) a0 a1 a2 = ((u.2.2.1 (g.2.2 73)), (u.2.1 23)))) 0 0 (AF Ty sz) := by
  refine Met.ofW (cc := cX0_nameHeirs) (maxL := 7) (ret := none) (by decide) rfl ?_
  intro p e s m args below meth c s₁ B hml hv
  obtain ⟨rfl, hsz, hK, hH⟩ := hv
  subst hsz
  have hx := B.exec
  have hb := B.bytes
  have hr := B.returns
  have hts := atoms_spec (ws := (wsG yX0_nameHeirs cX0_nameHeirs 7 none)) B.pre
  have hG : ∀ w ∈ GW, w.before ([.ref h0, .int a0, .int a1, .int a2] : List Value).toArray s = true := fun w h => hts w (List.mem_cons_of_mem _ h)
  have hown : s.vm.findClass RX0 = some m.cls := findClass_of_methodNamed B.named
  have hlocks := B.notSynchronized
  have hl := lv_entry [.ref h0, .int a0, .int a1, .int a2] (n := 7) (Nat.le_of_ble_eq_true rfl)
  rw [lg_entry_eq]
  generalize (lg_sl [.ref h0, .int a0, .int a1, .int a2] ++ List.replicate (7 - (lg_sl [.ref h0, .int a0, .int a1, .int a2]).length) Slot.unset).toArray = ls at hl ⊢
  have hl : lv_has ls 7 [(0, .ref h0), (1, .int a0), (2, .int a1), (3, .int a2)] := hl
  have hv : (tu2 (F_X0_nameHeirs_3 26 a0 a1 a2 (0 : Int32) (G.2.1 (g.2.2 71)) (G.2.1 (g.2.2 73)) (G.1 23)) (fun z11 z12 => (z11, z12))) = F_X0_nameHeirs (G.2.1 (g.2.2 71)) (G.2.1 (g.2.2 73)) (G.1 23) a0 a1 a2 := rfl
  have hS : va_S (AF Ty s.heap.size) s.heap s.heap [] := va_S.rf
  have L_3 : ∀ (n_3 : Nat) (H : Heap) (locs : List Loc) (G_3 : Gh) (fl1_3 : Nat → Int32) (nl23_3 : Int32) (y4_3 : Int32) (ls : Array Slot), FR [23] [(g.2.2 73)] [] G G_3 → G_3.2.1 (g.2.2 73) = fl1_3 → G_3.1 23 = nl23_3 → rgI (0) (24) y4_3 → (24 - (y4_3).toInt).toNat < n_3 → lv_has ls 7 [(0, .ref h0), (1, .int a0), (2, .int a1), (3, .int a2), (4, .int y4_3)] → (tu2 (F_X0_nameHeirs_3 n_3 a0 a1 a2 y4_3 (G.2.1 (g.2.2 71)) fl1_3 nl23_3) (fun z1 z2 => (z1, z2))) = F_X0_nameHeirs (G.2.1 (g.2.2 71)) (G.2.1 (g.2.2 73)) (G.1 23) a0 a1 a2 → HT g Ty G_3 H → va_S (AF Ty s.heap.size) s.heap H locs → Wm p l e (wsG yX0_nameHeirs cX0_nameHeirs 7 none) ({ frames := 3, cells := 0, slots := 0, locals := 67 }) s m [.ref h0, .int a0, .int a1, .int a2] below meth c H locs (0) (0) (QwV g Ty s.heap.size (fun u => u.1 = Ty ∧ FR [23] [(g.2.2 73)] [] G u.2 ∧ F_X0_nameHeirs (G.2.1 (g.2.2 71)) (G.2.1 (g.2.2 73)) (G.1 23) a0 a1 a2 = ((u.2.2.1 (g.2.2 73)), (u.2.1 23)))) 0 0 (AF Ty s.heap.size) (F0 m 3 ls []) := by
    intro n_3
    induction n_3 with
    | zero => intro H locs G_3 fl1_3 nl23_3 y4_3 ls frL_3 efl1_3 enl23_3 ry4_3 hm; exact absurd hm (Nat.not_lt_zero _)
    | succ n_3 ih_3 =>
      intro H locs G_3 fl1_3 nl23_3 y4_3 ls frL_3 efl1_3 enl23_3 ry4_3 hm_3 hl hv hH hS
      have L_93 : ∀ (H : Heap) (locs : List Loc) (G_93 : Gh) (fl1_93 : Nat → Int32) (nl23_93 : Int32) (ls : Array Slot), FR [23] [(g.2.2 73)] [] G G_93 → G_93.2.1 (g.2.2 73) = fl1_93 → G_93.1 23 = nl23_93 → rgI (0) (23) y4_3 → lv_has ls 7 [(0, .ref h0), (1, .int a0), (2, .int a1), (3, .int a2), (4, .int y4_3)] → (tu2 (F_X0_nameHeirs_3 n_3 a0 a1 a2 (y4_3 + (1 : Int32)) (G.2.1 (g.2.2 71)) fl1_93 nl23_93) (fun z3 z4 => (z3, z4))) = F_X0_nameHeirs (G.2.1 (g.2.2 71)) (G.2.1 (g.2.2 73)) (G.1 23) a0 a1 a2 → HT g Ty G_93 H → va_S (AF Ty s.heap.size) s.heap H locs → Wm p l e (wsG yX0_nameHeirs cX0_nameHeirs 7 none) ({ frames := 3, cells := 0, slots := 0, locals := 67 }) s m [.ref h0, .int a0, .int a1, .int a2] below meth c H locs (0) (0) (QwV g Ty s.heap.size (fun u => u.1 = Ty ∧ FR [23] [(g.2.2 73)] [] G u.2 ∧ F_X0_nameHeirs (G.2.1 (g.2.2 71)) (G.2.1 (g.2.2 73)) (G.1 23) a0 a1 a2 = ((u.2.2.1 (g.2.2 73)), (u.2.1 23)))) 0 0 (AF Ty s.heap.size) (F0 m 93 ls []) := by
        intro H locs G_93 fl1_93 nl23_93 ls frL_93 efl1_93 enl23_93 ry4_93 hl hv hH hS
        obtain ⟨x_1, ex_1⟩ : ∃ y : Int32, y = y4_3 + 1 := ⟨_, rfl⟩
        try rw [← ex_1] at hv
        have rx_1 : rgI (1) (24) x_1 := by rw [ex_1]; exact rg_w (rg_add ry4_93 rl_1 (by decide) (by decide)) (by decide) (by decide)
        have qx_1 : x_1.toInt = (y4_3 : Int32).toInt + 1 := by rw [ex_1]; exact rg_addE ry4_93 rl_1 (by decide) (by decide)
        refine lv_iinc (v := x_1) (lv' := [(4, .int x_1), (0, .ref h0), (1, .int a0), (2, .int a1), (3, .int a2)]) hx hb dX0_nameHeirs_93 hl (k := 4) rfl (by rw [ex_1]; rfl) (by decide) rfl (fun ls hl => ?_)
        refine lv_goto (tgt := 3) hx hb dX0_nameHeirs_96 (by decide) ?_
        exact ih_3 H locs G_93 fl1_93 nl23_93 x_1 ls frL_93 efl1_93 enl23_93 (rg_w rx_1 (by decide) (by decide)) (by have h1 := qx_1; have h2 := ry4_93.1; have h3 := ry4_93.2; have h4 := hm_3; omega) (lv_sub hl [1, 2, 3, 4, 0] rfl) hv hH hS
      have L_92 : ∀ (H : Heap) (locs : List Loc) (G_92 : Gh) (fl1_92 : Nat → Int32) (nl23_92 : Int32) (z0_92 : Int32) (ls : Array Slot), FR [23] [(g.2.2 73)] [] G G_92 → G_92.2.1 (g.2.2 73) = fl1_92 → G_92.1 23 = nl23_92 → rgI (0) (23) y4_3 → rgI (0) (23) y4_3 → Ty (g.2.2 73) = some (30, 24) → lv_has ls 7 [(0, .ref h0), (1, .int a0), (2, .int a1), (3, .int a2), (4, .int y4_3)] → (tu2 (F_X0_nameHeirs_3 n_3 a0 a1 a2 (y4_3 + (1 : Int32)) (G.2.1 (g.2.2 71)) (upd fl1_92 (Int32.toNatClampNeg y4_3) z0_92) nl23_92) (fun z5 z6 => (z5, z6))) = F_X0_nameHeirs (G.2.1 (g.2.2 71)) (G.2.1 (g.2.2 73)) (G.1 23) a0 a1 a2 → HT g Ty G_92 H → va_S (AF Ty s.heap.size) s.heap H locs → Wm p l e (wsG yX0_nameHeirs cX0_nameHeirs 7 none) ({ frames := 3, cells := 0, slots := 0, locals := 67 }) s m [.ref h0, .int a0, .int a1, .int a2] below meth c H locs (0) (0) (QwV g Ty s.heap.size (fun u => u.1 = Ty ∧ FR [23] [(g.2.2 73)] [] G u.2 ∧ F_X0_nameHeirs (G.2.1 (g.2.2 71)) (G.2.1 (g.2.2 73)) (G.1 23) a0 a1 a2 = ((u.2.2.1 (g.2.2 73)), (u.2.1 23)))) 0 0 (AF Ty s.heap.size) (F0 m 92 ls [.int z0_92, .int y4_3, .ref (g.2.2 73)]) := by
        intro H locs G_92 fl1_92 nl23_92 z0_92 ls frL_92 efl1_92 enl23_92 ry4_92 rz1_92 kz2_92 hl hv hH hS
        obtain ⟨_, rfl, o_c_2⟩ := hH (g.2.2 73) _ kz2_92
        have o_c_2 : va_at g.1 vwCl ((g.2.2 73), .inl (g.2.1 1, 24, .inl (G_92.2.1 (g.2.2 73)))) H := o_c_2
        refine hg_iast hx hb hK hS o_c_2 (AF.of kz2_92) (rg_in (n := 24) rz1_92 (by decide) (by decide)) dX0_nameHeirs_92 (fun H locs o_c_2 hz oq hS => ?_)
        obtain ⟨G_3, eG_3⟩ : ∃ z : Gh, z = aset G_92 (g.2.2 73) (upd (G_92.2.1 (g.2.2 73)) (y4_3 : Int32).toNatClampNeg z0_92) := ⟨_, rfl⟩
        have hH : HT g Ty G_3 H := by rw [eG_3]; exact HT.putA (upd (G_92.2.1 (g.2.2 73)) (y4_3 : Int32).toNatClampNeg z0_92) hH kz2_92 cf30 o_c_2 oq
        obtain ⟨f_4, ef_4⟩ : ∃ z : Nat → Int32, z = (upd fl1_92 (y4_3 : Int32).toNatClampNeg z0_92) := ⟨_, rfl⟩
        have eaf_4 : G_3 = aset G_92 (g.2.2 73) f_4 := by rw [eG_3, ef_4, efl1_92]
        try rw [← ef_4] at hv
        have fr_5 : FR [23] [(g.2.2 73)] [] G G_3 := FR.a frL_92 eaf_4 (fun b h => h.1)
        have u_6 : G_3.1 23 = nl23_92 := by rw [eaf_4]; exact enl23_92
        have w_7 : G_3.2.1 (g.2.2 71) = (G.2.1 (g.2.2 71)) := by rw [eaf_4]; exact (aset_ne (hD1 71 (by decide) 73 (by decide) (by decide))).trans (frL_92.2.1 (g.2.2 71) ⟨(hD1 71 (by decide) 73 (by decide) (by decide)), trivial⟩)
        have w_8 : G_3.2.1 (g.2.2 73) = f_4 := by rw [eaf_4]; exact aset_eq
        clear oq hz
        exact L_93 H locs G_3 f_4 nl23_92 ls fr_5 w_8 u_6 ry4_92 (lv_sub hl [0, 1, 2, 3, 4] rfl) hv hH hS
      have L_67 : ∀ (H : Heap) (locs : List Loc) (G_67 : Gh) (fl1_67 : Nat → Int32) (nl23_67 : Int32) (z0_67 : Int32) (ls : Array Slot), FR [23] [(g.2.2 73)] [] G G_67 → G_67.2.1 (g.2.2 73) = fl1_67 → G_67.1 23 = nl23_67 → rgI (0) (23) y4_3 → lv_has ls 7 [(0, .ref h0), (1, .int a0), (2, .int a1), (3, .int a2), (4, .int y4_3)] → (tu2 (if z0_67 = (0 : Int32) then (tu2 (F_X10_newGroup nl23_67) (fun z7 z8 => (F_X0_nameHeirs_3 n_3 a0 a1 a2 (y4_3 + (1 : Int32)) (G.2.1 (g.2.2 71)) (upd fl1_67 (Int32.toNatClampNeg y4_3) z7) z8))) else (F_X0_nameHeirs_3 n_3 a0 a1 a2 (y4_3 + (1 : Int32)) (G.2.1 (g.2.2 71)) (upd fl1_67 (Int32.toNatClampNeg y4_3) z0_67) nl23_67)) (fun z9 z10 => (z9, z10))) = F_X0_nameHeirs (G.2.1 (g.2.2 71)) (G.2.1 (g.2.2 73)) (G.1 23) a0 a1 a2 → HT g Ty G_67 H → va_S (AF Ty s.heap.size) s.heap H locs → Wm p l e (wsG yX0_nameHeirs cX0_nameHeirs 7 none) ({ frames := 3, cells := 0, slots := 0, locals := 67 }) s m [.ref h0, .int a0, .int a1, .int a2] below meth c H locs (0) (0) (QwV g Ty s.heap.size (fun u => u.1 = Ty ∧ FR [23] [(g.2.2 73)] [] G u.2 ∧ F_X0_nameHeirs (G.2.1 (g.2.2 71)) (G.2.1 (g.2.2 73)) (G.1 23) a0 a1 a2 = ((u.2.2.1 (g.2.2 73)), (u.2.1 23)))) 0 0 (AF Ty s.heap.size) (F0 m 67 ls [.int z0_67]) := by
        intro H locs G_67 fl1_67 nl23_67 z0_67 ls frL_67 efl1_67 enl23_67 ry4_67 hl hv hH hS
        refine lv_istore (lv' := [(6, .int z0_67), (0, .ref h0), (1, .int a0), (2, .int a1), (3, .int a2), (4, .int y4_3)]) hx hb dX0_nameHeirs_67 hl (by decide) rfl (fun ls hl => ?_)
        refine lv_aload_n hx hb dX0_nameHeirs_69 rfl (lv_at hl 1 rfl) ?_
        obtain ⟨_, ⟨rfl, kq_10, kq_11, kq_12⟩, o_c_9⟩ := hH h0 _ k_h0
        refine hg_get hx hb hG igX0 hown hK o_c_9 rfl 2 (by decide) (hG _ mw_241) rfl dX0_nameHeirs_70 ?_
        refine lv_iload hx hb dX0_nameHeirs_73 (lv_at hl 5 rfl) ?_
        refine lv_iload hx hb dX0_nameHeirs_75 (lv_at hl 0 rfl) ?_
        refine lv_if_eq (tgt := 85) hx hb dX0_nameHeirs_77 (by decide) (fun c_13 => ?_) (fun c_13 => ?_)
        · rw [if_pos c_13] at hv
          have r_14 : rgI (0) (0) z0_67 := rg_w (rg_eq rl_0 c_13) (by decide) (by decide)
          refine lv_aload_n hx hb dX0_nameHeirs_85 rfl (lv_at hl 1 rfl) ?_
          refine hg_get hx hb hG igX0 hown hK o_c_9 rfl 0 (by decide) (hG _ mw_239) rfl dX0_nameHeirs_86 ?_
          obtain ⟨_, ⟨rfl, kq_16, kq_17, kq_18, t_23⟩, o_c_15⟩ := hH (g.2.2 0) _ kq_10
          refine va_calli (va_runV (As := []) (rest := [.int y4_3, .ref (g.2.2 73)]) ⟨hx, hb, hml, hown, hts⟩ (c_X10_newGroup l g Ty G_67 H.size (g.2.2 0) kq_10 hD1) (cwV 0 hts (gwV mw_720 mw_721 mw_722 mw_77 mw_723) rfl rfl rfl hv_X10_newGroup ⟨Nat.le_of_ble_eq_true rfl, Nat.le_of_ble_eq_true rfl⟩) ⟨PcT_blind, hg_recv hK o_c_15 rfl, PcT_pre hK hH⟩ rfl rfl hl.1 rfl (lv_room (Nat.le_of_ble_eq_true rfl)) dX0_nameHeirs_89 ⟨Nat.zero_le _, Nat.zero_le _⟩) hS (fun q _ h => AF.mono hS.1 h) (fun q h => AF.mono hS.1 h) (fun x_24 ux_24 t H locs ht hvm hx_24 hB hz hk hS => ?_)
          obtain ⟨eTx_24, eGx_24⟩ := hx_24
          obtain ⟨G_25, eG_25⟩ : ∃ z, z = ux_24.2 := ⟨_, rfl⟩
          rw [← eG_25] at eGx_24
          obtain ⟨hfr_26, hex_27⟩ := eGx_24
          have fr_28 : FR [23] [(g.2.2 73)] [] G G_25 := FR.tr frL_67 hfr_26 (by decide) (fun _ _ => trivial) (by decide)
          have w_29 : G_25.2.1 (g.2.2 71) = (G.2.1 (g.2.2 71)) := (hfr_26.2.1 (g.2.2 71) trivial).trans (frL_67.2.1 (g.2.2 71) ⟨(hD1 71 (by decide) 73 (by decide) (by decide)), trivial⟩)
          have w_30 : G_25.2.1 (g.2.2 73) = fl1_67 := (hfr_26.2.1 (g.2.2 73) trivial).trans efl1_67
          obtain ⟨n_31, en_31⟩ : ∃ z : Int32, G_25.1 23 = z := ⟨_, rfl⟩
          have hq_32 : F_X10_newGroup nl23_67 = (x_24, n_31) := by have q := hex_27; rw [enl23_67, en_31] at q; exact q
          rw [hq_32, tu2_eq] at hv
          have hH : HT g Ty G_25 H := by rw [← ht, ← eTx_24, eG_25]; exact hB
          exact L_92 H locs G_25 fl1_67 n_31 x_24 ls fr_28 w_30 en_31 ry4_67 ry4_67 kq_12 (lv_sub hl [1, 2, 3, 4, 5] rfl) hv hH hS
        · rw [if_neg c_13] at hv
          refine lv_iload hx hb dX0_nameHeirs_80 (lv_at hl 0 rfl) ?_
          refine lv_goto (tgt := 92) hx hb dX0_nameHeirs_82 (by decide) ?_
          exact L_92 H locs G_67 fl1_67 nl23_67 z0_67 ls frL_67 efl1_67 enl23_67 ry4_67 ry4_67 kq_12 (lv_sub hl [1, 2, 3, 4, 5] rfl) hv hH hS
      rw [F_X0_nameHeirs_3] at hv
      refine lv_iload hx hb dX0_nameHeirs_3 (lv_at hl 4 rfl) ?_
      refine lv_bipush (v := 24) hx hb dX0_nameHeirs_5 (by decide) ?_
      refine lv_icmp_ge (tgt := 99) hx hb dX0_nameHeirs_7 (by decide) (fun c_33 => ?_) (fun c_33 => ?_)
      · rw [if_pos c_33] at hv
        have r_34 : rgI (24) (24) y4_3 := rg_w (rg_leR rl_24 ry4_3 c_33) (by decide) (by decide)
        rw [tu2_eq] at hv
        exact W.vret hx hb hr (fun t ht hWm => ⟨⟨(Ty, G_3), rfl, ⟨rfl, ⟨frL_3, hv.symm.trans (by rw [efl1_3, enl23_3])⟩⟩, by show HT g Ty G_3 t.heap; rw [ht]; exact hH⟩, hS.F ht⟩) hS.2.2 dX0_nameHeirs_99
      · rw [if_neg c_33] at hv
        have r_35 : rgI (0) (23) y4_3 := rg_w (rg_ltL ry4_3 rl_24 (nle_lt c_33)) (by decide) (by decide)
        refine lv_aload_n hx hb dX0_nameHeirs_10 rfl (lv_at hl 0 rfl) ?_
        obtain ⟨_, ⟨rfl, kq_37, kq_38, kq_39⟩, o_c_36⟩ := hH h0 _ k_h0
        refine hg_get hx hb hG igX0 hown hK o_c_36 rfl 2 (by decide) (hG _ mw_241) rfl dX0_nameHeirs_11 ?_
        refine lv_iload hx hb dX0_nameHeirs_14 (lv_at hl 4 rfl) ?_
        refine lv_iconst (v := 0) hx hb dX0_nameHeirs_16 (by decide) ?_
        obtain ⟨_, rfl, o_c_40⟩ := hH (g.2.2 73) _ kq_39
        have o_c_40 : va_at g.1 vwCl ((g.2.2 73), .inl (g.2.1 1, 24, .inl (G_3.2.1 (g.2.2 73)))) H := o_c_40
        refine hg_iast hx hb hK hS o_c_40 (AF.of kq_39) (rg_in (n := 24) r_35 (by decide) (by decide)) dX0_nameHeirs_17 (fun H locs o_c_40 hz oq hS => ?_)
        obtain ⟨G_41, eG_41⟩ : ∃ z : Gh, z = aset G_3 (g.2.2 73) (upd (G_3.2.1 (g.2.2 73)) (y4_3 : Int32).toNatClampNeg 0) := ⟨_, rfl⟩
        have hH : HT g Ty G_41 H := by rw [eG_41]; exact HT.putA (upd (G_3.2.1 (g.2.2 73)) (y4_3 : Int32).toNatClampNeg 0) hH kq_39 cf30 o_c_40 oq
        obtain ⟨f_42, ef_42⟩ : ∃ z : Nat → Int32, z = (upd fl1_3 (y4_3 : Int32).toNatClampNeg 0) := ⟨_, rfl⟩
        have eaf_42 : G_41 = aset G_3 (g.2.2 73) f_42 := by rw [eG_41, ef_42, efl1_3]
        try rw [← ef_42] at hv
        have fr_43 : FR [23] [(g.2.2 73)] [] G G_41 := FR.a frL_3 eaf_42 (fun b h => h.1)
        have u_44 : G_41.1 23 = nl23_3 := by rw [eaf_42]; exact enl23_3
        have w_45 : G_41.2.1 (g.2.2 71) = (G.2.1 (g.2.2 71)) := by rw [eaf_42]; exact (aset_ne (hD1 71 (by decide) 73 (by decide) (by decide))).trans (frL_3.2.1 (g.2.2 71) ⟨(hD1 71 (by decide) 73 (by decide) (by decide)), trivial⟩)
        have w_46 : G_41.2.1 (g.2.2 73) = f_42 := by rw [eaf_42]; exact aset_eq
        clear oq hz
        refine lv_aload_n hx hb dX0_nameHeirs_18 rfl (lv_at hl 0 rfl) ?_
        obtain ⟨_, ⟨rfl, kq_48, kq_49, kq_50⟩, o_c_47⟩ := hH h0 _ k_h0
        refine hg_get hx hb hG igX0 hown hK o_c_47 rfl 0 (by decide) (hG _ mw_239) rfl dX0_nameHeirs_19 ?_
        refine lv_iload hx hb dX0_nameHeirs_22 (lv_at hl 4 rfl) ?_
        obtain ⟨_, ⟨rfl, kq_52, kq_53, kq_54, t_59⟩, o_c_51⟩ := hH (g.2.2 0) _ kq_48
        refine vp_callSi (W.runV (As := [.int y4_3]) (rest := []) ⟨hx, hb, hml, hown, hts⟩ (c_X10_groupOf l g Ty G_41 (g.2.2 0) y4_3 kq_48) (cwV 1 hts (gwV mw_718 mw_608 mw_609 mw_77 mw_610) rfl rfl rfl hv_X10_groupOf ⟨Nat.le_of_ble_eq_true rfl, Nat.le_of_ble_eq_true rfl⟩) ⟨PcH_blind, hg_recv hK o_c_51 rfl, PcH_pre hK hH⟩ rfl rfl hl.1 rfl (lv_room (Nat.le_of_ble_eq_true rfl)) dX0_nameHeirs_24 ⟨Nat.zero_le _, Nat.zero_le _⟩) (fun x_60 hx_60 => ?_)
        try rw [← hx_60] at hv
        have ex_61 : x_60 = F_X10_groupOf (G.2.1 (g.2.2 71)) y4_3 := hx_60.trans (by rw [w_45])
        try rw [← ex_61] at hv
        refine lv_istore (lv' := [(5, .int x_60), (0, .ref h0), (1, .int a0), (2, .int a1), (3, .int a2), (4, .int y4_3)]) hx hb dX0_nameHeirs_27 hl (by decide) rfl (fun ls hl => ?_)
        refine lv_iload_n hx hb dX0_nameHeirs_29 rfl (lv_at hl 2 rfl) ?_
        refine lv_iconst (v := 1) hx hb dX0_nameHeirs_30 (by decide) ?_
        refine lv_iload hx hb dX0_nameHeirs_31 (lv_at hl 5 rfl) ?_
        refine lv_ishl hx hb dX0_nameHeirs_33 ?_
        refine lv_topi (fun x_62 ex_62 => ?_)
        try rw [← ex_62] at hv
        refine lv_iand hx hb dX0_nameHeirs_34 ?_
        refine lv_topi (fun x_63 ex_63 => ?_)
        try rw [← ex_63] at hv
        refine lv_if_eq (tgt := 93) hx hb dX0_nameHeirs_35 (by decide) (fun c_64 => ?_) (fun c_64 => ?_)
        · rw [if_pos c_64] at hv
          have r_65 : rgI (0) (0) x_63 := rg_w (rg_eq rl_0 c_64) (by decide) (by decide)
          exact L_93 H locs G_41 f_42 nl23_3 ls fr_43 w_46 u_44 r_35 (lv_sub hl [1, 2, 3, 4, 5] rfl) hv hH hS
        · rw [if_neg c_64] at hv
          refine lv_iload hx hb dX0_nameHeirs_38 (lv_at hl 0 rfl) ?_
          refine lv_if_eq (tgt := 93) hx hb dX0_nameHeirs_40 (by decide) (fun c_66 => ?_) (fun c_66 => ?_)
          · rw [if_pos c_66] at hv
            have r_67 : rgI (0) (0) x_60 := rg_w (rg_eq rl_0 c_66) (by decide) (by decide)
            exact L_93 H locs G_41 f_42 nl23_3 ls fr_43 w_46 u_44 r_35 (lv_sub hl [1, 2, 3, 4, 5] rfl) hv hH hS
          · rw [if_neg c_66] at hv
            refine lv_iload hx hb dX0_nameHeirs_43 (lv_at hl 0 rfl) ?_
            refine lv_iload_n hx hb dX0_nameHeirs_45 rfl (lv_at hl 3 rfl) ?_
            refine lv_icmp_ne (tgt := 53) hx hb dX0_nameHeirs_46 (by decide) (fun c_68 => ?_) (fun c_68 => ?_)
            · rw [if_neg c_68] at hv
              refine lv_aload_n hx hb dX0_nameHeirs_53 rfl (lv_at hl 1 rfl) ?_
              refine lv_iload_n hx hb dX0_nameHeirs_54 rfl (lv_at hl 2 rfl) ?_
              refine lv_iconst (v := 1) hx hb dX0_nameHeirs_55 (by decide) ?_
              refine lv_iload hx hb dX0_nameHeirs_56 (lv_at hl 5 rfl) ?_
              refine lv_ishl hx hb dX0_nameHeirs_58 ?_
              refine lv_topi (fun x_69 ex_69 => ?_)
              try rw [← ex_69] at hv
              have q_70 : x_62 = x_69 := ex_62.trans ex_69.symm
              subst q_70
              refine lv_iconst (v := 1) hx hb dX0_nameHeirs_59 (by decide) ?_
              refine lv_isub hx hb dX0_nameHeirs_60 ?_
              refine lv_topi (fun x_71 ex_71 => ?_)
              try rw [← ex_71] at hv
              refine lv_iand hx hb dX0_nameHeirs_61 ?_
              refine lv_topi (fun x_72 ex_72 => ?_)
              try rw [← ex_72] at hv
              refine lv_iload hx hb dX0_nameHeirs_62 (lv_at hl 0 rfl) ?_
              refine vp_callSi (W.runV (As := [.int x_72, .int x_60]) (rest := []) ⟨hx, hb, hml, hown, hts⟩ (c_X0_heirOf l g Ty G_41 h0 x_72 x_60 k_h0) (cwV 2 hts (gwV mw_728 mw_730 mw_14 mw_82 mw_731) rfl rfl rfl hv_X0_heirOf ⟨Nat.le_of_ble_eq_true rfl, Nat.le_of_ble_eq_true rfl⟩) ⟨PcH_blind, hg_recv hK o_c_47 rfl, PcH_pre hK hH⟩ rfl rfl hl.1 rfl (lv_room (Nat.le_of_ble_eq_true rfl)) dX0_nameHeirs_64 ⟨Nat.zero_le _, Nat.zero_le _⟩) (fun x_73 hx_73 => ?_)
              try rw [← hx_73] at hv
              have ex_74 : x_73 = F_X0_heirOf (G.2.1 (g.2.2 71)) f_42 x_72 x_60 := hx_73.trans (by rw [w_45, w_46])
              try rw [← ex_74] at hv
              exact L_67 H locs G_41 f_42 nl23_3 x_73 ls fr_43 w_46 u_44 r_35 (lv_sub hl [1, 2, 3, 4, 5] rfl) hv hH hS
            · rw [if_pos c_68] at hv
              refine lv_iload_n hx hb dX0_nameHeirs_49 rfl (lv_at hl 4 rfl) ?_
              refine lv_goto (tgt := 67) hx hb dX0_nameHeirs_50 (by decide) ?_
              exact L_67 H locs G_41 f_42 nl23_3 a2 ls fr_43 w_46 u_44 r_35 (lv_sub hl [1, 2, 3, 4, 5] rfl) hv hH hS
  refine lv_iconst (v := 0) hx hb dX0_nameHeirs_0 (by decide) ?_
  refine lv_istore (lv' := [(4, .int 0), (0, .ref h0), (1, .int a0), (2, .int a1), (3, .int a2)]) hx hb dX0_nameHeirs_1 hl (by decide) rfl (fun ls hl => ?_)
  exact L_3 26 s.heap [] G (G.2.1 (g.2.2 73)) (G.1 23) 0 ls FR.rf rfl rfl (rg_w rl_0 (by decide) (by decide)) (by decide) (lv_sub hl [1, 2, 3, 4, 0] rfl) hv hH hS

def F_X0_parentsBy (r0 : Nat → Int32) (r1 : Nat → Int32) (r2 : Nat → Int32) (m20 : Int32) (a1 : Int32) (a2 : Int32) : Int32 := (if (F_X10_hasPlace m20 a1 a2) = (0 : Int32) then (-1 : Int32) else (if ((F_X10_takenAt r0 a2) &&& ((1 : Int32) <<< (a1 &&& 31))) = (0 : Int32) then (if ((F_X10_size m20) + (F_J6_bitCount_0f7a4 ((((F_X10_spreadOf r1 r2 a1) &&& (F_X8_letting_z m20 a2)) &&& ((F_X10_takenAt r0 a2) ^^^ (-1 : Int32))) ||| ((1 : Int32) <<< (a1 &&& 31))))) ≤ (24 : Int32) then ((((F_X10_spreadOf r1 r2 a1) &&& (F_X8_letting_z m20 a2)) &&& ((F_X10_takenAt r0 a2) ^^^ (-1 : Int32))) ||| ((1 : Int32) <<< (a1 &&& 31))) else (-9 : Int32)) else (-2 : Int32)))
set_option maxHeartbeats 4000000 in
set_option maxRecDepth 100000 in
theorem c_X0_parentsBy (l : Launch) (g : Gx) (Ty : TyM) (G : Gh) (h0 : Nat) (b0 : Nat) (a1 : Int32) (a2 : Int32) (k_h0 : Ty h0 = some (10, 0)) (k_b0 : Ty b0 = some (18, 0)) (h24 : G.1 24 = 0) : Met l yX0_parentsBy (wsG yX0_parentsBy cX0_parentsBy 6 (some .int)) ({ frames := 4, cells := 0, slots := 0, locals := 92 }) (PcH g Ty G [.ref h0, .ref b0, .int a1, .int a2]) (vp_Si (fun r => r = F_X0_parentsBy (G.2.1 (g.2.2 70)) (G.2.1 (g.2.2 71)) (G.2.1 (g.2.2 72)) (G.1 20) a1 a2)) 0 0 (fun _ => False) := by
  refine Met.ofW (cc := cX0_parentsBy) (maxL := 6) (ret := (some .int)) (by decide) rfl ?_
  intro p e s m args below meth c s₁ B hml hv
  obtain ⟨rfl, hK, hH⟩ := hv
  have hx := B.exec
  have hb := B.bytes
  have hr := B.returns
  have hts := atoms_spec (ws := (wsG yX0_parentsBy cX0_parentsBy 6 (some .int))) B.pre
  have hG : ∀ w ∈ GW, w.before ([.ref h0, .ref b0, .int a1, .int a2] : List Value).toArray s = true := fun w h => hts w (List.mem_cons_of_mem _ h)
  have hown : s.vm.findClass RX0 = some m.cls := findClass_of_methodNamed B.named
  have hlocks := B.notSynchronized
  have hl := lv_entry [.ref h0, .ref b0, .int a1, .int a2] (n := 6) (Nat.le_of_ble_eq_true rfl)
  rw [lg_entry_eq]
  generalize (lg_sl [.ref h0, .ref b0, .int a1, .int a2] ++ List.replicate (6 - (lg_sl [.ref h0, .ref b0, .int a1, .int a2]).length) Slot.unset).toArray = ls at hl ⊢
  have hl : lv_has ls 6 [(0, .ref h0), (1, .ref b0), (2, .int a1), (3, .int a2)] := hl
  have hv : (if (F_X10_hasPlace (G.1 20) a1 a2) = (0 : Int32) then (-1 : Int32) else (if ((F_X10_takenAt (G.2.1 (g.2.2 70)) a2) &&& ((1 : Int32) <<< (a1 &&& 31))) = (0 : Int32) then (if ((F_X10_size (G.1 20)) + (F_J6_bitCount_0f7a4 ((((F_X10_spreadOf (G.2.1 (g.2.2 71)) (G.2.1 (g.2.2 72)) a1) &&& (F_X8_letting_z (G.1 20) a2)) &&& ((F_X10_takenAt (G.2.1 (g.2.2 70)) a2) ^^^ (-1 : Int32))) ||| ((1 : Int32) <<< (a1 &&& 31))))) ≤ (24 : Int32) then ((((F_X10_spreadOf (G.2.1 (g.2.2 71)) (G.2.1 (g.2.2 72)) a1) &&& (F_X8_letting_z (G.1 20) a2)) &&& ((F_X10_takenAt (G.2.1 (g.2.2 70)) a2) ^^^ (-1 : Int32))) ||| ((1 : Int32) <<< (a1 &&& 31))) else (-9 : Int32)) else (-2 : Int32))) = F_X0_parentsBy (G.2.1 (g.2.2 70)) (G.2.1 (g.2.2 71)) (G.2.1 (g.2.2 72)) (G.1 20) a1 a2 := rfl
  refine lv_aload_n hx hb dX0_parentsBy_0 rfl (lv_at hl 0 rfl) ?_
  obtain ⟨_, ⟨rfl, kq_2, kq_3, kq_4⟩, o_c_1⟩ := hH h0 _ k_h0
  refine hg_get hx hb hG igX0 hown hK o_c_1 rfl 0 (by decide) (hG _ mw_239) rfl dX0_parentsBy_1 ?_
  refine lv_iload_n hx hb dX0_parentsBy_4 rfl (lv_at hl 2 rfl) ?_
  refine lv_iload_n hx hb dX0_parentsBy_5 rfl (lv_at hl 3 rfl) ?_
  obtain ⟨_, ⟨rfl, kq_6, kq_7, kq_8, t_13⟩, o_c_5⟩ := hH (g.2.2 0) _ kq_2
  refine vp_callSi (W.runV (As := [.int a1, .int a2]) (rest := []) ⟨hx, hb, hml, hown, hts⟩ (c_X10_hasPlace l g Ty G (g.2.2 0) a1 a2 kq_2) (cwV 2 hts (gwV mw_640 mw_641 mw_642 mw_77 mw_643) rfl rfl rfl hv_X10_hasPlace ⟨Nat.le_of_ble_eq_true rfl, Nat.le_of_ble_eq_true rfl⟩) ⟨PcH_blind, hg_recv hK o_c_5 rfl, PcH_pre hK hH⟩ rfl rfl hl.1 rfl (lv_room (Nat.le_of_ble_eq_true rfl)) dX0_parentsBy_6 ⟨Nat.zero_le _, Nat.zero_le _⟩) (fun x_14 hx_14 => ?_)
  have rx_14 : rgI (0) (1) x_14 := hx_14.1
  try rw [← hx_14.2.2] at hv
  have ex_15 : x_14 = F_X10_hasPlace (G.1 20) a1 a2 := hx_14.2.2
  try rw [← ex_15] at hv
  refine lv_if_ne (tgt := 14) hx hb dX0_parentsBy_9 (by decide) (fun c_16 => ?_) (fun c_16 => ?_)
  · rw [if_neg c_16] at hv
    have r_17 : rgI (1) (1) x_14 := rg_w (rg_neL rx_14 rl_0 c_16) (by decide) (by decide)
    have r_18 : rgI (0) (23) a1 := rg_w (hx_14.2.1.resolve_left c_16) (by decide) (by decide)
    refine lv_aload_n hx hb dX0_parentsBy_14 rfl (lv_at hl 0 rfl) ?_
    refine hg_get hx hb hG igX0 hown hK o_c_1 rfl 0 (by decide) (hG _ mw_239) rfl dX0_parentsBy_15 ?_
    refine lv_iload_n hx hb dX0_parentsBy_18 rfl (lv_at hl 3 rfl) ?_
    refine vp_callSi (W.runV (As := [.int a2]) (rest := []) ⟨hx, hb, hml, hown, hts⟩ (c_X10_takenAt l g Ty G (g.2.2 0) a2 kq_2) (cwV 1 hts (gwV mw_645 mw_646 mw_647 mw_77 mw_648) rfl rfl rfl hv_X10_takenAt ⟨Nat.le_of_ble_eq_true rfl, Nat.le_of_ble_eq_true rfl⟩) ⟨PcH_blind, hg_recv hK o_c_5 rfl, PcH_pre hK hH⟩ rfl rfl hl.1 rfl (lv_room (Nat.le_of_ble_eq_true rfl)) dX0_parentsBy_19 ⟨Nat.zero_le _, Nat.zero_le _⟩) (fun x_19 hx_19 => ?_)
    try rw [← hx_19] at hv
    have ex_20 : x_19 = F_X10_takenAt (G.2.1 (g.2.2 70)) a2 := hx_19
    try rw [← ex_20] at hv
    refine lv_istore (lv' := [(4, .int x_19), (0, .ref h0), (1, .ref b0), (2, .int a1), (3, .int a2)]) hx hb dX0_parentsBy_22 hl (by decide) rfl (fun ls hl => ?_)
    refine lv_iload hx hb dX0_parentsBy_24 (lv_at hl 0 rfl) ?_
    refine lv_iconst (v := 1) hx hb dX0_parentsBy_26 (by decide) ?_
    refine lv_iload_n hx hb dX0_parentsBy_27 rfl (lv_at hl 3 rfl) ?_
    refine lv_ishl hx hb dX0_parentsBy_28 ?_
    refine lv_topi (fun x_21 ex_21 => ?_)
    try rw [← ex_21] at hv
    refine lv_iand hx hb dX0_parentsBy_29 ?_
    refine lv_topi (fun x_22 ex_22 => ?_)
    try rw [← ex_22] at hv
    refine lv_if_eq (tgt := 36) hx hb dX0_parentsBy_30 (by decide) (fun c_23 => ?_) (fun c_23 => ?_)
    · rw [if_pos c_23] at hv
      have r_24 : rgI (0) (0) x_22 := rg_w (rg_eq rl_0 c_23) (by decide) (by decide)
      refine lv_aload_n hx hb dX0_parentsBy_36 rfl (lv_at hl 1 rfl) ?_
      refine hg_get hx hb hG igX0 hown hK o_c_1 rfl 0 (by decide) (hG _ mw_239) rfl dX0_parentsBy_37 ?_
      refine lv_iload_n hx hb dX0_parentsBy_40 rfl (lv_at hl 3 rfl) ?_
      refine vp_callSi (W.runV (As := [.int a1]) (rest := []) ⟨hx, hb, hml, hown, hts⟩ (c_X10_spreadOf l g Ty G (g.2.2 0) a1 kq_2) (cwV 1 hts (gwV mw_649 mw_650 mw_651 mw_77 mw_652) rfl rfl rfl hv_X10_spreadOf ⟨Nat.le_of_ble_eq_true rfl, Nat.le_of_ble_eq_true rfl⟩) ⟨PcH_blind, hg_recv hK o_c_5 rfl, PcH_pre hK hH⟩ rfl rfl hl.1 rfl (lv_room (Nat.le_of_ble_eq_true rfl)) dX0_parentsBy_41 ⟨Nat.zero_le _, Nat.zero_le _⟩) (fun x_25 hx_25 => ?_)
      try rw [← hx_25] at hv
      have ex_26 : x_25 = F_X10_spreadOf (G.2.1 (g.2.2 71)) (G.2.1 (g.2.2 72)) a1 := hx_25
      try rw [← ex_26] at hv
      refine lv_aload_n hx hb dX0_parentsBy_44 rfl (lv_at hl 2 rfl) ?_
      refine lv_aload_n hx hb dX0_parentsBy_45 rfl (lv_at hl 1 rfl) ?_
      refine hg_get hx hb hG igX0 hown hK o_c_1 rfl 0 (by decide) (hG _ mw_239) rfl dX0_parentsBy_46 ?_
      refine lv_iload_n hx hb dX0_parentsBy_49 rfl (lv_at hl 4 rfl) ?_
      obtain ⟨_, ⟨q_28, q_30, q_31, q_32, q_33, q_34, q_35, q_36, q_37, rfl, kq_28, kq_30, kq_36, kq_37, rq_29, rq_32, t_38⟩, o_c_27⟩ := hH b0 _ k_b0
      refine vp_callSi (W.runV (As := [.ref (g.2.2 0), .int a2]) (rest := [.int x_25]) ⟨hx, hb, hml, hown, hts⟩ (c_X8_letting_z l g Ty G b0 (g.2.2 0) a2 k_b0 kq_2 h24) (cwV 2 hts (gwV mw_669 mw_670 mw_671 mw_81 mw_672) rfl rfl rfl hv_X8_letting ⟨Nat.le_of_ble_eq_true rfl, Nat.le_of_ble_eq_true rfl⟩) ⟨PcH_blind, hg_recv hK o_c_27 rfl, PcH_pre hK hH⟩ rfl rfl hl.1 rfl (lv_room (Nat.le_of_ble_eq_true rfl)) dX0_parentsBy_50 ⟨Nat.zero_le _, Nat.zero_le _⟩) (fun x_39 hx_39 => ?_)
      try rw [← hx_39] at hv
      have ex_40 : x_39 = F_X8_letting_z (G.1 20) a2 := hx_39
      try rw [← ex_40] at hv
      refine lv_iand hx hb dX0_parentsBy_53 ?_
      refine lv_topi (fun x_41 ex_41 => ?_)
      try rw [← ex_41] at hv
      refine lv_iload hx hb dX0_parentsBy_54 (lv_at hl 0 rfl) ?_
      refine lv_iconst (v := (-1)) hx hb dX0_parentsBy_56 (by decide) ?_
      refine lv_ixor hx hb dX0_parentsBy_57 ?_
      refine lv_topi (fun x_42 ex_42 => ?_)
      try rw [← ex_42] at hv
      refine lv_iand hx hb dX0_parentsBy_58 ?_
      refine lv_topi (fun x_43 ex_43 => ?_)
      try rw [← ex_43] at hv
      refine lv_iconst (v := 1) hx hb dX0_parentsBy_59 (by decide) ?_
      refine lv_iload_n hx hb dX0_parentsBy_60 rfl (lv_at hl 3 rfl) ?_
      refine lv_ishl hx hb dX0_parentsBy_61 ?_
      refine lv_topi (fun x_44 ex_44 => ?_)
      try rw [← ex_44] at hv
      have q_45 : x_21 = x_44 := ex_21.trans ex_44.symm
      subst q_45
      refine lv_ior hx hb dX0_parentsBy_62 ?_
      refine lv_topi (fun x_46 ex_46 => ?_)
      try rw [← ex_46] at hv
      refine lv_istore (lv' := [(5, .int x_46), (4, .int x_19), (0, .ref h0), (1, .ref b0), (2, .int a1), (3, .int a2)]) hx hb dX0_parentsBy_63 hl (by decide) rfl (fun ls hl => ?_)
      refine lv_aload_n hx hb dX0_parentsBy_65 rfl (lv_at hl 2 rfl) ?_
      refine hg_get hx hb hG igX0 hown hK o_c_1 rfl 0 (by decide) (hG _ mw_239) rfl dX0_parentsBy_66 ?_
      refine vp_callSi (W.runV (As := []) (rest := []) ⟨hx, hb, hml, hown, hts⟩ (c_X10_size l g Ty G (g.2.2 0) kq_2) (cwV 0 hts (gwV mw_708 mw_709 mw_710 mw_77 mw_711) rfl rfl rfl hv_X10_size ⟨Nat.le_of_ble_eq_true rfl, Nat.le_of_ble_eq_true rfl⟩) ⟨PcH_blind, hg_recv hK o_c_5 rfl, PcH_pre hK hH⟩ rfl rfl hl.1 rfl (lv_room (Nat.le_of_ble_eq_true rfl)) dX0_parentsBy_69 ⟨Nat.zero_le _, Nat.zero_le _⟩) (fun x_47 hx_47 => ?_)
      try rw [← hx_47] at hv
      have ex_48 : x_47 = F_X10_size (G.1 20) := hx_47
      try rw [← ex_48] at hv
      refine lv_iload hx hb dX0_parentsBy_72 (lv_at hl 0 rfl) ?_
      refine vp_callSi (W.runS (As := [.int x_46]) (rest := [.int x_47]) ⟨hx, hb, hml, hown, hts⟩ (c_J6_bitCount_x l g Ty G x_46 ) (cwSx 1 hts hG (gwC mw_620) mw_99 mw_713 mw_619 rfl rfl rfl hd_J6_bitCount_0f7a4 ⟨Nat.le_of_ble_eq_true rfl, Nat.le_of_ble_eq_true rfl⟩) ⟨PcH_blind, PcH_pre hK hH⟩ rfl rfl hl.1 rfl (lv_room (Nat.le_of_ble_eq_true rfl)) dX0_parentsBy_74 ⟨Nat.zero_le _, Nat.zero_le _⟩) (fun x_49 hx_49 => ?_)
      have rx_49 : rgI (0) (63) x_49 := hx_49.1
      try rw [← hx_49.2] at hv
      try rw [← hx_49.2] at hv
      refine lv_iadd hx hb dX0_parentsBy_77 ?_
      refine lv_topi (fun x_50 ex_50 => ?_)
      try rw [← ex_50] at hv
      refine lv_bipush (v := 24) hx hb dX0_parentsBy_78 (by decide) ?_
      refine lv_icmp_le (tgt := 88) hx hb dX0_parentsBy_80 (by decide) (fun c_51 => ?_) (fun c_51 => ?_)
      · rw [if_pos c_51] at hv
        have r_52 : rgI (-2147483648) (24) x_50 := rg_w (rg_leL (rg_top x_50) rl_24 c_51) (by decide) (by decide)
        refine lv_iload hx hb dX0_parentsBy_88 (lv_at hl 0 rfl) ?_
        exact W.iret hx hb hr (fun t ht hW => ⟨x_46, rfl, hv, ht⟩) (fun q h => by cases h) dX0_parentsBy_90
      · rw [if_neg c_51] at hv
        have r_53 : rgI (25) (2147483647) x_50 := rg_w (rg_ltR rl_24 (rg_top x_50) (nle_lt c_51)) (by decide) (by decide)
        refine lv_bipush (v := (-9)) hx hb dX0_parentsBy_83 (by decide) ?_
        refine lv_goto (tgt := 90) hx hb dX0_parentsBy_85 (by decide) ?_
        exact W.iret hx hb hr (fun t ht hW => ⟨(-9), rfl, hv, ht⟩) (fun q h => by cases h) dX0_parentsBy_90
    · rw [if_neg c_23] at hv
      refine lv_bipush (v := (-2)) hx hb dX0_parentsBy_33 (by decide) ?_
      exact W.iret hx hb hr (fun t ht hW => ⟨(-2), rfl, hv, ht⟩) (fun q h => by cases h) dX0_parentsBy_35
  · rw [if_pos c_16] at hv
    have r_54 : rgI (0) (0) x_14 := rg_w (rg_eq rl_0 c_16) (by decide) (by decide)
    refine lv_iconst (v := (-1)) hx hb dX0_parentsBy_12 (by decide) ?_
    exact W.iret hx hb hr (fun t ht hW => ⟨(-1), rfl, hv, ht⟩) (fun q h => by cases h) dX0_parentsBy_13

def F_X0_bring_87 : Nat → Int32 → Int32 → Int32 → Int32 → Int32 → Int32 → Int32 → Int32 → Int32 → (Nat → Int32) → (Nat → Int32) → (Nat → Int32) → (Nat → Int32) → Int32 → Int32 → Int32 → (Nat → Int32) × (Nat → Int32) × (Nat → Int32) × (Nat → Int32) × Int32 × Int32 × Int32
  | 0, _, _, _, _, _, _, _, _, _, yr0, yr1, yr2, yr3, yn20, yn22, yn23 => (yr0, yr1, yr2, yr3, yn20, yn22, yn23)
  | n + 1, y2, y3, y4, y5, y6, y7, y8, y9, y10, yr0, yr1, yr2, yr3, yn20, yn22, yn23 => (if (24 : Int32) ≤ y10 then (yr0, yr1, yr2, yr3, yn20, yn22, yn23) else (if y10 = y2 then (F_X0_bring_87 n y2 y3 y4 y5 y6 y7 y8 y9 (y10 + (1 : Int32)) yr0 yr1 yr2 yr3 yn20 yn22 yn23) else (if (y4 &&& ((1 : Int32) <<< (y10 &&& 31))) = (0 : Int32) then (F_X0_bring_87 n y2 y3 y4 y5 y6 y7 y8 y9 (y10 + (1 : Int32)) yr0 yr1 yr2 yr3 yn20 yn22 yn23) else (if (F_X10_groupOf yr1 y10) = y6 then (tu5 (F_X10_put yr0 yr1 yr2 yn20 y10 y3 y8 y7) (fun z78 z79 z80 z81 z82 => (F_X0_bring_87 n y2 y3 y4 y5 y6 y7 y8 y9 (y10 + (1 : Int32)) z79 z80 z81 yr3 z82 yn22 yn23))) else (tu5 (F_X10_put yr0 yr1 yr2 yn20 y10 y3 (yr3 (Int32.toNatClampNeg y10)) (F_X0_heirOf yr1 yr3 y5 (F_X10_masterOf yr2 y10))) (fun z73 z74 z75 z76 z77 => (F_X0_bring_87 n y2 y3 y4 y5 y6 y7 y8 y9 (y10 + (1 : Int32)) z74 z75 z76 yr3 z77 yn22 yn23)))))))
def F_X0_bring (r0 : Nat → Int32) (r1 : Nat → Int32) (r2 : Nat → Int32) (r3 : Nat → Int32) (m20 : Int32) (m22 : Int32) (m23 : Int32) (a0 : Int32) (a1 : Int32) (a2 : Int32) (a3 : Int32) : Int32 × (Nat → Int32) × (Nat → Int32) × (Nat → Int32) × (Nat → Int32) × Int32 × Int32 × Int32 := (if (F_X10_groupOf r1 a0) = (0 : Int32) then (if (F_X10_groupOf r1 a1) = (0 : Int32) then (tu2 (F_X0_nameHeirs r1 r3 m23 (F_X10_spreadOf r1 r2 a1) (F_X10_groupOf r1 a1) (F_X10_groupOf r1 a0)) (fun z97 z98 => (tu5 (F_X10_put r0 r1 r2 m20 a1 a2 (F_X10_groupOf r1 a0) (F_X10_masterOf r2 a0)) (fun z99 z100 z101 z102 z103 => (tu7 (F_X0_bring_87 26 a1 a2 a3 (F_X10_spreadOf r1 r2 a1) (F_X10_groupOf r1 a1) (F_X10_masterOf r2 a0) (F_X10_groupOf r1 a0) z99 (0 : Int32) z100 z101 z102 z97 z103 m22 z98) (fun z104 z105 z106 z107 z108 z109 z110 => (z99, z104, z105, z106, z107, z108, (z109 + (1 : Int32)), z110))))))) else (tu2 (F_X10_newGroup m23) (fun z111 z112 => (tu2 (F_X0_nameHeirs r1 r3 z112 (F_X10_spreadOf r1 r2 a1) (F_X10_groupOf r1 a1) z111) (fun z113 z114 => (tu5 (F_X10_put r0 r1 r2 m20 a1 a2 z111 (F_X10_masterOf r2 a0)) (fun z115 z116 z117 z118 z119 => (tu7 (F_X0_bring_87 26 a1 a2 a3 (F_X10_spreadOf r1 r2 a1) (F_X10_groupOf r1 a1) (F_X10_masterOf r2 a0) z111 z115 (0 : Int32) z116 z117 z118 z113 z119 m22 z114) (fun z120 z121 z122 z123 z124 z125 z126 => (z115, z120, z121, z122, z123, z124, (z125 + (1 : Int32)), z126)))))))))) else (tu2 (F_X0_nameHeirs r1 r3 m23 (F_X10_spreadOf r1 r2 a1) (F_X10_groupOf r1 a1) (F_X10_groupOf r1 a0)) (fun z83 z84 => (tu5 (F_X10_put r0 r1 r2 m20 a1 a2 (F_X10_groupOf r1 a0) (F_X10_masterOf r2 a0)) (fun z85 z86 z87 z88 z89 => (tu7 (F_X0_bring_87 26 a1 a2 a3 (F_X10_spreadOf r1 r2 a1) (F_X10_groupOf r1 a1) (F_X10_masterOf r2 a0) (F_X10_groupOf r1 a0) z85 (0 : Int32) z86 z87 z88 z83 z89 m22 z84) (fun z90 z91 z92 z93 z94 z95 z96 => (z85, z90, z91, z92, z93, z94, (z95 + (1 : Int32)), z96))))))))
set_option maxHeartbeats 4000000 in
set_option maxRecDepth 100000 in
theorem c_X0_bring (l : Launch) (g : Gx) (Ty : TyM) (G : Gh) (sz : Nat) (h0 : Nat) (a0 : Int32) (a1 : Int32) (a2 : Int32) (a3 : Int32) (k_h0 : Ty h0 = some (10, 0)) (hD1 : LD1 g) : Met l yX0_bring (wsG yX0_bring cX0_bring 11 (some .int)) ({ frames := 4, cells := 0, slots := 0, locals := 93 }) (PcT g Ty G sz [.ref h0, .int a0, .int a1, .int a2, .int a3]) (QwI g Ty sz (fun r u => u.1 = Ty ∧ FR [20, 22, 23] [(g.2.2 70), (g.2.2 71), (g.2.2 72), (g.2.2 73)] [] G u.2 ∧ F_X0_bring (G.2.1 (g.2.2 70)) (G.2.1 (g.2.2 71)) (G.2.1 (g.2.2 72)) (G.2.1 (g.2.2 73)) (G.1 20) (G.1 22) (G.1 23) a0 a1 a2 a3 = (r, (u.2.2.1 (g.2.2 70)), (u.2.2.1 (g.2.2 71)), (u.2.2.1 (g.2.2 72)), (u.2.2.1 (g.2.2 73)), (u.2.1 20), (u.2.1 22), (u.2.1 23)))) 0 0 (AF Ty sz) := by
  refine Met.ofW (cc := cX0_bring) (maxL := 11) (ret := (some .int)) (by decide) rfl ?_
  intro p e s m args below meth c s₁ B hml hv
  obtain ⟨rfl, hsz, hK, hH⟩ := hv
  subst hsz
  have hx := B.exec
  have hb := B.bytes
  have hr := B.returns
  have hts := atoms_spec (ws := (wsG yX0_bring cX0_bring 11 (some .int))) B.pre
  have hG : ∀ w ∈ GW, w.before ([.ref h0, .int a0, .int a1, .int a2, .int a3] : List Value).toArray s = true := fun w h => hts w (List.mem_cons_of_mem _ h)
  have hown : s.vm.findClass RX0 = some m.cls := findClass_of_methodNamed B.named
  have hlocks := B.notSynchronized
  have hl := lv_entry [.ref h0, .int a0, .int a1, .int a2, .int a3] (n := 11) (Nat.le_of_ble_eq_true rfl)
  rw [lg_entry_eq]
  generalize (lg_sl [.ref h0, .int a0, .int a1, .int a2, .int a3] ++ List.replicate (11 - (lg_sl [.ref h0, .int a0, .int a1, .int a2, .int a3]).length) Slot.unset).toArray = ls at hl ⊢
  have hl : lv_has ls 11 [(0, .ref h0), (1, .int a0), (2, .int a1), (3, .int a2), (4, .int a3)] := hl
  have hv : (if (F_X10_groupOf (G.2.1 (g.2.2 71)) a0) = (0 : Int32) then (if (F_X10_groupOf (G.2.1 (g.2.2 71)) a1) = (0 : Int32) then (tu2 (F_X0_nameHeirs (G.2.1 (g.2.2 71)) (G.2.1 (g.2.2 73)) (G.1 23) (F_X10_spreadOf (G.2.1 (g.2.2 71)) (G.2.1 (g.2.2 72)) a1) (F_X10_groupOf (G.2.1 (g.2.2 71)) a1) (F_X10_groupOf (G.2.1 (g.2.2 71)) a0)) (fun z43 z44 => (tu5 (F_X10_put (G.2.1 (g.2.2 70)) (G.2.1 (g.2.2 71)) (G.2.1 (g.2.2 72)) (G.1 20) a1 a2 (F_X10_groupOf (G.2.1 (g.2.2 71)) a0) (F_X10_masterOf (G.2.1 (g.2.2 72)) a0)) (fun z45 z46 z47 z48 z49 => (tu7 (F_X0_bring_87 26 a1 a2 a3 (F_X10_spreadOf (G.2.1 (g.2.2 71)) (G.2.1 (g.2.2 72)) a1) (F_X10_groupOf (G.2.1 (g.2.2 71)) a1) (F_X10_masterOf (G.2.1 (g.2.2 72)) a0) (F_X10_groupOf (G.2.1 (g.2.2 71)) a0) z45 (0 : Int32) z46 z47 z48 z43 z49 (G.1 22) z44) (fun z50 z51 z52 z53 z54 z55 z56 => (z45, z50, z51, z52, z53, z54, (z55 + (1 : Int32)), z56))))))) else (tu2 (F_X10_newGroup (G.1 23)) (fun z57 z58 => (tu2 (F_X0_nameHeirs (G.2.1 (g.2.2 71)) (G.2.1 (g.2.2 73)) z58 (F_X10_spreadOf (G.2.1 (g.2.2 71)) (G.2.1 (g.2.2 72)) a1) (F_X10_groupOf (G.2.1 (g.2.2 71)) a1) z57) (fun z59 z60 => (tu5 (F_X10_put (G.2.1 (g.2.2 70)) (G.2.1 (g.2.2 71)) (G.2.1 (g.2.2 72)) (G.1 20) a1 a2 z57 (F_X10_masterOf (G.2.1 (g.2.2 72)) a0)) (fun z61 z62 z63 z64 z65 => (tu7 (F_X0_bring_87 26 a1 a2 a3 (F_X10_spreadOf (G.2.1 (g.2.2 71)) (G.2.1 (g.2.2 72)) a1) (F_X10_groupOf (G.2.1 (g.2.2 71)) a1) (F_X10_masterOf (G.2.1 (g.2.2 72)) a0) z57 z61 (0 : Int32) z62 z63 z64 z59 z65 (G.1 22) z60) (fun z66 z67 z68 z69 z70 z71 z72 => (z61, z66, z67, z68, z69, z70, (z71 + (1 : Int32)), z72)))))))))) else (tu2 (F_X0_nameHeirs (G.2.1 (g.2.2 71)) (G.2.1 (g.2.2 73)) (G.1 23) (F_X10_spreadOf (G.2.1 (g.2.2 71)) (G.2.1 (g.2.2 72)) a1) (F_X10_groupOf (G.2.1 (g.2.2 71)) a1) (F_X10_groupOf (G.2.1 (g.2.2 71)) a0)) (fun z29 z30 => (tu5 (F_X10_put (G.2.1 (g.2.2 70)) (G.2.1 (g.2.2 71)) (G.2.1 (g.2.2 72)) (G.1 20) a1 a2 (F_X10_groupOf (G.2.1 (g.2.2 71)) a0) (F_X10_masterOf (G.2.1 (g.2.2 72)) a0)) (fun z31 z32 z33 z34 z35 => (tu7 (F_X0_bring_87 26 a1 a2 a3 (F_X10_spreadOf (G.2.1 (g.2.2 71)) (G.2.1 (g.2.2 72)) a1) (F_X10_groupOf (G.2.1 (g.2.2 71)) a1) (F_X10_masterOf (G.2.1 (g.2.2 72)) a0) (F_X10_groupOf (G.2.1 (g.2.2 71)) a0) z31 (0 : Int32) z32 z33 z34 z29 z35 (G.1 22) z30) (fun z36 z37 z38 z39 z40 z41 z42 => (z31, z36, z37, z38, z39, z40, (z41 + (1 : Int32)), z42)))))))) = F_X0_bring (G.2.1 (g.2.2 70)) (G.2.1 (g.2.2 71)) (G.2.1 (g.2.2 72)) (G.2.1 (g.2.2 73)) (G.1 20) (G.1 22) (G.1 23) a0 a1 a2 a3 := rfl
  have hS : va_S (AF Ty s.heap.size) s.heap s.heap [] := va_S.rf
  have L_87 : ∀ (n_87 : Nat) (H : Heap) (locs : List Loc) (G_87 : Gh) (fl0_87 : Nat → Int32) (fl1_87 : Nat → Int32) (fl2_87 : Nat → Int32) (fl3_87 : Nat → Int32) (nl20_87 : Int32) (nl22_87 : Int32) (nl23_87 : Int32) (y5_87 : Int32) (y6_87 : Int32) (y7_87 : Int32) (y8_87 : Int32) (y9_87 : Int32) (y10_87 : Int32) (ls : Array Slot), FR [20, 22, 23] [(g.2.2 70), (g.2.2 71), (g.2.2 72), (g.2.2 73)] [] G G_87 → G_87.2.1 (g.2.2 70) = fl0_87 → G_87.2.1 (g.2.2 71) = fl1_87 → G_87.2.1 (g.2.2 72) = fl2_87 → G_87.2.1 (g.2.2 73) = fl3_87 → G_87.1 20 = nl20_87 → G_87.1 22 = nl22_87 → G_87.1 23 = nl23_87 → rgI (0) (24) y9_87 → rgI (0) (24) y10_87 → (24 - (y10_87).toInt).toNat < n_87 → lv_has ls 11 [(0, .ref h0), (2, .int a1), (3, .int a2), (4, .int a3), (5, .int y5_87), (6, .int y6_87), (7, .int y7_87), (8, .int y8_87), (9, .int y9_87), (10, .int y10_87)] → (tu7 (F_X0_bring_87 n_87 a1 a2 a3 y5_87 y6_87 y7_87 y8_87 y9_87 y10_87 fl0_87 fl1_87 fl2_87 fl3_87 nl20_87 nl22_87 nl23_87) (fun z1 z2 z3 z4 z5 z6 z7 => (y9_87, z1, z2, z3, z4, z5, (z6 + (1 : Int32)), z7))) = F_X0_bring (G.2.1 (g.2.2 70)) (G.2.1 (g.2.2 71)) (G.2.1 (g.2.2 72)) (G.2.1 (g.2.2 73)) (G.1 20) (G.1 22) (G.1 23) a0 a1 a2 a3 → HT g Ty G_87 H → va_S (AF Ty s.heap.size) s.heap H locs → Wm p l e (wsG yX0_bring cX0_bring 11 (some .int)) ({ frames := 4, cells := 0, slots := 0, locals := 93 }) s m [.ref h0, .int a0, .int a1, .int a2, .int a3] below meth c H locs (0) (0) (QwI g Ty s.heap.size (fun r u => u.1 = Ty ∧ FR [20, 22, 23] [(g.2.2 70), (g.2.2 71), (g.2.2 72), (g.2.2 73)] [] G u.2 ∧ F_X0_bring (G.2.1 (g.2.2 70)) (G.2.1 (g.2.2 71)) (G.2.1 (g.2.2 72)) (G.2.1 (g.2.2 73)) (G.1 20) (G.1 22) (G.1 23) a0 a1 a2 a3 = (r, (u.2.2.1 (g.2.2 70)), (u.2.2.1 (g.2.2 71)), (u.2.2.1 (g.2.2 72)), (u.2.2.1 (g.2.2 73)), (u.2.1 20), (u.2.1 22), (u.2.1 23)))) 0 0 (AF Ty s.heap.size) (F0 m 87 ls []) := by
    intro n_87
    induction n_87 with
    | zero => intro H locs G_87 fl0_87 fl1_87 fl2_87 fl3_87 nl20_87 nl22_87 nl23_87 y5_87 y6_87 y7_87 y8_87 y9_87 y10_87 ls frL_87 efl0_87 efl1_87 efl2_87 efl3_87 enl20_87 enl22_87 enl23_87 ry9_87 ry10_87 hm; exact absurd hm (Nat.not_lt_zero _)
    | succ n_87 ih_87 =>
      intro H locs G_87 fl0_87 fl1_87 fl2_87 fl3_87 nl20_87 nl22_87 nl23_87 y5_87 y6_87 y7_87 y8_87 y9_87 y10_87 ls frL_87 efl0_87 efl1_87 efl2_87 efl3_87 enl20_87 enl22_87 enl23_87 ry9_87 ry10_87 hm_87 hl hv hH hS
      have L_175 : ∀ (H : Heap) (locs : List Loc) (G_175 : Gh) (fl0_175 : Nat → Int32) (fl1_175 : Nat → Int32) (fl2_175 : Nat → Int32) (fl3_175 : Nat → Int32) (nl20_175 : Int32) (nl22_175 : Int32) (nl23_175 : Int32) (ls : Array Slot), FR [20, 22, 23] [(g.2.2 70), (g.2.2 71), (g.2.2 72), (g.2.2 73)] [] G G_175 → G_175.2.1 (g.2.2 70) = fl0_175 → G_175.2.1 (g.2.2 71) = fl1_175 → G_175.2.1 (g.2.2 72) = fl2_175 → G_175.2.1 (g.2.2 73) = fl3_175 → G_175.1 20 = nl20_175 → G_175.1 22 = nl22_175 → G_175.1 23 = nl23_175 → rgI (0) (24) y9_87 → rgI (0) (23) y10_87 → lv_has ls 11 [(0, .ref h0), (2, .int a1), (3, .int a2), (4, .int a3), (5, .int y5_87), (6, .int y6_87), (7, .int y7_87), (8, .int y8_87), (9, .int y9_87), (10, .int y10_87)] → (tu7 (F_X0_bring_87 n_87 a1 a2 a3 y5_87 y6_87 y7_87 y8_87 y9_87 (y10_87 + (1 : Int32)) fl0_175 fl1_175 fl2_175 fl3_175 nl20_175 nl22_175 nl23_175) (fun z8 z9 z10 z11 z12 z13 z14 => (y9_87, z8, z9, z10, z11, z12, (z13 + (1 : Int32)), z14))) = F_X0_bring (G.2.1 (g.2.2 70)) (G.2.1 (g.2.2 71)) (G.2.1 (g.2.2 72)) (G.2.1 (g.2.2 73)) (G.1 20) (G.1 22) (G.1 23) a0 a1 a2 a3 → HT g Ty G_175 H → va_S (AF Ty s.heap.size) s.heap H locs → Wm p l e (wsG yX0_bring cX0_bring 11 (some .int)) ({ frames := 4, cells := 0, slots := 0, locals := 93 }) s m [.ref h0, .int a0, .int a1, .int a2, .int a3] below meth c H locs (0) (0) (QwI g Ty s.heap.size (fun r u => u.1 = Ty ∧ FR [20, 22, 23] [(g.2.2 70), (g.2.2 71), (g.2.2 72), (g.2.2 73)] [] G u.2 ∧ F_X0_bring (G.2.1 (g.2.2 70)) (G.2.1 (g.2.2 71)) (G.2.1 (g.2.2 72)) (G.2.1 (g.2.2 73)) (G.1 20) (G.1 22) (G.1 23) a0 a1 a2 a3 = (r, (u.2.2.1 (g.2.2 70)), (u.2.2.1 (g.2.2 71)), (u.2.2.1 (g.2.2 72)), (u.2.2.1 (g.2.2 73)), (u.2.1 20), (u.2.1 22), (u.2.1 23)))) 0 0 (AF Ty s.heap.size) (F0 m 175 ls []) := by
        intro H locs G_175 fl0_175 fl1_175 fl2_175 fl3_175 nl20_175 nl22_175 nl23_175 ls frL_175 efl0_175 efl1_175 efl2_175 efl3_175 enl20_175 enl22_175 enl23_175 ry9_175 ry10_175 hl hv hH hS
        obtain ⟨x_1, ex_1⟩ : ∃ y : Int32, y = y10_87 + 1 := ⟨_, rfl⟩
        try rw [← ex_1] at hv
        have rx_1 : rgI (1) (24) x_1 := by rw [ex_1]; exact rg_w (rg_add ry10_175 rl_1 (by decide) (by decide)) (by decide) (by decide)
        have qx_1 : x_1.toInt = (y10_87 : Int32).toInt + 1 := by rw [ex_1]; exact rg_addE ry10_175 rl_1 (by decide) (by decide)
        refine lv_iinc (v := x_1) (lv' := [(10, .int x_1), (0, .ref h0), (2, .int a1), (3, .int a2), (4, .int a3), (5, .int y5_87), (6, .int y6_87), (7, .int y7_87), (8, .int y8_87), (9, .int y9_87)]) hx hb dX0_bring_175 hl (k := 9) rfl (by rw [ex_1]; rfl) (by decide) rfl (fun ls hl => ?_)
        refine lv_goto (tgt := 87) hx hb dX0_bring_178 (by decide) ?_
        exact ih_87 H locs G_175 fl0_175 fl1_175 fl2_175 fl3_175 nl20_175 nl22_175 nl23_175 y5_87 y6_87 y7_87 y8_87 y9_87 x_1 ls frL_175 efl0_175 efl1_175 efl2_175 efl3_175 enl20_175 enl22_175 enl23_175 ry9_175 (rg_w rx_1 (by decide) (by decide)) (by have h1 := qx_1; have h2 := ry10_175.1; have h3 := ry10_175.2; have h4 := hm_87; omega) (lv_sub hl [1, 2, 3, 4, 5, 6, 7, 8, 9, 0] rfl) hv hH hS
      rw [F_X0_bring_87] at hv
      refine lv_iload hx hb dX0_bring_87 (lv_at hl 9 rfl) ?_
      refine lv_bipush (v := 24) hx hb dX0_bring_89 (by decide) ?_
      refine lv_icmp_ge (tgt := 181) hx hb dX0_bring_91 (by decide) (fun c_2 => ?_) (fun c_2 => ?_)
      · rw [if_pos c_2] at hv
        have r_3 : rgI (24) (24) y10_87 := rg_w (rg_leR rl_24 ry10_87 c_2) (by decide) (by decide)
        rw [tu7_eq] at hv
        refine lv_aload_n hx hb dX0_bring_181 rfl (lv_at hl 0 rfl) ?_
        obtain ⟨_, ⟨rfl, kq_5, kq_6, kq_7⟩, o_c_4⟩ := hH h0 _ k_h0
        refine hg_get hx hb hG igX0 hown hK o_c_4 rfl 0 (by decide) (hG _ mw_239) rfl dX0_bring_182 ?_
        refine lv_dup hx hb dX0_bring_185 rfl ?_
        obtain ⟨_, ⟨rfl, kq_9, kq_10, kq_11, t_16⟩, o_c_8⟩ := hH (g.2.2 0) _ kq_5
        refine hg_getN hx hb hG igX10 hown hK o_c_8 rfl 5 (by decide) ((hK.2.1 _ nwf_125).use rfl) rfl dX0_bring_186 ?_
        rw [enl22_87]
        refine lv_iconst (v := 1) hx hb dX0_bring_189 (by decide) ?_
        refine lv_iadd hx hb dX0_bring_190 ?_
        refine lv_topi (fun x_17 ex_17 => ?_)
        try rw [← ex_17] at hv
        refine hg_putN (ty := .int) hx hb hG igX10 tyX10 tyX10_ok nmX10 hown hK hS o_c_8 (AF.of kq_5) rfl 5 (by decide) ((hK.2.1 _ nwf_125).use rfl) rfl (by decide +kernel) rfl rfl (Nat.le_of_ble_eq_true rfl) dX0_bring_191 (fun H locs o_c_8 hz oq hS => ?_)
        obtain ⟨G_18, eG_18⟩ : ∃ z : Gh, z = gset G_87 22 x_17 := ⟨_, rfl⟩
        have hH : HT g Ty G_18 H := by rw [eG_18]; exact HT.putM 22 x_17 hH kq_5 ⟨rfl, kq_9, kq_10, kq_11, t_16⟩ o_c_8 oq (⟨⟨by decide, by decide⟩, t_16⟩)
        have fr_19 : FR [20, 22, 23] [(g.2.2 70), (g.2.2 71), (g.2.2 72), (g.2.2 73)] [] G G_18 := FR.n frL_87 eG_18 (by decide)
        have u_20 : G_18.1 20 = nl20_87 := by rw [eG_18]; exact (gs_ne (by decide)).trans enl20_87
        have u_21 : G_18.1 23 = nl23_87 := by rw [eG_18]; exact (gs_ne (by decide)).trans enl23_87
        have u_22 : G_18.1 22 = x_17 := by rw [eG_18]; exact gs_eq
        have w_23 : G_18.2.1 (g.2.2 70) = fl0_87 := by rw [eG_18]; exact efl0_87
        have w_24 : G_18.2.1 (g.2.2 71) = fl1_87 := by rw [eG_18]; exact efl1_87
        have w_25 : G_18.2.1 (g.2.2 72) = fl2_87 := by rw [eG_18]; exact efl2_87
        have w_26 : G_18.2.1 (g.2.2 73) = fl3_87 := by rw [eG_18]; exact efl3_87
        clear oq hz
        refine lv_iload hx hb dX0_bring_194 (lv_at hl 8 rfl) ?_
        exact W.iret hx hb hr (fun t ht hWm => ⟨⟨y9_87, (Ty, G_18), rfl, ⟨rfl, ⟨fr_19, hv.symm.trans (by rw [w_23, w_24, w_25, w_26, u_20, u_22, u_21])⟩⟩, by show HT g Ty G_18 t.heap; rw [ht]; exact hH⟩, hS.F ht⟩) hS.2.2 dX0_bring_196
      · rw [if_neg c_2] at hv
        have r_27 : rgI (0) (23) y10_87 := rg_w (rg_ltL ry10_87 rl_24 (nle_lt c_2)) (by decide) (by decide)
        refine lv_iload hx hb dX0_bring_94 (lv_at hl 9 rfl) ?_
        refine lv_iload_n hx hb dX0_bring_96 rfl (lv_at hl 1 rfl) ?_
        refine lv_icmp_eq (tgt := 175) hx hb dX0_bring_97 (by decide) (fun c_28 => ?_) (fun c_28 => ?_)
        · rw [if_pos c_28] at hv
          exact L_175 H locs G_87 fl0_87 fl1_87 fl2_87 fl3_87 nl20_87 nl22_87 nl23_87 ls frL_87 efl0_87 efl1_87 efl2_87 efl3_87 enl20_87 enl22_87 enl23_87 ry9_87 r_27 (lv_sub hl [0, 1, 2, 3, 4, 5, 6, 7, 8, 9] rfl) hv hH hS
        · rw [if_neg c_28] at hv
          refine lv_iload hx hb dX0_bring_100 (lv_at hl 3 rfl) ?_
          refine lv_iconst (v := 1) hx hb dX0_bring_102 (by decide) ?_
          refine lv_iload hx hb dX0_bring_103 (lv_at hl 9 rfl) ?_
          refine lv_ishl hx hb dX0_bring_105 ?_
          refine lv_topi (fun x_29 ex_29 => ?_)
          try rw [← ex_29] at hv
          refine lv_iand hx hb dX0_bring_106 ?_
          refine lv_topi (fun x_30 ex_30 => ?_)
          try rw [← ex_30] at hv
          refine lv_if_eq (tgt := 175) hx hb dX0_bring_107 (by decide) (fun c_31 => ?_) (fun c_31 => ?_)
          · rw [if_pos c_31] at hv
            have r_32 : rgI (0) (0) x_30 := rg_w (rg_eq rl_0 c_31) (by decide) (by decide)
            exact L_175 H locs G_87 fl0_87 fl1_87 fl2_87 fl3_87 nl20_87 nl22_87 nl23_87 ls frL_87 efl0_87 efl1_87 efl2_87 efl3_87 enl20_87 enl22_87 enl23_87 ry9_87 r_27 (lv_sub hl [0, 1, 2, 3, 4, 5, 6, 7, 8, 9] rfl) hv hH hS
          · rw [if_neg c_31] at hv
            refine lv_aload_n hx hb dX0_bring_110 rfl (lv_at hl 0 rfl) ?_
            obtain ⟨_, ⟨rfl, kq_34, kq_35, kq_36⟩, o_c_33⟩ := hH h0 _ k_h0
            refine hg_get hx hb hG igX0 hown hK o_c_33 rfl 0 (by decide) (hG _ mw_239) rfl dX0_bring_111 ?_
            refine lv_iload hx hb dX0_bring_114 (lv_at hl 9 rfl) ?_
            obtain ⟨_, ⟨rfl, kq_38, kq_39, kq_40, t_45⟩, o_c_37⟩ := hH (g.2.2 0) _ kq_34
            refine vp_callSi (W.runV (As := [.int y10_87]) (rest := []) ⟨hx, hb, hml, hown, hts⟩ (c_X10_groupOf l g Ty G_87 (g.2.2 0) y10_87 kq_34) (cwV 1 hts (gwV mw_718 mw_608 mw_609 mw_77 mw_610) rfl rfl rfl hv_X10_groupOf ⟨Nat.le_of_ble_eq_true rfl, Nat.le_of_ble_eq_true rfl⟩) ⟨PcH_blind, hg_recv hK o_c_37 rfl, PcH_pre hK hH⟩ rfl rfl hl.1 rfl (lv_room (Nat.le_of_ble_eq_true rfl)) dX0_bring_116 ⟨Nat.zero_le _, Nat.zero_le _⟩) (fun x_46 hx_46 => ?_)
            try rw [← hx_46] at hv
            have ex_47 : x_46 = F_X10_groupOf fl1_87 y10_87 := hx_46.trans (by rw [efl1_87])
            try rw [← ex_47] at hv
            refine lv_iload hx hb dX0_bring_119 (lv_at hl 5 rfl) ?_
            refine lv_icmp_ne (tgt := 142) hx hb dX0_bring_121 (by decide) (fun c_48 => ?_) (fun c_48 => ?_)
            · rw [if_neg c_48] at hv
              refine lv_aload_n hx hb dX0_bring_142 rfl (lv_at hl 0 rfl) ?_
              refine hg_get hx hb hG igX0 hown hK o_c_33 rfl 0 (by decide) (hG _ mw_239) rfl dX0_bring_143 ?_
              refine lv_iload hx hb dX0_bring_146 (lv_at hl 9 rfl) ?_
              refine lv_iload_n hx hb dX0_bring_148 rfl (lv_at hl 2 rfl) ?_
              refine lv_aload_n hx hb dX0_bring_149 rfl (lv_at hl 0 rfl) ?_
              refine hg_get hx hb hG igX0 hown hK o_c_33 rfl 2 (by decide) (hG _ mw_241) rfl dX0_bring_150 ?_
              refine lv_iload hx hb dX0_bring_153 (lv_at hl 9 rfl) ?_
              obtain ⟨_, rfl, o_c_49⟩ := hH (g.2.2 73) _ kq_36
              have o_c_49 : va_at g.1 vwCl ((g.2.2 73), .inl (g.2.1 1, 24, .inl (G_87.2.1 (g.2.2 73)))) H := o_c_49
              refine hg_iald hx hb hK o_c_49 (rg_in (n := 24) r_27 (by decide) (by decide)) dX0_bring_155 ?_
              rw [efl3_87]
              refine lv_topi (fun x_50 ex_50 => ?_)
              try rw [← ex_50] at hv
              refine lv_aload_n hx hb dX0_bring_156 rfl (lv_at hl 0 rfl) ?_
              refine lv_iload hx hb dX0_bring_157 (lv_at hl 4 rfl) ?_
              refine lv_aload_n hx hb dX0_bring_159 rfl (lv_at hl 0 rfl) ?_
              refine hg_get hx hb hG igX0 hown hK o_c_33 rfl 0 (by decide) (hG _ mw_239) rfl dX0_bring_160 ?_
              refine lv_iload hx hb dX0_bring_163 (lv_at hl 9 rfl) ?_
              refine vp_callSi (W.runV (As := [.int y10_87]) (rest := [.int y5_87, .ref h0, .int x_50, .int a2, .int y10_87, .ref (g.2.2 0)]) ⟨hx, hb, hml, hown, hts⟩ (c_X10_masterOf l g Ty G_87 (g.2.2 0) y10_87 kq_34) (cwV 1 hts (gwV mw_719 mw_612 mw_613 mw_77 mw_614) rfl rfl rfl hv_X10_masterOf ⟨Nat.le_of_ble_eq_true rfl, Nat.le_of_ble_eq_true rfl⟩) ⟨PcH_blind, hg_recv hK o_c_37 rfl, PcH_pre hK hH⟩ rfl rfl hl.1 rfl (lv_room (Nat.le_of_ble_eq_true rfl)) dX0_bring_165 ⟨Nat.zero_le _, Nat.zero_le _⟩) (fun x_51 hx_51 => ?_)
              try rw [← hx_51] at hv
              have ex_52 : x_51 = F_X10_masterOf fl2_87 y10_87 := hx_51.trans (by rw [efl2_87])
              try rw [← ex_52] at hv
              refine vp_callSi (W.runV (As := [.int y5_87, .int x_51]) (rest := [.int x_50, .int a2, .int y10_87, .ref (g.2.2 0)]) ⟨hx, hb, hml, hown, hts⟩ (c_X0_heirOf l g Ty G_87 h0 y5_87 x_51 k_h0) (cwV 2 hts (gwV mw_728 mw_730 mw_14 mw_82 mw_731) rfl rfl rfl hv_X0_heirOf ⟨Nat.le_of_ble_eq_true rfl, Nat.le_of_ble_eq_true rfl⟩) ⟨PcH_blind, hg_recv hK o_c_33 rfl, PcH_pre hK hH⟩ rfl rfl hl.1 rfl (lv_room (Nat.le_of_ble_eq_true rfl)) dX0_bring_168 ⟨Nat.zero_le _, Nat.zero_le _⟩) (fun x_53 hx_53 => ?_)
              try rw [← hx_53] at hv
              have ex_54 : x_53 = F_X0_heirOf fl1_87 fl3_87 y5_87 x_51 := hx_53.trans (by rw [efl1_87, efl3_87])
              try rw [← ex_54] at hv
              refine va_calli (va_runV (As := [.int y10_87, .int a2, .int x_50, .int x_53]) (rest := []) ⟨hx, hb, hml, hown, hts⟩ (c_X10_put l g Ty G_87 H.size (g.2.2 0) y10_87 a2 x_50 x_53 kq_34 hD1) (cwV 4 hts (gwV mw_734 mw_735 mw_736 mw_77 mw_737) rfl rfl rfl hv_X10_put ⟨Nat.le_of_ble_eq_true rfl, Nat.le_of_ble_eq_true rfl⟩) ⟨PcT_blind, hg_recv hK o_c_37 rfl, PcT_pre hK hH⟩ rfl rfl hl.1 rfl (lv_room (Nat.le_of_ble_eq_true rfl)) dX0_bring_171 ⟨Nat.zero_le _, Nat.zero_le _⟩) hS (fun q _ h => AF.mono hS.1 h) (fun q h => AF.mono hS.1 h) (fun x_55 ux_55 t H locs ht hvm hx_55 hB hz hk hS => ?_)
              obtain ⟨hx_55, fx_55⟩ := hx_55
              obtain ⟨eTx_55, eGx_55⟩ := fx_55
              obtain ⟨G_56, eG_56⟩ : ∃ z, z = ux_55.2 := ⟨_, rfl⟩
              rw [← eG_56] at eGx_55
              obtain ⟨hfr_57, hex_58⟩ := eGx_55
              have fr_59 : FR [20, 22, 23] [(g.2.2 70), (g.2.2 71), (g.2.2 72), (g.2.2 73)] [] G G_56 := FR.tr frL_87 hfr_57 (by decide) (fun b h => ⟨h.1, h.2.1, h.2.2.1, trivial⟩) (by decide)
              have u_60 : G_56.1 22 = nl22_87 := (hfr_57.1 22 (by decide)).trans enl22_87
              have u_61 : G_56.1 23 = nl23_87 := (hfr_57.1 23 (by decide)).trans enl23_87
              have w_62 : G_56.2.1 (g.2.2 73) = fl3_87 := (hfr_57.2.1 (g.2.2 73) ⟨(hD1 73 (by decide) 70 (by decide) (by decide)), (hD1 73 (by decide) 71 (by decide) (by decide)), (hD1 73 (by decide) 72 (by decide) (by decide)), trivial⟩).trans efl3_87
              obtain ⟨f_63, ef_63⟩ : ∃ z : Nat → Int32, G_56.2.1 (g.2.2 70) = z := ⟨_, rfl⟩
              obtain ⟨f_64, ef_64⟩ : ∃ z : Nat → Int32, G_56.2.1 (g.2.2 71) = z := ⟨_, rfl⟩
              obtain ⟨f_65, ef_65⟩ : ∃ z : Nat → Int32, G_56.2.1 (g.2.2 72) = z := ⟨_, rfl⟩
              obtain ⟨n_66, en_66⟩ : ∃ z : Int32, G_56.1 20 = z := ⟨_, rfl⟩
              have hq_67 : F_X10_put fl0_87 fl1_87 fl2_87 nl20_87 y10_87 a2 x_50 x_53 = (x_55, f_63, f_64, f_65, n_66) := by have q := hex_58; rw [efl0_87, efl1_87, efl2_87, enl20_87, ef_63, ef_64, ef_65, en_66] at q; exact q
              rw [hq_67, tu5_eq] at hv
              have hH : HT g Ty G_56 H := by rw [← ht, ← eTx_55, eG_56]; exact hB
              have rx_55 : rgI (0) (24) x_55 := hx_55
              refine lv_pop hx hb dX0_bring_174 rfl ?_
              exact L_175 H locs G_56 f_63 f_64 f_65 fl3_87 n_66 nl22_87 nl23_87 ls fr_59 ef_63 ef_64 ef_65 w_62 en_66 u_60 u_61 ry9_87 r_27 (lv_sub hl [0, 1, 2, 3, 4, 5, 6, 7, 8, 9] rfl) hv hH hS
            · rw [if_pos c_48] at hv
              refine lv_aload_n hx hb dX0_bring_124 rfl (lv_at hl 0 rfl) ?_
              refine hg_get hx hb hG igX0 hown hK o_c_33 rfl 0 (by decide) (hG _ mw_239) rfl dX0_bring_125 ?_
              refine lv_iload hx hb dX0_bring_128 (lv_at hl 9 rfl) ?_
              refine lv_iload_n hx hb dX0_bring_130 rfl (lv_at hl 2 rfl) ?_
              refine lv_iload hx hb dX0_bring_131 (lv_at hl 7 rfl) ?_
              refine lv_iload hx hb dX0_bring_133 (lv_at hl 6 rfl) ?_
              refine va_calli (va_runV (As := [.int y10_87, .int a2, .int y8_87, .int y7_87]) (rest := []) ⟨hx, hb, hml, hown, hts⟩ (c_X10_put l g Ty G_87 H.size (g.2.2 0) y10_87 a2 y8_87 y7_87 kq_34 hD1) (cwV 4 hts (gwV mw_734 mw_735 mw_736 mw_77 mw_737) rfl rfl rfl hv_X10_put ⟨Nat.le_of_ble_eq_true rfl, Nat.le_of_ble_eq_true rfl⟩) ⟨PcT_blind, hg_recv hK o_c_37 rfl, PcT_pre hK hH⟩ rfl rfl hl.1 rfl (lv_room (Nat.le_of_ble_eq_true rfl)) dX0_bring_135 ⟨Nat.zero_le _, Nat.zero_le _⟩) hS (fun q _ h => AF.mono hS.1 h) (fun q h => AF.mono hS.1 h) (fun x_68 ux_68 t H locs ht hvm hx_68 hB hz hk hS => ?_)
              obtain ⟨hx_68, fx_68⟩ := hx_68
              obtain ⟨eTx_68, eGx_68⟩ := fx_68
              obtain ⟨G_69, eG_69⟩ : ∃ z, z = ux_68.2 := ⟨_, rfl⟩
              rw [← eG_69] at eGx_68
              obtain ⟨hfr_70, hex_71⟩ := eGx_68
              have fr_72 : FR [20, 22, 23] [(g.2.2 70), (g.2.2 71), (g.2.2 72), (g.2.2 73)] [] G G_69 := FR.tr frL_87 hfr_70 (by decide) (fun b h => ⟨h.1, h.2.1, h.2.2.1, trivial⟩) (by decide)
              have u_73 : G_69.1 22 = nl22_87 := (hfr_70.1 22 (by decide)).trans enl22_87
              have u_74 : G_69.1 23 = nl23_87 := (hfr_70.1 23 (by decide)).trans enl23_87
              have w_75 : G_69.2.1 (g.2.2 73) = fl3_87 := (hfr_70.2.1 (g.2.2 73) ⟨(hD1 73 (by decide) 70 (by decide) (by decide)), (hD1 73 (by decide) 71 (by decide) (by decide)), (hD1 73 (by decide) 72 (by decide) (by decide)), trivial⟩).trans efl3_87
              obtain ⟨f_76, ef_76⟩ : ∃ z : Nat → Int32, G_69.2.1 (g.2.2 70) = z := ⟨_, rfl⟩
              obtain ⟨f_77, ef_77⟩ : ∃ z : Nat → Int32, G_69.2.1 (g.2.2 71) = z := ⟨_, rfl⟩
              obtain ⟨f_78, ef_78⟩ : ∃ z : Nat → Int32, G_69.2.1 (g.2.2 72) = z := ⟨_, rfl⟩
              obtain ⟨n_79, en_79⟩ : ∃ z : Int32, G_69.1 20 = z := ⟨_, rfl⟩
              have hq_80 : F_X10_put fl0_87 fl1_87 fl2_87 nl20_87 y10_87 a2 y8_87 y7_87 = (x_68, f_76, f_77, f_78, n_79) := by have q := hex_71; rw [efl0_87, efl1_87, efl2_87, enl20_87, ef_76, ef_77, ef_78, en_79] at q; exact q
              rw [hq_80, tu5_eq] at hv
              have hH : HT g Ty G_69 H := by rw [← ht, ← eTx_68, eG_69]; exact hB
              have rx_68 : rgI (0) (24) x_68 := hx_68
              refine lv_pop hx hb dX0_bring_138 rfl ?_
              refine lv_goto (tgt := 175) hx hb dX0_bring_139 (by decide) ?_
              exact L_175 H locs G_69 f_76 f_77 f_78 fl3_87 n_79 nl22_87 nl23_87 ls fr_72 ef_76 ef_77 ef_78 w_75 en_79 u_73 u_74 ry9_87 r_27 (lv_sub hl [0, 1, 2, 3, 4, 5, 6, 7, 8, 9] rfl) hv hH hS
  have L_59 : ∀ (H : Heap) (locs : List Loc) (G_59 : Gh) (fl0_59 : Nat → Int32) (fl1_59 : Nat → Int32) (fl2_59 : Nat → Int32) (fl3_59 : Nat → Int32) (nl20_59 : Int32) (nl22_59 : Int32) (nl23_59 : Int32) (y5_59 : Int32) (y6_59 : Int32) (y7_59 : Int32) (y8_59 : Int32) (ls : Array Slot), FR [20, 22, 23] [(g.2.2 70), (g.2.2 71), (g.2.2 72), (g.2.2 73)] [] G G_59 → G_59.2.1 (g.2.2 70) = fl0_59 → G_59.2.1 (g.2.2 71) = fl1_59 → G_59.2.1 (g.2.2 72) = fl2_59 → G_59.2.1 (g.2.2 73) = fl3_59 → G_59.1 20 = nl20_59 → G_59.1 22 = nl22_59 → G_59.1 23 = nl23_59 → lv_has ls 11 [(0, .ref h0), (2, .int a1), (3, .int a2), (4, .int a3), (5, .int y5_59), (6, .int y6_59), (7, .int y7_59), (8, .int y8_59)] → (tu2 (F_X0_nameHeirs fl1_59 fl3_59 nl23_59 y5_59 y6_59 y8_59) (fun z15 z16 => (tu5 (F_X10_put fl0_59 fl1_59 fl2_59 nl20_59 a1 a2 y8_59 y7_59) (fun z17 z18 z19 z20 z21 => (tu7 (F_X0_bring_87 26 a1 a2 a3 y5_59 y6_59 y7_59 y8_59 z17 (0 : Int32) z18 z19 z20 z15 z21 nl22_59 z16) (fun z22 z23 z24 z25 z26 z27 z28 => (z17, z22, z23, z24, z25, z26, (z27 + (1 : Int32)), z28))))))) = F_X0_bring (G.2.1 (g.2.2 70)) (G.2.1 (g.2.2 71)) (G.2.1 (g.2.2 72)) (G.2.1 (g.2.2 73)) (G.1 20) (G.1 22) (G.1 23) a0 a1 a2 a3 → HT g Ty G_59 H → va_S (AF Ty s.heap.size) s.heap H locs → Wm p l e (wsG yX0_bring cX0_bring 11 (some .int)) ({ frames := 4, cells := 0, slots := 0, locals := 93 }) s m [.ref h0, .int a0, .int a1, .int a2, .int a3] below meth c H locs (0) (0) (QwI g Ty s.heap.size (fun r u => u.1 = Ty ∧ FR [20, 22, 23] [(g.2.2 70), (g.2.2 71), (g.2.2 72), (g.2.2 73)] [] G u.2 ∧ F_X0_bring (G.2.1 (g.2.2 70)) (G.2.1 (g.2.2 71)) (G.2.1 (g.2.2 72)) (G.2.1 (g.2.2 73)) (G.1 20) (G.1 22) (G.1 23) a0 a1 a2 a3 = (r, (u.2.2.1 (g.2.2 70)), (u.2.2.1 (g.2.2 71)), (u.2.2.1 (g.2.2 72)), (u.2.2.1 (g.2.2 73)), (u.2.1 20), (u.2.1 22), (u.2.1 23)))) 0 0 (AF Ty s.heap.size) (F0 m 59 ls []) := by
    intro H locs G_59 fl0_59 fl1_59 fl2_59 fl3_59 nl20_59 nl22_59 nl23_59 y5_59 y6_59 y7_59 y8_59 ls frL_59 efl0_59 efl1_59 efl2_59 efl3_59 enl20_59 enl22_59 enl23_59 hl hv hH hS
    refine lv_aload_n hx hb dX0_bring_59 rfl (lv_at hl 0 rfl) ?_
    refine lv_iload hx hb dX0_bring_60 (lv_at hl 4 rfl) ?_
    refine lv_iload hx hb dX0_bring_62 (lv_at hl 5 rfl) ?_
    refine lv_iload hx hb dX0_bring_64 (lv_at hl 7 rfl) ?_
    obtain ⟨_, ⟨rfl, kq_82, kq_83, kq_84⟩, o_c_81⟩ := hH h0 _ k_h0
    refine va_callv (va_runV (As := [.int y5_59, .int y6_59, .int y8_59]) (rest := []) ⟨hx, hb, hml, hown, hts⟩ (c_X0_nameHeirs l g Ty G_59 H.size h0 y5_59 y6_59 y8_59 k_h0 hD1) (cwV 3 hts (gwV mw_724 mw_726 mw_13 mw_82 mw_727) rfl rfl rfl hv_X0_nameHeirs ⟨Nat.le_of_ble_eq_true rfl, Nat.le_of_ble_eq_true rfl⟩) ⟨PcT_blind, hg_recv hK o_c_81 rfl, PcT_pre hK hH⟩ rfl rfl hl.1 rfl (lv_room (Nat.le_of_ble_eq_true rfl)) dX0_bring_66 ⟨Nat.zero_le _, Nat.zero_le _⟩) hS (fun q _ h => AF.mono hS.1 h) (fun q h => AF.mono hS.1 h) (fun ux_85 t H locs ht hvm hx_85 hB hz hk hS => ?_)
    obtain ⟨eTx_85, eGx_85⟩ := hx_85
    obtain ⟨G_86, eG_86⟩ : ∃ z, z = ux_85.2 := ⟨_, rfl⟩
    rw [← eG_86] at eGx_85
    obtain ⟨hfr_87, hex_88⟩ := eGx_85
    have fr_89 : FR [20, 22, 23] [(g.2.2 70), (g.2.2 71), (g.2.2 72), (g.2.2 73)] [] G G_86 := FR.tr frL_59 hfr_87 (by decide) (fun b h => ⟨h.2.2.2.1, trivial⟩) (by decide)
    have u_90 : G_86.1 20 = nl20_59 := (hfr_87.1 20 (by decide)).trans enl20_59
    have u_91 : G_86.1 22 = nl22_59 := (hfr_87.1 22 (by decide)).trans enl22_59
    have w_92 : G_86.2.1 (g.2.2 70) = fl0_59 := (hfr_87.2.1 (g.2.2 70) ⟨(hD1 70 (by decide) 73 (by decide) (by decide)), trivial⟩).trans efl0_59
    have w_93 : G_86.2.1 (g.2.2 71) = fl1_59 := (hfr_87.2.1 (g.2.2 71) ⟨(hD1 71 (by decide) 73 (by decide) (by decide)), trivial⟩).trans efl1_59
    have w_94 : G_86.2.1 (g.2.2 72) = fl2_59 := (hfr_87.2.1 (g.2.2 72) ⟨(hD1 72 (by decide) 73 (by decide) (by decide)), trivial⟩).trans efl2_59
    obtain ⟨f_95, ef_95⟩ : ∃ z : Nat → Int32, G_86.2.1 (g.2.2 73) = z := ⟨_, rfl⟩
    obtain ⟨n_96, en_96⟩ : ∃ z : Int32, G_86.1 23 = z := ⟨_, rfl⟩
    have hq_97 : F_X0_nameHeirs fl1_59 fl3_59 nl23_59 y5_59 y6_59 y8_59 = (f_95, n_96) := by have q := hex_88; rw [efl1_59, efl3_59, enl23_59, ef_95, en_96] at q; exact q
    rw [hq_97, tu2_eq] at hv
    have hH : HT g Ty G_86 H := by rw [← ht, ← eTx_85, eG_86]; exact hB
    refine lv_aload_n hx hb dX0_bring_69 rfl (lv_at hl 0 rfl) ?_
    obtain ⟨_, ⟨rfl, kq_99, kq_100, kq_101⟩, o_c_98⟩ := hH h0 _ k_h0
    refine hg_get hx hb hG igX0 hown hK o_c_98 rfl 0 (by decide) (hG _ mw_239) rfl dX0_bring_70 ?_
    refine lv_iload_n hx hb dX0_bring_73 rfl (lv_at hl 1 rfl) ?_
    refine lv_iload_n hx hb dX0_bring_74 rfl (lv_at hl 2 rfl) ?_
    refine lv_iload hx hb dX0_bring_75 (lv_at hl 7 rfl) ?_
    refine lv_iload hx hb dX0_bring_77 (lv_at hl 6 rfl) ?_
    obtain ⟨_, ⟨rfl, kq_103, kq_104, kq_105, t_110⟩, o_c_102⟩ := hH (g.2.2 0) _ kq_99
    refine va_calli (va_runV (As := [.int a1, .int a2, .int y8_59, .int y7_59]) (rest := []) ⟨hx, hb, hml, hown, hts⟩ (c_X10_put l g Ty G_86 H.size (g.2.2 0) a1 a2 y8_59 y7_59 kq_99 hD1) (cwV 4 hts (gwV mw_734 mw_735 mw_736 mw_77 mw_737) rfl rfl rfl hv_X10_put ⟨Nat.le_of_ble_eq_true rfl, Nat.le_of_ble_eq_true rfl⟩) ⟨PcT_blind, hg_recv hK o_c_102 rfl, PcT_pre hK hH⟩ rfl rfl hl.1 rfl (lv_room (Nat.le_of_ble_eq_true rfl)) dX0_bring_79 ⟨Nat.zero_le _, Nat.zero_le _⟩) hS (fun q _ h => AF.mono hS.1 h) (fun q h => AF.mono hS.1 h) (fun x_111 ux_111 t H locs ht hvm hx_111 hB hz hk hS => ?_)
    obtain ⟨hx_111, fx_111⟩ := hx_111
    obtain ⟨eTx_111, eGx_111⟩ := fx_111
    obtain ⟨G_112, eG_112⟩ : ∃ z, z = ux_111.2 := ⟨_, rfl⟩
    rw [← eG_112] at eGx_111
    obtain ⟨hfr_113, hex_114⟩ := eGx_111
    have fr_115 : FR [20, 22, 23] [(g.2.2 70), (g.2.2 71), (g.2.2 72), (g.2.2 73)] [] G G_112 := FR.tr fr_89 hfr_113 (by decide) (fun b h => ⟨h.1, h.2.1, h.2.2.1, trivial⟩) (by decide)
    have u_116 : G_112.1 22 = nl22_59 := (hfr_113.1 22 (by decide)).trans u_91
    have u_117 : G_112.1 23 = n_96 := (hfr_113.1 23 (by decide)).trans en_96
    have w_118 : G_112.2.1 (g.2.2 73) = f_95 := (hfr_113.2.1 (g.2.2 73) ⟨(hD1 73 (by decide) 70 (by decide) (by decide)), (hD1 73 (by decide) 71 (by decide) (by decide)), (hD1 73 (by decide) 72 (by decide) (by decide)), trivial⟩).trans ef_95
    obtain ⟨f_119, ef_119⟩ : ∃ z : Nat → Int32, G_112.2.1 (g.2.2 70) = z := ⟨_, rfl⟩
    obtain ⟨f_120, ef_120⟩ : ∃ z : Nat → Int32, G_112.2.1 (g.2.2 71) = z := ⟨_, rfl⟩
    obtain ⟨f_121, ef_121⟩ : ∃ z : Nat → Int32, G_112.2.1 (g.2.2 72) = z := ⟨_, rfl⟩
    obtain ⟨n_122, en_122⟩ : ∃ z : Int32, G_112.1 20 = z := ⟨_, rfl⟩
    have hq_123 : F_X10_put fl0_59 fl1_59 fl2_59 nl20_59 a1 a2 y8_59 y7_59 = (x_111, f_119, f_120, f_121, n_122) := by have q := hex_114; rw [w_92, w_93, w_94, u_90, ef_119, ef_120, ef_121, en_122] at q; exact q
    rw [hq_123, tu5_eq] at hv
    have hH : HT g Ty G_112 H := by rw [← ht, ← eTx_111, eG_112]; exact hB
    have rx_111 : rgI (0) (24) x_111 := hx_111
    refine lv_istore (lv' := [(9, .int x_111), (0, .ref h0), (2, .int a1), (3, .int a2), (4, .int a3), (5, .int y5_59), (6, .int y6_59), (7, .int y7_59), (8, .int y8_59)]) hx hb dX0_bring_82 hl (by decide) rfl (fun ls hl => ?_)
    refine lv_iconst (v := 0) hx hb dX0_bring_84 (by decide) ?_
    refine lv_istore (lv' := [(10, .int 0), (9, .int x_111), (0, .ref h0), (2, .int a1), (3, .int a2), (4, .int a3), (5, .int y5_59), (6, .int y6_59), (7, .int y7_59), (8, .int y8_59)]) hx hb dX0_bring_85 hl (by decide) rfl (fun ls hl => ?_)
    exact L_87 26 H locs G_112 f_119 f_120 f_121 f_95 n_122 nl22_59 n_96 y5_59 y6_59 y7_59 y8_59 x_111 0 ls fr_115 ef_119 ef_120 ef_121 w_118 en_122 u_116 u_117 rx_111 (rg_w rl_0 (by decide) (by decide)) (by decide) (lv_sub hl [2, 3, 4, 5, 6, 7, 8, 9, 1, 0] rfl) hv hH hS
  refine lv_aload_n hx hb dX0_bring_0 rfl (lv_at hl 0 rfl) ?_
  obtain ⟨_, ⟨rfl, kq_125, kq_126, kq_127⟩, o_c_124⟩ := hH h0 _ k_h0
  refine hg_get hx hb hG igX0 hown hK o_c_124 rfl 0 (by decide) (hG _ mw_239) rfl dX0_bring_1 ?_
  refine lv_iload_n hx hb dX0_bring_4 rfl (lv_at hl 2 rfl) ?_
  obtain ⟨_, ⟨rfl, kq_129, kq_130, kq_131, t_136⟩, o_c_128⟩ := hH (g.2.2 0) _ kq_125
  refine vp_callSi (W.runV (As := [.int a1]) (rest := []) ⟨hx, hb, hml, hown, hts⟩ (c_X10_spreadOf l g Ty G (g.2.2 0) a1 kq_125) (cwV 1 hts (gwV mw_649 mw_650 mw_651 mw_77 mw_652) rfl rfl rfl hv_X10_spreadOf ⟨Nat.le_of_ble_eq_true rfl, Nat.le_of_ble_eq_true rfl⟩) ⟨PcH_blind, hg_recv hK o_c_128 rfl, PcH_pre hK hH⟩ rfl rfl hl.1 rfl (lv_room (Nat.le_of_ble_eq_true rfl)) dX0_bring_5 ⟨Nat.zero_le _, Nat.zero_le _⟩) (fun x_137 hx_137 => ?_)
  try rw [← hx_137] at hv
  have ex_138 : x_137 = F_X10_spreadOf (G.2.1 (g.2.2 71)) (G.2.1 (g.2.2 72)) a1 := hx_137
  try rw [← ex_138] at hv
  refine lv_istore (lv' := [(5, .int x_137), (0, .ref h0), (1, .int a0), (2, .int a1), (3, .int a2), (4, .int a3)]) hx hb dX0_bring_8 hl (by decide) rfl (fun ls hl => ?_)
  refine lv_aload_n hx hb dX0_bring_10 rfl (lv_at hl 1 rfl) ?_
  refine hg_get hx hb hG igX0 hown hK o_c_124 rfl 0 (by decide) (hG _ mw_239) rfl dX0_bring_11 ?_
  refine lv_iload_n hx hb dX0_bring_14 rfl (lv_at hl 3 rfl) ?_
  refine vp_callSi (W.runV (As := [.int a1]) (rest := []) ⟨hx, hb, hml, hown, hts⟩ (c_X10_groupOf l g Ty G (g.2.2 0) a1 kq_125) (cwV 1 hts (gwV mw_718 mw_608 mw_609 mw_77 mw_610) rfl rfl rfl hv_X10_groupOf ⟨Nat.le_of_ble_eq_true rfl, Nat.le_of_ble_eq_true rfl⟩) ⟨PcH_blind, hg_recv hK o_c_128 rfl, PcH_pre hK hH⟩ rfl rfl hl.1 rfl (lv_room (Nat.le_of_ble_eq_true rfl)) dX0_bring_15 ⟨Nat.zero_le _, Nat.zero_le _⟩) (fun x_139 hx_139 => ?_)
  try rw [← hx_139] at hv
  have ex_140 : x_139 = F_X10_groupOf (G.2.1 (g.2.2 71)) a1 := hx_139
  try rw [← ex_140] at hv
  refine lv_istore (lv' := [(6, .int x_139), (5, .int x_137), (0, .ref h0), (1, .int a0), (2, .int a1), (3, .int a2), (4, .int a3)]) hx hb dX0_bring_18 hl (by decide) rfl (fun ls hl => ?_)
  refine lv_aload_n hx hb dX0_bring_20 rfl (lv_at hl 2 rfl) ?_
  refine hg_get hx hb hG igX0 hown hK o_c_124 rfl 0 (by decide) (hG _ mw_239) rfl dX0_bring_21 ?_
  refine lv_iload_n hx hb dX0_bring_24 rfl (lv_at hl 3 rfl) ?_
  refine vp_callSi (W.runV (As := [.int a0]) (rest := []) ⟨hx, hb, hml, hown, hts⟩ (c_X10_masterOf l g Ty G (g.2.2 0) a0 kq_125) (cwV 1 hts (gwV mw_719 mw_612 mw_613 mw_77 mw_614) rfl rfl rfl hv_X10_masterOf ⟨Nat.le_of_ble_eq_true rfl, Nat.le_of_ble_eq_true rfl⟩) ⟨PcH_blind, hg_recv hK o_c_128 rfl, PcH_pre hK hH⟩ rfl rfl hl.1 rfl (lv_room (Nat.le_of_ble_eq_true rfl)) dX0_bring_25 ⟨Nat.zero_le _, Nat.zero_le _⟩) (fun x_141 hx_141 => ?_)
  try rw [← hx_141] at hv
  have ex_142 : x_141 = F_X10_masterOf (G.2.1 (g.2.2 72)) a0 := hx_141
  try rw [← ex_142] at hv
  refine lv_istore (lv' := [(7, .int x_141), (6, .int x_139), (5, .int x_137), (0, .ref h0), (1, .int a0), (2, .int a1), (3, .int a2), (4, .int a3)]) hx hb dX0_bring_28 hl (by decide) rfl (fun ls hl => ?_)
  refine lv_aload_n hx hb dX0_bring_30 rfl (lv_at hl 3 rfl) ?_
  refine hg_get hx hb hG igX0 hown hK o_c_124 rfl 0 (by decide) (hG _ mw_239) rfl dX0_bring_31 ?_
  refine lv_iload_n hx hb dX0_bring_34 rfl (lv_at hl 4 rfl) ?_
  refine vp_callSi (W.runV (As := [.int a0]) (rest := []) ⟨hx, hb, hml, hown, hts⟩ (c_X10_groupOf l g Ty G (g.2.2 0) a0 kq_125) (cwV 1 hts (gwV mw_718 mw_608 mw_609 mw_77 mw_610) rfl rfl rfl hv_X10_groupOf ⟨Nat.le_of_ble_eq_true rfl, Nat.le_of_ble_eq_true rfl⟩) ⟨PcH_blind, hg_recv hK o_c_128 rfl, PcH_pre hK hH⟩ rfl rfl hl.1 rfl (lv_room (Nat.le_of_ble_eq_true rfl)) dX0_bring_35 ⟨Nat.zero_le _, Nat.zero_le _⟩) (fun x_143 hx_143 => ?_)
  try rw [← hx_143] at hv
  have ex_144 : x_143 = F_X10_groupOf (G.2.1 (g.2.2 71)) a0 := hx_143
  try rw [← ex_144] at hv
  refine lv_istore (lv' := [(8, .int x_143), (7, .int x_141), (6, .int x_139), (5, .int x_137), (0, .ref h0), (1, .int a0), (2, .int a1), (3, .int a2), (4, .int a3)]) hx hb dX0_bring_38 hl (by decide) rfl (fun ls hl => ?_)
  refine lv_iload hx hb dX0_bring_40 (lv_at hl 0 rfl) ?_
  refine lv_if_ne (tgt := 59) hx hb dX0_bring_42 (by decide) (fun c_145 => ?_) (fun c_145 => ?_)
  · rw [if_neg c_145] at hv
    exact L_59 s.heap [] G (G.2.1 (g.2.2 70)) (G.2.1 (g.2.2 71)) (G.2.1 (g.2.2 72)) (G.2.1 (g.2.2 73)) (G.1 20) (G.1 22) (G.1 23) x_137 x_139 x_141 x_143 ls FR.rf rfl rfl rfl rfl rfl rfl rfl (lv_sub hl [4, 6, 7, 8, 3, 2, 1, 0] rfl) hv hH hS
  · rw [if_pos c_145] at hv
    have r_146 : rgI (0) (0) x_143 := rg_w (rg_eq rl_0 c_145) (by decide) (by decide)
    refine lv_iload hx hb dX0_bring_45 (lv_at hl 2 rfl) ?_
    refine lv_if_eq (tgt := 59) hx hb dX0_bring_47 (by decide) (fun c_147 => ?_) (fun c_147 => ?_)
    · rw [if_pos c_147] at hv
      have r_148 : rgI (0) (0) x_139 := rg_w (rg_eq rl_0 c_147) (by decide) (by decide)
      exact L_59 s.heap [] G (G.2.1 (g.2.2 70)) (G.2.1 (g.2.2 71)) (G.2.1 (g.2.2 72)) (G.2.1 (g.2.2 73)) (G.1 20) (G.1 22) (G.1 23) x_137 x_139 x_141 x_143 ls FR.rf rfl rfl rfl rfl rfl rfl rfl (lv_sub hl [4, 6, 7, 8, 3, 2, 1, 0] rfl) hv hH hS
    · rw [if_neg c_147] at hv
      refine lv_aload_n hx hb dX0_bring_50 rfl (lv_at hl 4 rfl) ?_
      refine hg_get hx hb hG igX0 hown hK o_c_124 rfl 0 (by decide) (hG _ mw_239) rfl dX0_bring_51 ?_
      refine va_calli (va_runV (As := []) (rest := []) ⟨hx, hb, hml, hown, hts⟩ (c_X10_newGroup l g Ty G s.heap.size (g.2.2 0) kq_125 hD1) (cwV 0 hts (gwV mw_720 mw_721 mw_722 mw_77 mw_723) rfl rfl rfl hv_X10_newGroup ⟨Nat.le_of_ble_eq_true rfl, Nat.le_of_ble_eq_true rfl⟩) ⟨PcT_blind, hg_recv hK o_c_128 rfl, PcT_pre hK hH⟩ rfl rfl hl.1 rfl (lv_room (Nat.le_of_ble_eq_true rfl)) dX0_bring_54 ⟨Nat.zero_le _, Nat.zero_le _⟩) hS (fun q _ h => AF.mono hS.1 h) (fun q h => AF.mono hS.1 h) (fun x_149 ux_149 t H locs ht hvm hx_149 hB hz hk hS => ?_)
      obtain ⟨eTx_149, eGx_149⟩ := hx_149
      obtain ⟨G_150, eG_150⟩ : ∃ z, z = ux_149.2 := ⟨_, rfl⟩
      rw [← eG_150] at eGx_149
      obtain ⟨hfr_151, hex_152⟩ := eGx_149
      have fr_153 : FR [20, 22, 23] [(g.2.2 70), (g.2.2 71), (g.2.2 72), (g.2.2 73)] [] G G_150 := FR.tr FR.rf hfr_151 (by decide) (fun _ _ => trivial) (by decide)
      have u_154 : G_150.1 20 = (G.1 20) := (hfr_151.1 20 (by decide))
      have u_155 : G_150.1 22 = (G.1 22) := (hfr_151.1 22 (by decide))
      have w_156 : G_150.2.1 (g.2.2 70) = (G.2.1 (g.2.2 70)) := (hfr_151.2.1 (g.2.2 70) trivial)
      have w_157 : G_150.2.1 (g.2.2 71) = (G.2.1 (g.2.2 71)) := (hfr_151.2.1 (g.2.2 71) trivial)
      have w_158 : G_150.2.1 (g.2.2 72) = (G.2.1 (g.2.2 72)) := (hfr_151.2.1 (g.2.2 72) trivial)
      have w_159 : G_150.2.1 (g.2.2 73) = (G.2.1 (g.2.2 73)) := (hfr_151.2.1 (g.2.2 73) trivial)
      obtain ⟨n_160, en_160⟩ : ∃ z : Int32, G_150.1 23 = z := ⟨_, rfl⟩
      have hq_161 : F_X10_newGroup (G.1 23) = (x_149, n_160) := by have q := hex_152; rw [en_160] at q; exact q
      rw [hq_161, tu2_eq] at hv
      have hH : HT g Ty G_150 H := by rw [← ht, ← eTx_149, eG_150]; exact hB
      refine lv_istore (lv' := [(8, .int x_149), (7, .int x_141), (6, .int x_139), (5, .int x_137), (0, .ref h0), (1, .int a0), (2, .int a1), (3, .int a2), (4, .int a3)]) hx hb dX0_bring_57 hl (by decide) rfl (fun ls hl => ?_)
      exact L_59 H locs G_150 (G.2.1 (g.2.2 70)) (G.2.1 (g.2.2 71)) (G.2.1 (g.2.2 72)) (G.2.1 (g.2.2 73)) (G.1 20) (G.1 22) n_160 x_137 x_139 x_141 x_149 ls fr_153 w_156 w_157 w_158 w_159 u_154 u_155 en_160 (lv_sub hl [4, 6, 7, 8, 3, 2, 1, 0] rfl) hv hH hS

def F_X0_mountNew (r0 : Nat → Int32) (r1 : Nat → Int32) (r2 : Nat → Int32) (r3 : Nat → Int32) (m20 : Int32) (m22 : Int32) (m23 : Int32) (a0 : Int32) (a1 : Int32) : Int32 × (Nat → Int32) × (Nat → Int32) × (Nat → Int32) × (Nat → Int32) × Int32 × Int32 × Int32 := (if (0 : Int32) ≤ (F_X0_parentsBy r0 r1 r2 m20 a0 a1) then (tu8 (F_X0_bring r0 r1 r2 r3 m20 m22 m23 (24 : Int32) a0 a1 (F_X0_parentsBy r0 r1 r2 m20 a0 a1)) (fun z9 z10 z11 z12 z13 z14 z15 z16 => (z9, z10, z11, z12, z13, z14, z15, z16))) else ((F_X0_parentsBy r0 r1 r2 m20 a0 a1), r0, r1, r2, r3, m20, m22, m23))
set_option maxHeartbeats 4000000 in
set_option maxRecDepth 100000 in
theorem c_X0_mountNew (l : Launch) (g : Gx) (Ty : TyM) (G : Gh) (sz : Nat) (h0 : Nat) (a0 : Int32) (a1 : Int32) (k_h0 : Ty h0 = some (10, 0)) (hD1 : LD1 g) (h24 : G.1 24 = 0) : Met l yX0_mountNew (wsG yX0_mountNew cX0_mountNew 4 (some .int)) ({ frames := 5, cells := 0, slots := 0, locals := 123 }) (PcT g Ty G sz [.ref h0, .int a0, .int a1]) (QwI g Ty sz (fun r u => u.1 = Ty ∧ FR [20, 22, 23] [(g.2.2 70), (g.2.2 71), (g.2.2 72), (g.2.2 73)] [] G u.2 ∧ F_X0_mountNew (G.2.1 (g.2.2 70)) (G.2.1 (g.2.2 71)) (G.2.1 (g.2.2 72)) (G.2.1 (g.2.2 73)) (G.1 20) (G.1 22) (G.1 23) a0 a1 = (r, (u.2.2.1 (g.2.2 70)), (u.2.2.1 (g.2.2 71)), (u.2.2.1 (g.2.2 72)), (u.2.2.1 (g.2.2 73)), (u.2.1 20), (u.2.1 22), (u.2.1 23)))) 0 0 (AF Ty sz) := by
  refine Met.ofW (cc := cX0_mountNew) (maxL := 4) (ret := (some .int)) (by decide) rfl ?_
  intro p e s m args below meth c s₁ B hml hv
  obtain ⟨rfl, hsz, hK, hH⟩ := hv
  subst hsz
  have hx := B.exec
  have hb := B.bytes
  have hr := B.returns
  have hts := atoms_spec (ws := (wsG yX0_mountNew cX0_mountNew 4 (some .int))) B.pre
  have hG : ∀ w ∈ GW, w.before ([.ref h0, .int a0, .int a1] : List Value).toArray s = true := fun w h => hts w (List.mem_cons_of_mem _ h)
  have hown : s.vm.findClass RX0 = some m.cls := findClass_of_methodNamed B.named
  have hlocks := B.notSynchronized
  have hl := lv_entry [.ref h0, .int a0, .int a1] (n := 4) (Nat.le_of_ble_eq_true rfl)
  rw [lg_entry_eq]
  generalize (lg_sl [.ref h0, .int a0, .int a1] ++ List.replicate (4 - (lg_sl [.ref h0, .int a0, .int a1]).length) Slot.unset).toArray = ls at hl ⊢
  have hl : lv_has ls 4 [(0, .ref h0), (1, .int a0), (2, .int a1)] := hl
  have hv : (if (0 : Int32) ≤ (F_X0_parentsBy (G.2.1 (g.2.2 70)) (G.2.1 (g.2.2 71)) (G.2.1 (g.2.2 72)) (G.1 20) a0 a1) then (tu8 (F_X0_bring (G.2.1 (g.2.2 70)) (G.2.1 (g.2.2 71)) (G.2.1 (g.2.2 72)) (G.2.1 (g.2.2 73)) (G.1 20) (G.1 22) (G.1 23) (24 : Int32) a0 a1 (F_X0_parentsBy (G.2.1 (g.2.2 70)) (G.2.1 (g.2.2 71)) (G.2.1 (g.2.2 72)) (G.1 20) a0 a1)) (fun z1 z2 z3 z4 z5 z6 z7 z8 => (z1, z2, z3, z4, z5, z6, z7, z8))) else ((F_X0_parentsBy (G.2.1 (g.2.2 70)) (G.2.1 (g.2.2 71)) (G.2.1 (g.2.2 72)) (G.1 20) a0 a1), (G.2.1 (g.2.2 70)), (G.2.1 (g.2.2 71)), (G.2.1 (g.2.2 72)), (G.2.1 (g.2.2 73)), (G.1 20), (G.1 22), (G.1 23))) = F_X0_mountNew (G.2.1 (g.2.2 70)) (G.2.1 (g.2.2 71)) (G.2.1 (g.2.2 72)) (G.2.1 (g.2.2 73)) (G.1 20) (G.1 22) (G.1 23) a0 a1 := rfl
  have hS : va_S (AF Ty s.heap.size) s.heap s.heap [] := va_S.rf
  refine lv_aload_n hx hb dX0_mountNew_0 rfl (lv_at hl 0 rfl) ?_
  refine lv_aload_n hx hb dX0_mountNew_1 rfl (lv_at hl 0 rfl) ?_
  obtain ⟨_, ⟨rfl, kq_2, kq_3, kq_4⟩, o_c_1⟩ := hH h0 _ k_h0
  refine hg_get hx hb hG igX0 hown hK o_c_1 rfl 1 (by decide) (hG _ mw_240) rfl dX0_mountNew_2 ?_
  refine lv_iload_n hx hb dX0_mountNew_5 rfl (lv_at hl 1 rfl) ?_
  refine lv_iload_n hx hb dX0_mountNew_6 rfl (lv_at hl 2 rfl) ?_
  refine vp_callSi (W.runV (As := [.ref (g.2.2 6), .int a0, .int a1]) (rest := []) ⟨hx, hb, hml, hown, hts⟩ (c_X0_parentsBy l g Ty G h0 (g.2.2 6) a0 a1 k_h0 kq_3 h24) (cwV 3 hts (gwV mw_636 mw_637 mw_638 mw_82 mw_639) rfl rfl rfl hv_X0_parentsBy ⟨Nat.le_of_ble_eq_true rfl, Nat.le_of_ble_eq_true rfl⟩) ⟨PcH_blind, hg_recv hK o_c_1 rfl, PcH_pre hK hH⟩ rfl rfl hl.1 rfl (lv_room (Nat.le_of_ble_eq_true rfl)) dX0_mountNew_7 ⟨Nat.zero_le _, Nat.zero_le _⟩) (fun x_5 hx_5 => ?_)
  try rw [← hx_5] at hv
  have ex_6 : x_5 = F_X0_parentsBy (G.2.1 (g.2.2 70)) (G.2.1 (g.2.2 71)) (G.2.1 (g.2.2 72)) (G.1 20) a0 a1 := hx_5
  try rw [← ex_6] at hv
  refine lv_istore_n (lv' := [(3, .int x_5), (0, .ref h0), (1, .int a0), (2, .int a1)]) hx hb dX0_mountNew_10 rfl hl (by decide) rfl (fun ls hl => ?_)
  refine lv_iload_n hx hb dX0_mountNew_11 rfl (lv_at hl 0 rfl) ?_
  refine lv_if_ge (tgt := 19) hx hb dX0_mountNew_12 (by decide) (fun c_7 => ?_) (fun c_7 => ?_)
  · rw [if_pos c_7] at hv
    have r_8 : rgI (0) (2147483647) x_5 := rg_w (rg_leR rl_0 (rg_top x_5) c_7) (by decide) (by decide)
    refine lv_aload_n hx hb dX0_mountNew_19 rfl (lv_at hl 1 rfl) ?_
    refine lv_bipush (v := 24) hx hb dX0_mountNew_20 (by decide) ?_
    refine lv_iload_n hx hb dX0_mountNew_22 rfl (lv_at hl 2 rfl) ?_
    refine lv_iload_n hx hb dX0_mountNew_23 rfl (lv_at hl 3 rfl) ?_
    refine lv_iload_n hx hb dX0_mountNew_24 rfl (lv_at hl 0 rfl) ?_
    refine va_calli (va_runV (As := [.int 24, .int a0, .int a1, .int x_5]) (rest := []) ⟨hx, hb, hml, hown, hts⟩ (c_X0_bring l g Ty G s.heap.size h0 24 a0 a1 x_5 k_h0 hD1) (cwV 4 hts (gwV mw_714 mw_716 mw_12 mw_82 mw_717) rfl rfl rfl hv_X0_bring ⟨Nat.le_of_ble_eq_true rfl, Nat.le_of_ble_eq_true rfl⟩) ⟨PcT_blind, hg_recv hK o_c_1 rfl, PcT_pre hK hH⟩ rfl rfl hl.1 rfl (lv_room (Nat.le_of_ble_eq_true rfl)) dX0_mountNew_25 ⟨Nat.zero_le _, Nat.zero_le _⟩) hS (fun q _ h => AF.mono hS.1 h) (fun q h => AF.mono hS.1 h) (fun x_9 ux_9 t H locs ht hvm hx_9 hB hz hk hS => ?_)
    obtain ⟨eTx_9, eGx_9⟩ := hx_9
    obtain ⟨G_10, eG_10⟩ : ∃ z, z = ux_9.2 := ⟨_, rfl⟩
    rw [← eG_10] at eGx_9
    obtain ⟨hfr_11, hex_12⟩ := eGx_9
    have fr_13 : FR [20, 22, 23] [(g.2.2 70), (g.2.2 71), (g.2.2 72), (g.2.2 73)] [] G G_10 := FR.tr FR.rf hfr_11 (by decide) (fun b h => ⟨h.1, h.2.1, h.2.2.1, h.2.2.2.1, trivial⟩) (by decide)
    have u_14 : G_10.1 24 = 0 := (hfr_11.1 24 (by decide)).trans h24
    obtain ⟨f_15, ef_15⟩ : ∃ z : Nat → Int32, G_10.2.1 (g.2.2 70) = z := ⟨_, rfl⟩
    obtain ⟨f_16, ef_16⟩ : ∃ z : Nat → Int32, G_10.2.1 (g.2.2 71) = z := ⟨_, rfl⟩
    obtain ⟨f_17, ef_17⟩ : ∃ z : Nat → Int32, G_10.2.1 (g.2.2 72) = z := ⟨_, rfl⟩
    obtain ⟨f_18, ef_18⟩ : ∃ z : Nat → Int32, G_10.2.1 (g.2.2 73) = z := ⟨_, rfl⟩
    obtain ⟨n_19, en_19⟩ : ∃ z : Int32, G_10.1 20 = z := ⟨_, rfl⟩
    obtain ⟨n_20, en_20⟩ : ∃ z : Int32, G_10.1 22 = z := ⟨_, rfl⟩
    obtain ⟨n_21, en_21⟩ : ∃ z : Int32, G_10.1 23 = z := ⟨_, rfl⟩
    have hq_22 : F_X0_bring (G.2.1 (g.2.2 70)) (G.2.1 (g.2.2 71)) (G.2.1 (g.2.2 72)) (G.2.1 (g.2.2 73)) (G.1 20) (G.1 22) (G.1 23) 24 a0 a1 x_5 = (x_9, f_15, f_16, f_17, f_18, n_19, n_20, n_21) := by have q := hex_12; rw [ef_15, ef_16, ef_17, ef_18, en_19, en_20, en_21] at q; exact q
    rw [hq_22, tu8_eq] at hv
    have hH : HT g Ty G_10 H := by rw [← ht, ← eTx_9, eG_10]; exact hB
    exact W.iret hx hb hr (fun t ht hWm => ⟨⟨x_9, (Ty, G_10), rfl, ⟨rfl, ⟨fr_13, hv.symm.trans (by rw [ef_15, ef_16, ef_17, ef_18, en_19, en_20, en_21])⟩⟩, by show HT g Ty G_10 t.heap; rw [ht]; exact hH⟩, hS.F ht⟩) hS.2.2 dX0_mountNew_28
  · rw [if_neg c_7] at hv
    have r_23 : rgI (-2147483648) (-1) x_5 := rg_w (rg_ltL (rg_top x_5) rl_0 (nle_lt c_7)) (by decide) (by decide)
    refine lv_iload_n hx hb dX0_mountNew_15 rfl (lv_at hl 0 rfl) ?_
    refine lv_goto (tgt := 28) hx hb dX0_mountNew_16 (by decide) ?_
    exact W.iret hx hb hr (fun t ht hWm => ⟨⟨x_5, (Ty, G), rfl, ⟨rfl, ⟨FR.rf, hv.symm⟩⟩, by show HT g Ty G t.heap; rw [ht]; exact hH⟩, hS.F ht⟩) hS.2.2 dX0_mountNew_28

def F_X0_bindOne (r0 : Nat → Int32) (r1 : Nat → Int32) (r2 : Nat → Int32) (r3 : Nat → Int32) (m20 : Int32) (m21 : Int32) (m22 : Int32) (m23 : Int32) (a0 : Int32) (a1 : Int32) (a2 : Int32) : Int32 × (Nat → Int32) × (Nat → Int32) × (Nat → Int32) × (Nat → Int32) × Int32 × Int32 × Int32 := (if (F_X10_has m20 a0) = (0 : Int32) then ((-1 : Int32), r0, r1, r2, r3, m20, m22, m23) else (if (F_X0_parentsBy r0 r1 r2 m20 a1 a2) = (-1 : Int32) then ((F_X0_parentsBy r0 r1 r2 m20 a1 a2), r0, r1, r2, r3, m20, m22, m23) else (if (F_X0_parentsBy r0 r1 r2 m20 a1 a2) = (-2 : Int32) then ((F_X0_parentsBy r0 r1 r2 m20 a1 a2), r0, r1, r2, r3, m20, m22, m23) else (if (F_X10_isUnbindable m21 a0) = (0 : Int32) then (if (0 : Int32) ≤ (F_X0_parentsBy r0 r1 r2 m20 a1 a2) then (tu8 (F_X0_bring r0 r1 r2 r3 m20 m22 m23 a0 a1 a2 (F_X0_parentsBy r0 r1 r2 m20 a1 a2)) (fun z9 z10 z11 z12 z13 z14 z15 z16 => (z9, z10, z11, z12, z13, z14, z15, z16))) else ((F_X0_parentsBy r0 r1 r2 m20 a1 a2), r0, r1, r2, r3, m20, m22, m23)) else ((-3 : Int32), r0, r1, r2, r3, m20, m22, m23)))))
set_option maxHeartbeats 4000000 in
set_option maxRecDepth 100000 in
theorem c_X0_bindOne (l : Launch) (g : Gx) (Ty : TyM) (G : Gh) (sz : Nat) (h0 : Nat) (a0 : Int32) (a1 : Int32) (a2 : Int32) (k_h0 : Ty h0 = some (10, 0)) (hD1 : LD1 g) (h24 : G.1 24 = 0) : Met l yX0_bindOne (wsG yX0_bindOne cX0_bindOne 5 (some .int)) ({ frames := 5, cells := 0, slots := 0, locals := 123 }) (PcT g Ty G sz [.ref h0, .int a0, .int a1, .int a2]) (QwI g Ty sz (fun r u => u.1 = Ty ∧ FR [20, 22, 23] [(g.2.2 70), (g.2.2 71), (g.2.2 72), (g.2.2 73)] [] G u.2 ∧ F_X0_bindOne (G.2.1 (g.2.2 70)) (G.2.1 (g.2.2 71)) (G.2.1 (g.2.2 72)) (G.2.1 (g.2.2 73)) (G.1 20) (G.1 21) (G.1 22) (G.1 23) a0 a1 a2 = (r, (u.2.2.1 (g.2.2 70)), (u.2.2.1 (g.2.2 71)), (u.2.2.1 (g.2.2 72)), (u.2.2.1 (g.2.2 73)), (u.2.1 20), (u.2.1 22), (u.2.1 23)))) 0 0 (AF Ty sz) := by
  refine Met.ofW (cc := cX0_bindOne) (maxL := 5) (ret := (some .int)) (by decide) rfl ?_
  intro p e s m args below meth c s₁ B hml hv
  obtain ⟨rfl, hsz, hK, hH⟩ := hv
  subst hsz
  have hx := B.exec
  have hb := B.bytes
  have hr := B.returns
  have hts := atoms_spec (ws := (wsG yX0_bindOne cX0_bindOne 5 (some .int))) B.pre
  have hG : ∀ w ∈ GW, w.before ([.ref h0, .int a0, .int a1, .int a2] : List Value).toArray s = true := fun w h => hts w (List.mem_cons_of_mem _ h)
  have hown : s.vm.findClass RX0 = some m.cls := findClass_of_methodNamed B.named
  have hlocks := B.notSynchronized
  have hl := lv_entry [.ref h0, .int a0, .int a1, .int a2] (n := 5) (Nat.le_of_ble_eq_true rfl)
  rw [lg_entry_eq]
  generalize (lg_sl [.ref h0, .int a0, .int a1, .int a2] ++ List.replicate (5 - (lg_sl [.ref h0, .int a0, .int a1, .int a2]).length) Slot.unset).toArray = ls at hl ⊢
  have hl : lv_has ls 5 [(0, .ref h0), (1, .int a0), (2, .int a1), (3, .int a2)] := hl
  have hv : (if (F_X10_has (G.1 20) a0) = (0 : Int32) then ((-1 : Int32), (G.2.1 (g.2.2 70)), (G.2.1 (g.2.2 71)), (G.2.1 (g.2.2 72)), (G.2.1 (g.2.2 73)), (G.1 20), (G.1 22), (G.1 23)) else (if (F_X0_parentsBy (G.2.1 (g.2.2 70)) (G.2.1 (g.2.2 71)) (G.2.1 (g.2.2 72)) (G.1 20) a1 a2) = (-1 : Int32) then ((F_X0_parentsBy (G.2.1 (g.2.2 70)) (G.2.1 (g.2.2 71)) (G.2.1 (g.2.2 72)) (G.1 20) a1 a2), (G.2.1 (g.2.2 70)), (G.2.1 (g.2.2 71)), (G.2.1 (g.2.2 72)), (G.2.1 (g.2.2 73)), (G.1 20), (G.1 22), (G.1 23)) else (if (F_X0_parentsBy (G.2.1 (g.2.2 70)) (G.2.1 (g.2.2 71)) (G.2.1 (g.2.2 72)) (G.1 20) a1 a2) = (-2 : Int32) then ((F_X0_parentsBy (G.2.1 (g.2.2 70)) (G.2.1 (g.2.2 71)) (G.2.1 (g.2.2 72)) (G.1 20) a1 a2), (G.2.1 (g.2.2 70)), (G.2.1 (g.2.2 71)), (G.2.1 (g.2.2 72)), (G.2.1 (g.2.2 73)), (G.1 20), (G.1 22), (G.1 23)) else (if (F_X10_isUnbindable (G.1 21) a0) = (0 : Int32) then (if (0 : Int32) ≤ (F_X0_parentsBy (G.2.1 (g.2.2 70)) (G.2.1 (g.2.2 71)) (G.2.1 (g.2.2 72)) (G.1 20) a1 a2) then (tu8 (F_X0_bring (G.2.1 (g.2.2 70)) (G.2.1 (g.2.2 71)) (G.2.1 (g.2.2 72)) (G.2.1 (g.2.2 73)) (G.1 20) (G.1 22) (G.1 23) a0 a1 a2 (F_X0_parentsBy (G.2.1 (g.2.2 70)) (G.2.1 (g.2.2 71)) (G.2.1 (g.2.2 72)) (G.1 20) a1 a2)) (fun z1 z2 z3 z4 z5 z6 z7 z8 => (z1, z2, z3, z4, z5, z6, z7, z8))) else ((F_X0_parentsBy (G.2.1 (g.2.2 70)) (G.2.1 (g.2.2 71)) (G.2.1 (g.2.2 72)) (G.1 20) a1 a2), (G.2.1 (g.2.2 70)), (G.2.1 (g.2.2 71)), (G.2.1 (g.2.2 72)), (G.2.1 (g.2.2 73)), (G.1 20), (G.1 22), (G.1 23))) else ((-3 : Int32), (G.2.1 (g.2.2 70)), (G.2.1 (g.2.2 71)), (G.2.1 (g.2.2 72)), (G.2.1 (g.2.2 73)), (G.1 20), (G.1 22), (G.1 23)))))) = F_X0_bindOne (G.2.1 (g.2.2 70)) (G.2.1 (g.2.2 71)) (G.2.1 (g.2.2 72)) (G.2.1 (g.2.2 73)) (G.1 20) (G.1 21) (G.1 22) (G.1 23) a0 a1 a2 := rfl
  have hS : va_S (AF Ty s.heap.size) s.heap s.heap [] := va_S.rf
  have L_38 : ∀ (H : Heap) (locs : List Loc) (G_38 : Gh) (fl0_38 : Nat → Int32) (fl1_38 : Nat → Int32) (fl2_38 : Nat → Int32) (fl3_38 : Nat → Int32) (nl20_38 : Int32) (nl22_38 : Int32) (nl23_38 : Int32) (y4_38 : Int32) (ls : Array Slot), FR [20, 22, 23] [(g.2.2 70), (g.2.2 71), (g.2.2 72), (g.2.2 73)] [] G G_38 → G_38.2.1 (g.2.2 70) = fl0_38 → G_38.2.1 (g.2.2 71) = fl1_38 → G_38.2.1 (g.2.2 72) = fl2_38 → G_38.2.1 (g.2.2 73) = fl3_38 → G_38.1 20 = nl20_38 → G_38.1 22 = nl22_38 → G_38.1 23 = nl23_38 → rgI (-2) (-1) y4_38 → lv_has ls 5 [(4, .int y4_38)] → (y4_38, fl0_38, fl1_38, fl2_38, fl3_38, nl20_38, nl22_38, nl23_38) = F_X0_bindOne (G.2.1 (g.2.2 70)) (G.2.1 (g.2.2 71)) (G.2.1 (g.2.2 72)) (G.2.1 (g.2.2 73)) (G.1 20) (G.1 21) (G.1 22) (G.1 23) a0 a1 a2 → HT g Ty G_38 H → va_S (AF Ty s.heap.size) s.heap H locs → Wm p l e (wsG yX0_bindOne cX0_bindOne 5 (some .int)) ({ frames := 5, cells := 0, slots := 0, locals := 123 }) s m [.ref h0, .int a0, .int a1, .int a2] below meth c H locs (0) (0) (QwI g Ty s.heap.size (fun r u => u.1 = Ty ∧ FR [20, 22, 23] [(g.2.2 70), (g.2.2 71), (g.2.2 72), (g.2.2 73)] [] G u.2 ∧ F_X0_bindOne (G.2.1 (g.2.2 70)) (G.2.1 (g.2.2 71)) (G.2.1 (g.2.2 72)) (G.2.1 (g.2.2 73)) (G.1 20) (G.1 21) (G.1 22) (G.1 23) a0 a1 a2 = (r, (u.2.2.1 (g.2.2 70)), (u.2.2.1 (g.2.2 71)), (u.2.2.1 (g.2.2 72)), (u.2.2.1 (g.2.2 73)), (u.2.1 20), (u.2.1 22), (u.2.1 23)))) 0 0 (AF Ty s.heap.size) (F0 m 38 ls []) := by
    intro H locs G_38 fl0_38 fl1_38 fl2_38 fl3_38 nl20_38 nl22_38 nl23_38 y4_38 ls frL_38 efl0_38 efl1_38 efl2_38 efl3_38 enl20_38 enl22_38 enl23_38 ry4_38 hl hv hH hS
    refine lv_iload hx hb dX0_bindOne_38 (lv_at hl 0 rfl) ?_
    exact W.iret hx hb hr (fun t ht hWm => ⟨⟨y4_38, (Ty, G_38), rfl, ⟨rfl, ⟨frL_38, hv.symm.trans (by rw [efl0_38, efl1_38, efl2_38, efl3_38, enl20_38, enl22_38, enl23_38])⟩⟩, by show HT g Ty G_38 t.heap; rw [ht]; exact hH⟩, hS.F ht⟩) hS.2.2 dX0_bindOne_40
  refine lv_aload_n hx hb dX0_bindOne_0 rfl (lv_at hl 0 rfl) ?_
  obtain ⟨_, ⟨rfl, kq_2, kq_3, kq_4⟩, o_c_1⟩ := hH h0 _ k_h0
  refine hg_get hx hb hG igX0 hown hK o_c_1 rfl 0 (by decide) (hG _ mw_239) rfl dX0_bindOne_1 ?_
  refine lv_iload_n hx hb dX0_bindOne_4 rfl (lv_at hl 1 rfl) ?_
  obtain ⟨_, ⟨rfl, kq_6, kq_7, kq_8, t_13⟩, o_c_5⟩ := hH (g.2.2 0) _ kq_2
  refine vp_callSi (W.runV (As := [.int a0]) (rest := []) ⟨hx, hb, hml, hown, hts⟩ (c_X10_has l g Ty G (g.2.2 0) a0 kq_2) (cwV 1 hts (gwV mw_765 mw_604 mw_605 mw_77 mw_606) rfl rfl rfl hv_X10_has ⟨Nat.le_of_ble_eq_true rfl, Nat.le_of_ble_eq_true rfl⟩) ⟨PcH_blind, hg_recv hK o_c_5 rfl, PcH_pre hK hH⟩ rfl rfl hl.1 rfl (lv_room (Nat.le_of_ble_eq_true rfl)) dX0_bindOne_5 ⟨Nat.zero_le _, Nat.zero_le _⟩) (fun x_14 hx_14 => ?_)
  have rx_14 : rgI (0) (1) x_14 := hx_14.1
  try rw [← hx_14.2.2] at hv
  have ex_15 : x_14 = F_X10_has (G.1 20) a0 := hx_14.2.2
  try rw [← ex_15] at hv
  refine lv_if_ne (tgt := 13) hx hb dX0_bindOne_8 (by decide) (fun c_16 => ?_) (fun c_16 => ?_)
  · rw [if_neg c_16] at hv
    have r_17 : rgI (1) (1) x_14 := rg_w (rg_neL rx_14 rl_0 c_16) (by decide) (by decide)
    have r_18 : rgI (0) (23) a0 := rg_w (hx_14.2.1.resolve_left c_16) (by decide) (by decide)
    refine lv_aload_n hx hb dX0_bindOne_13 rfl (lv_at hl 0 rfl) ?_
    refine lv_aload_n hx hb dX0_bindOne_14 rfl (lv_at hl 0 rfl) ?_
    refine hg_get hx hb hG igX0 hown hK o_c_1 rfl 1 (by decide) (hG _ mw_240) rfl dX0_bindOne_15 ?_
    refine lv_iload_n hx hb dX0_bindOne_18 rfl (lv_at hl 2 rfl) ?_
    refine lv_iload_n hx hb dX0_bindOne_19 rfl (lv_at hl 3 rfl) ?_
    refine vp_callSi (W.runV (As := [.ref (g.2.2 6), .int a1, .int a2]) (rest := []) ⟨hx, hb, hml, hown, hts⟩ (c_X0_parentsBy l g Ty G h0 (g.2.2 6) a1 a2 k_h0 kq_3 h24) (cwV 3 hts (gwV mw_636 mw_637 mw_638 mw_82 mw_639) rfl rfl rfl hv_X0_parentsBy ⟨Nat.le_of_ble_eq_true rfl, Nat.le_of_ble_eq_true rfl⟩) ⟨PcH_blind, hg_recv hK o_c_1 rfl, PcH_pre hK hH⟩ rfl rfl hl.1 rfl (lv_room (Nat.le_of_ble_eq_true rfl)) dX0_bindOne_20 ⟨Nat.zero_le _, Nat.zero_le _⟩) (fun x_19 hx_19 => ?_)
    try rw [← hx_19] at hv
    have ex_20 : x_19 = F_X0_parentsBy (G.2.1 (g.2.2 70)) (G.2.1 (g.2.2 71)) (G.2.1 (g.2.2 72)) (G.1 20) a1 a2 := hx_19
    try rw [← ex_20] at hv
    refine lv_istore (lv' := [(4, .int x_19), (0, .ref h0), (1, .int a0), (2, .int a1), (3, .int a2)]) hx hb dX0_bindOne_23 hl (by decide) rfl (fun ls hl => ?_)
    refine lv_iload hx hb dX0_bindOne_25 (lv_at hl 0 rfl) ?_
    refine lv_iconst (v := (-1)) hx hb dX0_bindOne_27 (by decide) ?_
    refine lv_icmp_eq (tgt := 38) hx hb dX0_bindOne_28 (by decide) (fun c_21 => ?_) (fun c_21 => ?_)
    · rw [if_pos c_21] at hv
      have r_22 : rgI (-1) (-1) x_19 := rg_w (rg_eq rl_m1 c_21) (by decide) (by decide)
      exact L_38 s.heap [] G (G.2.1 (g.2.2 70)) (G.2.1 (g.2.2 71)) (G.2.1 (g.2.2 72)) (G.2.1 (g.2.2 73)) (G.1 20) (G.1 22) (G.1 23) x_19 ls FR.rf rfl rfl rfl rfl rfl rfl rfl (rg_w r_22 (by decide) (by decide)) (lv_sub hl [0] rfl) hv hH hS
    · rw [if_neg c_21] at hv
      refine lv_iload hx hb dX0_bindOne_31 (lv_at hl 0 rfl) ?_
      refine lv_bipush (v := (-2)) hx hb dX0_bindOne_33 (by decide) ?_
      refine lv_icmp_ne (tgt := 41) hx hb dX0_bindOne_35 (by decide) (fun c_23 => ?_) (fun c_23 => ?_)
      · rw [if_neg c_23] at hv
        refine lv_aload_n hx hb dX0_bindOne_41 rfl (lv_at hl 1 rfl) ?_
        refine hg_get hx hb hG igX0 hown hK o_c_1 rfl 0 (by decide) (hG _ mw_239) rfl dX0_bindOne_42 ?_
        refine lv_iload_n hx hb dX0_bindOne_45 rfl (lv_at hl 2 rfl) ?_
        refine vp_callSi (W.runV (As := [.int a0]) (rest := []) ⟨hx, hb, hml, hown, hts⟩ (c_X10_isUnbindable l g Ty G (g.2.2 0) a0 kq_2) (cwV 1 hts (gwV mw_766 mw_767 mw_768 mw_77 mw_769) rfl rfl rfl hv_X10_isUnbindable ⟨Nat.le_of_ble_eq_true rfl, Nat.le_of_ble_eq_true rfl⟩) ⟨PcH_blind, hg_recv hK o_c_5 rfl, PcH_pre hK hH⟩ rfl rfl hl.1 rfl (lv_room (Nat.le_of_ble_eq_true rfl)) dX0_bindOne_46 ⟨Nat.zero_le _, Nat.zero_le _⟩) (fun x_24 hx_24 => ?_)
        have rx_24 : rgI (0) (1) x_24 := hx_24.1
        try rw [← hx_24.2.2] at hv
        have ex_25 : x_24 = F_X10_isUnbindable (G.1 21) a0 := hx_24.2.2
        try rw [← ex_25] at hv
        refine lv_if_eq (tgt := 55) hx hb dX0_bindOne_49 (by decide) (fun c_26 => ?_) (fun c_26 => ?_)
        · rw [if_pos c_26] at hv
          have r_27 : rgI (0) (0) x_24 := rg_w (rg_eq rl_0 c_26) (by decide) (by decide)
          refine lv_iload hx hb dX0_bindOne_55 (lv_at hl 0 rfl) ?_
          refine lv_if_ge (tgt := 65) hx hb dX0_bindOne_57 (by decide) (fun c_28 => ?_) (fun c_28 => ?_)
          · rw [if_pos c_28] at hv
            have r_29 : rgI (0) (2147483647) x_19 := rg_w (rg_leR rl_0 (rg_top x_19) c_28) (by decide) (by decide)
            refine lv_aload_n hx hb dX0_bindOne_65 rfl (lv_at hl 1 rfl) ?_
            refine lv_iload_n hx hb dX0_bindOne_66 rfl (lv_at hl 2 rfl) ?_
            refine lv_iload_n hx hb dX0_bindOne_67 rfl (lv_at hl 3 rfl) ?_
            refine lv_iload_n hx hb dX0_bindOne_68 rfl (lv_at hl 4 rfl) ?_
            refine lv_iload hx hb dX0_bindOne_69 (lv_at hl 0 rfl) ?_
            refine va_calli (va_runV (As := [.int a0, .int a1, .int a2, .int x_19]) (rest := []) ⟨hx, hb, hml, hown, hts⟩ (c_X0_bring l g Ty G s.heap.size h0 a0 a1 a2 x_19 k_h0 hD1) (cwV 4 hts (gwV mw_714 mw_716 mw_12 mw_82 mw_717) rfl rfl rfl hv_X0_bring ⟨Nat.le_of_ble_eq_true rfl, Nat.le_of_ble_eq_true rfl⟩) ⟨PcT_blind, hg_recv hK o_c_1 rfl, PcT_pre hK hH⟩ rfl rfl hl.1 rfl (lv_room (Nat.le_of_ble_eq_true rfl)) dX0_bindOne_71 ⟨Nat.zero_le _, Nat.zero_le _⟩) hS (fun q _ h => AF.mono hS.1 h) (fun q h => AF.mono hS.1 h) (fun x_30 ux_30 t H locs ht hvm hx_30 hB hz hk hS => ?_)
            obtain ⟨eTx_30, eGx_30⟩ := hx_30
            obtain ⟨G_31, eG_31⟩ : ∃ z, z = ux_30.2 := ⟨_, rfl⟩
            rw [← eG_31] at eGx_30
            obtain ⟨hfr_32, hex_33⟩ := eGx_30
            have fr_34 : FR [20, 22, 23] [(g.2.2 70), (g.2.2 71), (g.2.2 72), (g.2.2 73)] [] G G_31 := FR.tr FR.rf hfr_32 (by decide) (fun b h => ⟨h.1, h.2.1, h.2.2.1, h.2.2.2.1, trivial⟩) (by decide)
            have u_35 : G_31.1 21 = (G.1 21) := (hfr_32.1 21 (by decide))
            have u_36 : G_31.1 24 = 0 := (hfr_32.1 24 (by decide)).trans h24
            obtain ⟨f_37, ef_37⟩ : ∃ z : Nat → Int32, G_31.2.1 (g.2.2 70) = z := ⟨_, rfl⟩
            obtain ⟨f_38, ef_38⟩ : ∃ z : Nat → Int32, G_31.2.1 (g.2.2 71) = z := ⟨_, rfl⟩
            obtain ⟨f_39, ef_39⟩ : ∃ z : Nat → Int32, G_31.2.1 (g.2.2 72) = z := ⟨_, rfl⟩
            obtain ⟨f_40, ef_40⟩ : ∃ z : Nat → Int32, G_31.2.1 (g.2.2 73) = z := ⟨_, rfl⟩
            obtain ⟨n_41, en_41⟩ : ∃ z : Int32, G_31.1 20 = z := ⟨_, rfl⟩
            obtain ⟨n_42, en_42⟩ : ∃ z : Int32, G_31.1 22 = z := ⟨_, rfl⟩
            obtain ⟨n_43, en_43⟩ : ∃ z : Int32, G_31.1 23 = z := ⟨_, rfl⟩
            have hq_44 : F_X0_bring (G.2.1 (g.2.2 70)) (G.2.1 (g.2.2 71)) (G.2.1 (g.2.2 72)) (G.2.1 (g.2.2 73)) (G.1 20) (G.1 22) (G.1 23) a0 a1 a2 x_19 = (x_30, f_37, f_38, f_39, f_40, n_41, n_42, n_43) := by have q := hex_33; rw [ef_37, ef_38, ef_39, ef_40, en_41, en_42, en_43] at q; exact q
            rw [hq_44, tu8_eq] at hv
            have hH : HT g Ty G_31 H := by rw [← ht, ← eTx_30, eG_31]; exact hB
            exact W.iret hx hb hr (fun t ht hWm => ⟨⟨x_30, (Ty, G_31), rfl, ⟨rfl, ⟨fr_34, hv.symm.trans (by rw [ef_37, ef_38, ef_39, ef_40, en_41, en_42, en_43])⟩⟩, by show HT g Ty G_31 t.heap; rw [ht]; exact hH⟩, hS.F ht⟩) hS.2.2 dX0_bindOne_74
          · rw [if_neg c_28] at hv
            have r_45 : rgI (-2147483648) (-1) x_19 := rg_w (rg_ltL (rg_top x_19) rl_0 (nle_lt c_28)) (by decide) (by decide)
            refine lv_iload hx hb dX0_bindOne_60 (lv_at hl 0 rfl) ?_
            refine lv_goto (tgt := 74) hx hb dX0_bindOne_62 (by decide) ?_
            exact W.iret hx hb hr (fun t ht hWm => ⟨⟨x_19, (Ty, G), rfl, ⟨rfl, ⟨FR.rf, hv.symm⟩⟩, by show HT g Ty G t.heap; rw [ht]; exact hH⟩, hS.F ht⟩) hS.2.2 dX0_bindOne_74
        · rw [if_neg c_26] at hv
          have r_46 : rgI (1) (1) x_24 := rg_w (rg_neL rx_24 rl_0 c_26) (by decide) (by decide)
          refine lv_bipush (v := (-3)) hx hb dX0_bindOne_52 (by decide) ?_
          exact W.iret hx hb hr (fun t ht hWm => ⟨⟨(-3), (Ty, G), rfl, ⟨rfl, ⟨FR.rf, hv.symm⟩⟩, by show HT g Ty G t.heap; rw [ht]; exact hH⟩, hS.F ht⟩) hS.2.2 dX0_bindOne_54
      · rw [if_pos c_23] at hv
        have r_47 : rgI (-2) (-2) x_19 := rg_w (rg_eq rl_m2 c_23) (by decide) (by decide)
        exact L_38 s.heap [] G (G.2.1 (g.2.2 70)) (G.2.1 (g.2.2 71)) (G.2.1 (g.2.2 72)) (G.2.1 (g.2.2 73)) (G.1 20) (G.1 22) (G.1 23) x_19 ls FR.rf rfl rfl rfl rfl rfl rfl rfl (rg_w r_47 (by decide) (by decide)) (lv_sub hl [0] rfl) hv hH hS
  · rw [if_pos c_16] at hv
    have r_48 : rgI (0) (0) x_14 := rg_w (rg_eq rl_0 c_16) (by decide) (by decide)
    refine lv_iconst (v := (-1)) hx hb dX0_bindOne_11 (by decide) ?_
    exact W.iret hx hb hr (fun t ht hWm => ⟨⟨(-1), (Ty, G), rfl, ⟨rfl, ⟨FR.rf, hv.symm⟩⟩, by show HT g Ty G t.heap; rw [ht]; exact hH⟩, hS.F ht⟩) hS.2.2 dX0_bindOne_12

def F_X0_makeKind (r0 : Nat → Int32) (r1 : Nat → Int32) (m20 : Int32) (m21 : Int32) (m22 : Int32) (m23 : Int32) (a0 : Int32) (a1 : Int32) : Int32 × (Nat → Int32) × (Nat → Int32) × Int32 × Int32 × Int32 := (if (F_X10_has m20 a0) = (0 : Int32) then ((-1 : Int32), r0, r1, m21, m22, m23) else (if a1 < (0 : Int32) then ((-1 : Int32), r0, r1, m21, m22, m23) else (if a1 ≤ (3 : Int32) then (if a1 = (2 : Int32) then (if (F_X10_groupOf r0 a0) = (0 : Int32) then ((-2 : Int32), r0, r1, m21, m22, m23) else (if a1 = (0 : Int32) then (tu3 (F_X10_makePrivate r0 r1 m20 m21 a0) (fun z53 z54 z55 => ((((10 : Int32) * (F_X10_kindOf r0 r1 m20 m21 a0)) + (F_X10_kindOf z53 z54 m20 z55 a0)), z53, z54, z55, (m22 + (1 : Int32)), m23))) else (if a1 = (1 : Int32) then (tu3 (F_X10_makeShared r0 m20 m21 m23 a0) (fun z50 z51 z52 => ((((10 : Int32) * (F_X10_kindOf r0 r1 m20 m21 a0)) + (F_X10_kindOf z50 r1 m20 z51 a0)), z50, r1, z51, (m22 + (1 : Int32)), z52))) else (if a1 = (2 : Int32) then (tu2 (F_X10_makeSlave r0 r1 m20 a0) (fun z48 z49 => ((((10 : Int32) * (F_X10_kindOf r0 r1 m20 m21 a0)) + (F_X10_kindOf z48 z49 m20 m21 a0)), z48, z49, m21, (m22 + (1 : Int32)), m23))) else (tu3 (F_X10_makeUnbindable r0 r1 m20 m21 a0) (fun z45 z46 z47 => ((((10 : Int32) * (F_X10_kindOf r0 r1 m20 m21 a0)) + (F_X10_kindOf z45 z46 m20 z47 a0)), z45, z46, z47, (m22 + (1 : Int32)), m23))))))) else (if a1 = (0 : Int32) then (tu3 (F_X10_makePrivate r0 r1 m20 m21 a0) (fun z42 z43 z44 => ((((10 : Int32) * (F_X10_kindOf r0 r1 m20 m21 a0)) + (F_X10_kindOf z42 z43 m20 z44 a0)), z42, z43, z44, (m22 + (1 : Int32)), m23))) else (if a1 = (1 : Int32) then (tu3 (F_X10_makeShared r0 m20 m21 m23 a0) (fun z39 z40 z41 => ((((10 : Int32) * (F_X10_kindOf r0 r1 m20 m21 a0)) + (F_X10_kindOf z39 r1 m20 z40 a0)), z39, r1, z40, (m22 + (1 : Int32)), z41))) else (if a1 = (2 : Int32) then (tu2 (F_X10_makeSlave r0 r1 m20 a0) (fun z37 z38 => ((((10 : Int32) * (F_X10_kindOf r0 r1 m20 m21 a0)) + (F_X10_kindOf z37 z38 m20 m21 a0)), z37, z38, m21, (m22 + (1 : Int32)), m23))) else (tu3 (F_X10_makeUnbindable r0 r1 m20 m21 a0) (fun z34 z35 z36 => ((((10 : Int32) * (F_X10_kindOf r0 r1 m20 m21 a0)) + (F_X10_kindOf z34 z35 m20 z36 a0)), z34, z35, z36, (m22 + (1 : Int32)), m23))))))) else ((-1 : Int32), r0, r1, m21, m22, m23))))
set_option maxHeartbeats 4000000 in
set_option maxRecDepth 100000 in
theorem c_X0_makeKind (l : Launch) (g : Gx) (Ty : TyM) (G : Gh) (sz : Nat) (h0 : Nat) (a0 : Int32) (a1 : Int32) (k_h0 : Ty h0 = some (10, 0)) (hD1 : LD1 g) : Met l yX0_makeKind (wsG yX0_makeKind cX0_makeKind 4 (some .int)) ({ frames := 5, cells := 0, slots := 0, locals := 109 }) (PcT g Ty G sz [.ref h0, .int a0, .int a1]) (QwI g Ty sz (fun r u => u.1 = Ty ∧ FR [21, 22, 23] [(g.2.2 71), (g.2.2 72)] [] G u.2 ∧ F_X0_makeKind (G.2.1 (g.2.2 71)) (G.2.1 (g.2.2 72)) (G.1 20) (G.1 21) (G.1 22) (G.1 23) a0 a1 = (r, (u.2.2.1 (g.2.2 71)), (u.2.2.1 (g.2.2 72)), (u.2.1 21), (u.2.1 22), (u.2.1 23)))) 0 0 (AF Ty sz) := by
  refine Met.ofW (cc := cX0_makeKind) (maxL := 4) (ret := (some .int)) (by decide) rfl ?_
  intro p e s m args below meth c s₁ B hml hv
  obtain ⟨rfl, hsz, hK, hH⟩ := hv
  subst hsz
  have hx := B.exec
  have hb := B.bytes
  have hr := B.returns
  have hts := atoms_spec (ws := (wsG yX0_makeKind cX0_makeKind 4 (some .int))) B.pre
  have hG : ∀ w ∈ GW, w.before ([.ref h0, .int a0, .int a1] : List Value).toArray s = true := fun w h => hts w (List.mem_cons_of_mem _ h)
  have hown : s.vm.findClass RX0 = some m.cls := findClass_of_methodNamed B.named
  have hlocks := B.notSynchronized
  have hl := lv_entry [.ref h0, .int a0, .int a1] (n := 4) (Nat.le_of_ble_eq_true rfl)
  rw [lg_entry_eq]
  generalize (lg_sl [.ref h0, .int a0, .int a1] ++ List.replicate (4 - (lg_sl [.ref h0, .int a0, .int a1]).length) Slot.unset).toArray = ls at hl ⊢
  have hl : lv_has ls 4 [(0, .ref h0), (1, .int a0), (2, .int a1)] := hl
  have hv : (if (F_X10_has (G.1 20) a0) = (0 : Int32) then ((-1 : Int32), (G.2.1 (g.2.2 71)), (G.2.1 (g.2.2 72)), (G.1 21), (G.1 22), (G.1 23)) else (if a1 < (0 : Int32) then ((-1 : Int32), (G.2.1 (g.2.2 71)), (G.2.1 (g.2.2 72)), (G.1 21), (G.1 22), (G.1 23)) else (if a1 ≤ (3 : Int32) then (if a1 = (2 : Int32) then (if (F_X10_groupOf (G.2.1 (g.2.2 71)) a0) = (0 : Int32) then ((-2 : Int32), (G.2.1 (g.2.2 71)), (G.2.1 (g.2.2 72)), (G.1 21), (G.1 22), (G.1 23)) else (if a1 = (0 : Int32) then (tu3 (F_X10_makePrivate (G.2.1 (g.2.2 71)) (G.2.1 (g.2.2 72)) (G.1 20) (G.1 21) a0) (fun z31 z32 z33 => ((((10 : Int32) * (F_X10_kindOf (G.2.1 (g.2.2 71)) (G.2.1 (g.2.2 72)) (G.1 20) (G.1 21) a0)) + (F_X10_kindOf z31 z32 (G.1 20) z33 a0)), z31, z32, z33, ((G.1 22) + (1 : Int32)), (G.1 23)))) else (if a1 = (1 : Int32) then (tu3 (F_X10_makeShared (G.2.1 (g.2.2 71)) (G.1 20) (G.1 21) (G.1 23) a0) (fun z28 z29 z30 => ((((10 : Int32) * (F_X10_kindOf (G.2.1 (g.2.2 71)) (G.2.1 (g.2.2 72)) (G.1 20) (G.1 21) a0)) + (F_X10_kindOf z28 (G.2.1 (g.2.2 72)) (G.1 20) z29 a0)), z28, (G.2.1 (g.2.2 72)), z29, ((G.1 22) + (1 : Int32)), z30))) else (if a1 = (2 : Int32) then (tu2 (F_X10_makeSlave (G.2.1 (g.2.2 71)) (G.2.1 (g.2.2 72)) (G.1 20) a0) (fun z26 z27 => ((((10 : Int32) * (F_X10_kindOf (G.2.1 (g.2.2 71)) (G.2.1 (g.2.2 72)) (G.1 20) (G.1 21) a0)) + (F_X10_kindOf z26 z27 (G.1 20) (G.1 21) a0)), z26, z27, (G.1 21), ((G.1 22) + (1 : Int32)), (G.1 23)))) else (tu3 (F_X10_makeUnbindable (G.2.1 (g.2.2 71)) (G.2.1 (g.2.2 72)) (G.1 20) (G.1 21) a0) (fun z23 z24 z25 => ((((10 : Int32) * (F_X10_kindOf (G.2.1 (g.2.2 71)) (G.2.1 (g.2.2 72)) (G.1 20) (G.1 21) a0)) + (F_X10_kindOf z23 z24 (G.1 20) z25 a0)), z23, z24, z25, ((G.1 22) + (1 : Int32)), (G.1 23)))))))) else (if a1 = (0 : Int32) then (tu3 (F_X10_makePrivate (G.2.1 (g.2.2 71)) (G.2.1 (g.2.2 72)) (G.1 20) (G.1 21) a0) (fun z20 z21 z22 => ((((10 : Int32) * (F_X10_kindOf (G.2.1 (g.2.2 71)) (G.2.1 (g.2.2 72)) (G.1 20) (G.1 21) a0)) + (F_X10_kindOf z20 z21 (G.1 20) z22 a0)), z20, z21, z22, ((G.1 22) + (1 : Int32)), (G.1 23)))) else (if a1 = (1 : Int32) then (tu3 (F_X10_makeShared (G.2.1 (g.2.2 71)) (G.1 20) (G.1 21) (G.1 23) a0) (fun z17 z18 z19 => ((((10 : Int32) * (F_X10_kindOf (G.2.1 (g.2.2 71)) (G.2.1 (g.2.2 72)) (G.1 20) (G.1 21) a0)) + (F_X10_kindOf z17 (G.2.1 (g.2.2 72)) (G.1 20) z18 a0)), z17, (G.2.1 (g.2.2 72)), z18, ((G.1 22) + (1 : Int32)), z19))) else (if a1 = (2 : Int32) then (tu2 (F_X10_makeSlave (G.2.1 (g.2.2 71)) (G.2.1 (g.2.2 72)) (G.1 20) a0) (fun z15 z16 => ((((10 : Int32) * (F_X10_kindOf (G.2.1 (g.2.2 71)) (G.2.1 (g.2.2 72)) (G.1 20) (G.1 21) a0)) + (F_X10_kindOf z15 z16 (G.1 20) (G.1 21) a0)), z15, z16, (G.1 21), ((G.1 22) + (1 : Int32)), (G.1 23)))) else (tu3 (F_X10_makeUnbindable (G.2.1 (g.2.2 71)) (G.2.1 (g.2.2 72)) (G.1 20) (G.1 21) a0) (fun z12 z13 z14 => ((((10 : Int32) * (F_X10_kindOf (G.2.1 (g.2.2 71)) (G.2.1 (g.2.2 72)) (G.1 20) (G.1 21) a0)) + (F_X10_kindOf z12 z13 (G.1 20) z14 a0)), z12, z13, z14, ((G.1 22) + (1 : Int32)), (G.1 23)))))))) else ((-1 : Int32), (G.2.1 (g.2.2 71)), (G.2.1 (g.2.2 72)), (G.1 21), (G.1 22), (G.1 23))))) = F_X0_makeKind (G.2.1 (g.2.2 71)) (G.2.1 (g.2.2 72)) (G.1 20) (G.1 21) (G.1 22) (G.1 23) a0 a1 := rfl
  have hS : va_S (AF Ty s.heap.size) s.heap s.heap [] := va_S.rf
  have L_117 : ∀ (H : Heap) (locs : List Loc) (G_117 : Gh) (fl0_117 : Nat → Int32) (fl1_117 : Nat → Int32) (nl21_117 : Int32) (nl22_117 : Int32) (nl23_117 : Int32) (y3_117 : Int32) (ls : Array Slot), FR [21, 22, 23] [(g.2.2 71), (g.2.2 72)] [] G G_117 → G_117.2.1 (g.2.2 71) = fl0_117 → G_117.2.1 (g.2.2 72) = fl1_117 → G_117.1 21 = nl21_117 → G_117.1 22 = nl22_117 → G_117.1 23 = nl23_117 → rgI (0) (23) a0 → lv_has ls 4 [(0, .ref h0), (1, .int a0), (3, .int y3_117)] → ((((10 : Int32) * y3_117) + (F_X10_kindOf fl0_117 fl1_117 (G.1 20) nl21_117 a0)), fl0_117, fl1_117, nl21_117, (nl22_117 + (1 : Int32)), nl23_117) = F_X0_makeKind (G.2.1 (g.2.2 71)) (G.2.1 (g.2.2 72)) (G.1 20) (G.1 21) (G.1 22) (G.1 23) a0 a1 → HT g Ty G_117 H → va_S (AF Ty s.heap.size) s.heap H locs → Wm p l e (wsG yX0_makeKind cX0_makeKind 4 (some .int)) ({ frames := 5, cells := 0, slots := 0, locals := 109 }) s m [.ref h0, .int a0, .int a1] below meth c H locs (0) (0) (QwI g Ty s.heap.size (fun r u => u.1 = Ty ∧ FR [21, 22, 23] [(g.2.2 71), (g.2.2 72)] [] G u.2 ∧ F_X0_makeKind (G.2.1 (g.2.2 71)) (G.2.1 (g.2.2 72)) (G.1 20) (G.1 21) (G.1 22) (G.1 23) a0 a1 = (r, (u.2.2.1 (g.2.2 71)), (u.2.2.1 (g.2.2 72)), (u.2.1 21), (u.2.1 22), (u.2.1 23)))) 0 0 (AF Ty s.heap.size) (F0 m 117 ls []) := by
    intro H locs G_117 fl0_117 fl1_117 nl21_117 nl22_117 nl23_117 y3_117 ls frL_117 efl0_117 efl1_117 enl21_117 enl22_117 enl23_117 ry1_117 hl hv hH hS
    refine lv_aload_n hx hb dX0_makeKind_117 rfl (lv_at hl 0 rfl) ?_
    obtain ⟨_, ⟨rfl, kq_2, kq_3, kq_4⟩, o_c_1⟩ := hH h0 _ k_h0
    refine hg_get hx hb hG igX0 hown hK o_c_1 rfl 0 (by decide) (hG _ mw_239) rfl dX0_makeKind_118 ?_
    refine lv_dup hx hb dX0_makeKind_121 rfl ?_
    obtain ⟨_, ⟨rfl, kq_6, kq_7, kq_8, t_13⟩, o_c_5⟩ := hH (g.2.2 0) _ kq_2
    refine hg_getN hx hb hG igX10 hown hK o_c_5 rfl 5 (by decide) ((hK.2.1 _ nwf_125).use rfl) rfl dX0_makeKind_122 ?_
    rw [enl22_117]
    refine lv_iconst (v := 1) hx hb dX0_makeKind_125 (by decide) ?_
    refine lv_iadd hx hb dX0_makeKind_126 ?_
    refine lv_topi (fun x_14 ex_14 => ?_)
    try rw [← ex_14] at hv
    refine hg_putN (ty := .int) hx hb hG igX10 tyX10 tyX10_ok nmX10 hown hK hS o_c_5 (AF.of kq_2) rfl 5 (by decide) ((hK.2.1 _ nwf_125).use rfl) rfl (by decide +kernel) rfl rfl (Nat.le_of_ble_eq_true rfl) dX0_makeKind_127 (fun H locs o_c_5 hz oq hS => ?_)
    obtain ⟨G_15, eG_15⟩ : ∃ z : Gh, z = gset G_117 22 x_14 := ⟨_, rfl⟩
    have hH : HT g Ty G_15 H := by rw [eG_15]; exact HT.putM 22 x_14 hH kq_2 ⟨rfl, kq_6, kq_7, kq_8, t_13⟩ o_c_5 oq (⟨⟨by decide, by decide⟩, t_13⟩)
    have fr_16 : FR [21, 22, 23] [(g.2.2 71), (g.2.2 72)] [] G G_15 := FR.n frL_117 eG_15 (by decide)
    have u_17 : G_15.1 20 = (G.1 20) := by rw [eG_15]; exact (gs_ne (by decide)).trans (frL_117.1 20 (by decide))
    have u_18 : G_15.1 21 = nl21_117 := by rw [eG_15]; exact (gs_ne (by decide)).trans enl21_117
    have u_19 : G_15.1 23 = nl23_117 := by rw [eG_15]; exact (gs_ne (by decide)).trans enl23_117
    have u_20 : G_15.1 22 = x_14 := by rw [eG_15]; exact gs_eq
    have w_21 : G_15.2.1 (g.2.2 71) = fl0_117 := by rw [eG_15]; exact efl0_117
    have w_22 : G_15.2.1 (g.2.2 72) = fl1_117 := by rw [eG_15]; exact efl1_117
    clear oq hz
    refine lv_bipush (v := 10) hx hb dX0_makeKind_130 (by decide) ?_
    refine lv_iload_n hx hb dX0_makeKind_132 rfl (lv_at hl 2 rfl) ?_
    refine lv_imul hx hb dX0_makeKind_133 ?_
    refine lv_topi (fun x_23 ex_23 => ?_)
    try rw [← ex_23] at hv
    refine lv_aload_n hx hb dX0_makeKind_134 rfl (lv_at hl 0 rfl) ?_
    obtain ⟨_, ⟨rfl, kq_25, kq_26, kq_27⟩, o_c_24⟩ := hH h0 _ k_h0
    refine hg_get hx hb hG igX0 hown hK o_c_24 rfl 0 (by decide) (hG _ mw_239) rfl dX0_makeKind_135 ?_
    refine lv_iload_n hx hb dX0_makeKind_138 rfl (lv_at hl 1 rfl) ?_
    obtain ⟨_, ⟨rfl, kq_29, kq_30, kq_31, t_36⟩, o_c_28⟩ := hH (g.2.2 0) _ kq_25
    refine vp_callSi (W.runV (As := [.int a0]) (rest := [.int x_23]) ⟨hx, hb, hml, hown, hts⟩ (c_X10_kindOf l g Ty G_15 (g.2.2 0) a0 kq_25) (cwV 1 hts (gwV mw_796 mw_694 mw_695 mw_77 mw_696) rfl rfl rfl hv_X10_kindOf ⟨Nat.le_of_ble_eq_true rfl, Nat.le_of_ble_eq_true rfl⟩) ⟨PcH_blind, hg_recv hK o_c_28 rfl, PcH_pre hK hH⟩ rfl rfl hl.1 rfl (lv_room (Nat.le_of_ble_eq_true rfl)) dX0_makeKind_139 ⟨Nat.zero_le _, Nat.zero_le _⟩) (fun x_37 hx_37 => ?_)
    try rw [← hx_37] at hv
    have ex_38 : x_37 = F_X10_kindOf fl0_117 fl1_117 (G.1 20) nl21_117 a0 := hx_37.trans (by rw [w_21, w_22, u_17, u_18])
    try rw [← ex_38] at hv
    refine lv_iadd hx hb dX0_makeKind_142 ?_
    refine lv_topi (fun x_39 ex_39 => ?_)
    try rw [← ex_39] at hv
    exact W.iret hx hb hr (fun t ht hWm => ⟨⟨x_39, (Ty, G_15), rfl, ⟨rfl, ⟨fr_16, hv.symm.trans (by rw [w_21, w_22, u_18, u_20, u_19])⟩⟩, by show HT g Ty G_15 t.heap; rw [ht]; exact hH⟩, hS.F ht⟩) hS.2.2 dX0_makeKind_143
  have L_41 : ∀ (H : Heap) (locs : List Loc) (G_41 : Gh) (fl0_41 : Nat → Int32) (fl1_41 : Nat → Int32) (nl21_41 : Int32) (nl22_41 : Int32) (nl23_41 : Int32) (ls : Array Slot), FR [21, 22, 23] [(g.2.2 71), (g.2.2 72)] [] G G_41 → G_41.2.1 (g.2.2 71) = fl0_41 → G_41.2.1 (g.2.2 72) = fl1_41 → G_41.1 21 = nl21_41 → G_41.1 22 = nl22_41 → G_41.1 23 = nl23_41 → rgI (0) (23) a0 → rgI (0) (3) a1 → lv_has ls 4 [(0, .ref h0), (1, .int a0), (2, .int a1)] → (if a1 = (0 : Int32) then (tu3 (F_X10_makePrivate fl0_41 fl1_41 (G.1 20) nl21_41 a0) (fun z9 z10 z11 => ((((10 : Int32) * (F_X10_kindOf fl0_41 fl1_41 (G.1 20) nl21_41 a0)) + (F_X10_kindOf z9 z10 (G.1 20) z11 a0)), z9, z10, z11, (nl22_41 + (1 : Int32)), nl23_41))) else (if a1 = (1 : Int32) then (tu3 (F_X10_makeShared fl0_41 (G.1 20) nl21_41 nl23_41 a0) (fun z6 z7 z8 => ((((10 : Int32) * (F_X10_kindOf fl0_41 fl1_41 (G.1 20) nl21_41 a0)) + (F_X10_kindOf z6 fl1_41 (G.1 20) z7 a0)), z6, fl1_41, z7, (nl22_41 + (1 : Int32)), z8))) else (if a1 = (2 : Int32) then (tu2 (F_X10_makeSlave fl0_41 fl1_41 (G.1 20) a0) (fun z4 z5 => ((((10 : Int32) * (F_X10_kindOf fl0_41 fl1_41 (G.1 20) nl21_41 a0)) + (F_X10_kindOf z4 z5 (G.1 20) nl21_41 a0)), z4, z5, nl21_41, (nl22_41 + (1 : Int32)), nl23_41))) else (tu3 (F_X10_makeUnbindable fl0_41 fl1_41 (G.1 20) nl21_41 a0) (fun z1 z2 z3 => ((((10 : Int32) * (F_X10_kindOf fl0_41 fl1_41 (G.1 20) nl21_41 a0)) + (F_X10_kindOf z1 z2 (G.1 20) z3 a0)), z1, z2, z3, (nl22_41 + (1 : Int32)), nl23_41)))))) = F_X0_makeKind (G.2.1 (g.2.2 71)) (G.2.1 (g.2.2 72)) (G.1 20) (G.1 21) (G.1 22) (G.1 23) a0 a1 → HT g Ty G_41 H → va_S (AF Ty s.heap.size) s.heap H locs → Wm p l e (wsG yX0_makeKind cX0_makeKind 4 (some .int)) ({ frames := 5, cells := 0, slots := 0, locals := 109 }) s m [.ref h0, .int a0, .int a1] below meth c H locs (0) (0) (QwI g Ty s.heap.size (fun r u => u.1 = Ty ∧ FR [21, 22, 23] [(g.2.2 71), (g.2.2 72)] [] G u.2 ∧ F_X0_makeKind (G.2.1 (g.2.2 71)) (G.2.1 (g.2.2 72)) (G.1 20) (G.1 21) (G.1 22) (G.1 23) a0 a1 = (r, (u.2.2.1 (g.2.2 71)), (u.2.2.1 (g.2.2 72)), (u.2.1 21), (u.2.1 22), (u.2.1 23)))) 0 0 (AF Ty s.heap.size) (F0 m 41 ls []) := by
    intro H locs G_41 fl0_41 fl1_41 nl21_41 nl22_41 nl23_41 ls frL_41 efl0_41 efl1_41 enl21_41 enl22_41 enl23_41 ry1_41 ry2_41 hl hv hH hS
    refine lv_aload_n hx hb dX0_makeKind_41 rfl (lv_at hl 0 rfl) ?_
    obtain ⟨_, ⟨rfl, kq_41, kq_42, kq_43⟩, o_c_40⟩ := hH h0 _ k_h0
    refine hg_get hx hb hG igX0 hown hK o_c_40 rfl 0 (by decide) (hG _ mw_239) rfl dX0_makeKind_42 ?_
    refine lv_iload_n hx hb dX0_makeKind_45 rfl (lv_at hl 1 rfl) ?_
    obtain ⟨_, ⟨rfl, kq_45, kq_46, kq_47, t_52⟩, o_c_44⟩ := hH (g.2.2 0) _ kq_41
    refine vp_callSi (W.runV (As := [.int a0]) (rest := []) ⟨hx, hb, hml, hown, hts⟩ (c_X10_kindOf l g Ty G_41 (g.2.2 0) a0 kq_41) (cwV 1 hts (gwV mw_796 mw_694 mw_695 mw_77 mw_696) rfl rfl rfl hv_X10_kindOf ⟨Nat.le_of_ble_eq_true rfl, Nat.le_of_ble_eq_true rfl⟩) ⟨PcH_blind, hg_recv hK o_c_44 rfl, PcH_pre hK hH⟩ rfl rfl hl.1 rfl (lv_room (Nat.le_of_ble_eq_true rfl)) dX0_makeKind_46 ⟨Nat.zero_le _, Nat.zero_le _⟩) (fun x_53 hx_53 => ?_)
    try rw [← hx_53] at hv
    have ex_54 : x_53 = F_X10_kindOf fl0_41 fl1_41 (G.1 20) nl21_41 a0 := hx_53.trans (by rw [efl0_41, efl1_41, (frL_41.1 20 (by decide)), enl21_41])
    try rw [← ex_54] at hv
    refine lv_istore_n (lv' := [(3, .int x_53), (0, .ref h0), (1, .int a0), (2, .int a1)]) hx hb dX0_makeKind_49 rfl hl (by decide) rfl (fun ls hl => ?_)
    refine lv_iload_n hx hb dX0_makeKind_50 rfl (lv_at hl 3 rfl) ?_
    by_cases c_55 : a1 = 0
    · refine lv_tableIn (tgt := 76) hx hb dX0_makeKind_51 (by rw [c_55]; decide) (by rw [c_55]; decide) (off := 25) (by rw [c_55]; rfl) (by decide) ?_
      rw [if_pos c_55] at hv
      have r_56 : rgI (0) (0) a1 := rg_w (rg_eq rl_0 c_55) (by decide) (by decide)
      refine lv_aload_n hx hb dX0_makeKind_76 rfl (lv_at hl 1 rfl) ?_
      refine hg_get hx hb hG igX0 hown hK o_c_40 rfl 0 (by decide) (hG _ mw_239) rfl dX0_makeKind_77 ?_
      refine lv_iload_n hx hb dX0_makeKind_80 rfl (lv_at hl 2 rfl) ?_
      refine va_callv (va_runV (As := [.int a0]) (rest := []) ⟨hx, hb, hml, hown, hts⟩ (c_X10_makePrivate l g Ty G_41 H.size (g.2.2 0) a0 kq_41 hD1) (cwV 1 hts (gwV mw_797 mw_798 mw_799 mw_77 mw_800) rfl rfl rfl hv_X10_makePrivate ⟨Nat.le_of_ble_eq_true rfl, Nat.le_of_ble_eq_true rfl⟩) ⟨PcT_blind, hg_recv hK o_c_44 rfl, PcT_pre hK hH⟩ rfl rfl hl.1 rfl (lv_room (Nat.le_of_ble_eq_true rfl)) dX0_makeKind_81 ⟨Nat.zero_le _, Nat.zero_le _⟩) hS (fun q _ h => AF.mono hS.1 h) (fun q h => AF.mono hS.1 h) (fun ux_57 t H locs ht hvm hx_57 hB hz hk hS => ?_)
      obtain ⟨eTx_57, eGx_57⟩ := hx_57
      obtain ⟨G_58, eG_58⟩ : ∃ z, z = ux_57.2 := ⟨_, rfl⟩
      rw [← eG_58] at eGx_57
      obtain ⟨hfr_59, hex_60⟩ := eGx_57
      have fr_61 : FR [21, 22, 23] [(g.2.2 71), (g.2.2 72)] [] G G_58 := FR.tr frL_41 hfr_59 (by decide) (fun b h => ⟨h.1, h.2.1, trivial⟩) (by decide)
      have u_62 : G_58.1 20 = (G.1 20) := (hfr_59.1 20 (by decide)).trans (frL_41.1 20 (by decide))
      have u_63 : G_58.1 22 = nl22_41 := (hfr_59.1 22 (by decide)).trans enl22_41
      have u_64 : G_58.1 23 = nl23_41 := (hfr_59.1 23 (by decide)).trans enl23_41
      obtain ⟨f_65, ef_65⟩ : ∃ z : Nat → Int32, G_58.2.1 (g.2.2 71) = z := ⟨_, rfl⟩
      obtain ⟨f_66, ef_66⟩ : ∃ z : Nat → Int32, G_58.2.1 (g.2.2 72) = z := ⟨_, rfl⟩
      obtain ⟨n_67, en_67⟩ : ∃ z : Int32, G_58.1 21 = z := ⟨_, rfl⟩
      have hq_68 : F_X10_makePrivate fl0_41 fl1_41 (G.1 20) nl21_41 a0 = (f_65, f_66, n_67) := by have q := hex_60; rw [efl0_41, efl1_41, (frL_41.1 20 (by decide)), enl21_41, ef_65, ef_66, en_67] at q; exact q
      rw [hq_68, tu3_eq] at hv
      have hH : HT g Ty G_58 H := by rw [← ht, ← eTx_57, eG_58]; exact hB
      refine lv_goto (tgt := 117) hx hb dX0_makeKind_84 (by decide) ?_
      exact L_117 H locs G_58 f_65 f_66 n_67 nl22_41 nl23_41 x_53 ls fr_61 ef_65 ef_66 en_67 u_63 u_64 ry1_41 (lv_sub hl [1, 2, 0] rfl) hv hH hS
    rw [if_neg c_55] at hv
    by_cases c_69 : a1 = 1
    · refine lv_tableIn (tgt := 87) hx hb dX0_makeKind_51 (by rw [c_69]; decide) (by rw [c_69]; decide) (off := 36) (by rw [c_69]; rfl) (by decide) ?_
      rw [if_pos c_69] at hv
      have r_70 : rgI (1) (1) a1 := rg_w (rg_eq rl_1 c_69) (by decide) (by decide)
      refine lv_aload_n hx hb dX0_makeKind_87 rfl (lv_at hl 1 rfl) ?_
      refine hg_get hx hb hG igX0 hown hK o_c_40 rfl 0 (by decide) (hG _ mw_239) rfl dX0_makeKind_88 ?_
      refine lv_iload_n hx hb dX0_makeKind_91 rfl (lv_at hl 2 rfl) ?_
      refine va_callv (va_runV (As := [.int a0]) (rest := []) ⟨hx, hb, hml, hown, hts⟩ (c_X10_makeShared l g Ty G_41 H.size (g.2.2 0) a0 kq_41 hD1) (cwV 1 hts (gwV mw_805 mw_806 mw_807 mw_77 mw_808) rfl rfl rfl hv_X10_makeShared ⟨Nat.le_of_ble_eq_true rfl, Nat.le_of_ble_eq_true rfl⟩) ⟨PcT_blind, hg_recv hK o_c_44 rfl, PcT_pre hK hH⟩ rfl rfl hl.1 rfl (lv_room (Nat.le_of_ble_eq_true rfl)) dX0_makeKind_92 ⟨Nat.zero_le _, Nat.zero_le _⟩) hS (fun q _ h => AF.mono hS.1 h) (fun q h => AF.mono hS.1 h) (fun ux_71 t H locs ht hvm hx_71 hB hz hk hS => ?_)
      obtain ⟨eTx_71, eGx_71⟩ := hx_71
      obtain ⟨G_72, eG_72⟩ : ∃ z, z = ux_71.2 := ⟨_, rfl⟩
      rw [← eG_72] at eGx_71
      obtain ⟨hfr_73, hex_74⟩ := eGx_71
      have fr_75 : FR [21, 22, 23] [(g.2.2 71), (g.2.2 72)] [] G G_72 := FR.tr frL_41 hfr_73 (by decide) (fun b h => ⟨h.1, trivial⟩) (by decide)
      have u_76 : G_72.1 20 = (G.1 20) := (hfr_73.1 20 (by decide)).trans (frL_41.1 20 (by decide))
      have u_77 : G_72.1 22 = nl22_41 := (hfr_73.1 22 (by decide)).trans enl22_41
      have w_78 : G_72.2.1 (g.2.2 72) = fl1_41 := (hfr_73.2.1 (g.2.2 72) ⟨(hD1 72 (by decide) 71 (by decide) (by decide)), trivial⟩).trans efl1_41
      obtain ⟨f_79, ef_79⟩ : ∃ z : Nat → Int32, G_72.2.1 (g.2.2 71) = z := ⟨_, rfl⟩
      obtain ⟨n_80, en_80⟩ : ∃ z : Int32, G_72.1 21 = z := ⟨_, rfl⟩
      obtain ⟨n_81, en_81⟩ : ∃ z : Int32, G_72.1 23 = z := ⟨_, rfl⟩
      have hq_82 : F_X10_makeShared fl0_41 (G.1 20) nl21_41 nl23_41 a0 = (f_79, n_80, n_81) := by have q := hex_74; rw [efl0_41, (frL_41.1 20 (by decide)), enl21_41, enl23_41, ef_79, en_80, en_81] at q; exact q
      rw [hq_82, tu3_eq] at hv
      have hH : HT g Ty G_72 H := by rw [← ht, ← eTx_71, eG_72]; exact hB
      refine lv_goto (tgt := 117) hx hb dX0_makeKind_95 (by decide) ?_
      exact L_117 H locs G_72 f_79 fl1_41 n_80 nl22_41 n_81 x_53 ls fr_75 ef_79 w_78 en_80 u_77 en_81 ry1_41 (lv_sub hl [1, 2, 0] rfl) hv hH hS
    rw [if_neg c_69] at hv
    by_cases c_83 : a1 = 2
    · refine lv_tableIn (tgt := 98) hx hb dX0_makeKind_51 (by rw [c_83]; decide) (by rw [c_83]; decide) (off := 47) (by rw [c_83]; rfl) (by decide) ?_
      rw [if_pos c_83] at hv
      have r_84 : rgI (2) (2) a1 := rg_w (rg_eq rl_2 c_83) (by decide) (by decide)
      refine lv_aload_n hx hb dX0_makeKind_98 rfl (lv_at hl 1 rfl) ?_
      refine hg_get hx hb hG igX0 hown hK o_c_40 rfl 0 (by decide) (hG _ mw_239) rfl dX0_makeKind_99 ?_
      refine lv_iload_n hx hb dX0_makeKind_102 rfl (lv_at hl 2 rfl) ?_
      refine va_callv (va_runV (As := [.int a0]) (rest := []) ⟨hx, hb, hml, hown, hts⟩ (c_X10_makeSlave l g Ty G_41 H.size (g.2.2 0) a0 kq_41 hD1) (cwV 1 hts (gwV mw_810 mw_811 mw_812 mw_77 mw_813) rfl rfl rfl hv_X10_makeSlave ⟨Nat.le_of_ble_eq_true rfl, Nat.le_of_ble_eq_true rfl⟩) ⟨PcT_blind, hg_recv hK o_c_44 rfl, PcT_pre hK hH⟩ rfl rfl hl.1 rfl (lv_room (Nat.le_of_ble_eq_true rfl)) dX0_makeKind_103 ⟨Nat.zero_le _, Nat.zero_le _⟩) hS (fun q _ h => AF.mono hS.1 h) (fun q h => AF.mono hS.1 h) (fun ux_85 t H locs ht hvm hx_85 hB hz hk hS => ?_)
      obtain ⟨eTx_85, eGx_85⟩ := hx_85
      obtain ⟨G_86, eG_86⟩ : ∃ z, z = ux_85.2 := ⟨_, rfl⟩
      rw [← eG_86] at eGx_85
      obtain ⟨hfr_87, hex_88⟩ := eGx_85
      have fr_89 : FR [21, 22, 23] [(g.2.2 71), (g.2.2 72)] [] G G_86 := FR.tr frL_41 hfr_87 (by decide) (fun b h => ⟨h.1, h.2.1, trivial⟩) (by decide)
      have u_90 : G_86.1 20 = (G.1 20) := (hfr_87.1 20 (by decide)).trans (frL_41.1 20 (by decide))
      have u_91 : G_86.1 21 = nl21_41 := (hfr_87.1 21 (by decide)).trans enl21_41
      have u_92 : G_86.1 22 = nl22_41 := (hfr_87.1 22 (by decide)).trans enl22_41
      have u_93 : G_86.1 23 = nl23_41 := (hfr_87.1 23 (by decide)).trans enl23_41
      obtain ⟨f_94, ef_94⟩ : ∃ z : Nat → Int32, G_86.2.1 (g.2.2 71) = z := ⟨_, rfl⟩
      obtain ⟨f_95, ef_95⟩ : ∃ z : Nat → Int32, G_86.2.1 (g.2.2 72) = z := ⟨_, rfl⟩
      have hq_96 : F_X10_makeSlave fl0_41 fl1_41 (G.1 20) a0 = (f_94, f_95) := by have q := hex_88; rw [efl0_41, efl1_41, (frL_41.1 20 (by decide)), ef_94, ef_95] at q; exact q
      rw [hq_96, tu2_eq] at hv
      have hH : HT g Ty G_86 H := by rw [← ht, ← eTx_85, eG_86]; exact hB
      refine lv_goto (tgt := 117) hx hb dX0_makeKind_106 (by decide) ?_
      exact L_117 H locs G_86 f_94 f_95 nl21_41 nl22_41 nl23_41 x_53 ls fr_89 ef_94 ef_95 u_91 u_92 u_93 ry1_41 (lv_sub hl [1, 2, 0] rfl) hv hH hS
    rw [if_neg c_83] at hv
    refine lv_tableOut (tgt := 109) hx hb dX0_makeKind_51 (by have := lv_neT (a := 0) c_55 rfl; have := lv_neT (a := 1) c_69 rfl; have := lv_neT (a := 2) c_83 rfl; omega) (by decide) ?_
    have r_97 : rgI (1) (3) a1 := rg_w (rg_neL ry2_41 rl_0 c_55) (by decide) (by decide)
    have r_98 : rgI (2) (3) a1 := rg_w (rg_neL r_97 rl_1 c_69) (by decide) (by decide)
    have r_99 : rgI (3) (3) a1 := rg_w (rg_neL r_98 rl_2 c_83) (by decide) (by decide)
    refine lv_aload_n hx hb dX0_makeKind_109 rfl (lv_at hl 1 rfl) ?_
    refine hg_get hx hb hG igX0 hown hK o_c_40 rfl 0 (by decide) (hG _ mw_239) rfl dX0_makeKind_110 ?_
    refine lv_iload_n hx hb dX0_makeKind_113 rfl (lv_at hl 2 rfl) ?_
    refine va_callv (va_runV (As := [.int a0]) (rest := []) ⟨hx, hb, hml, hown, hts⟩ (c_X10_makeUnbindable l g Ty G_41 H.size (g.2.2 0) a0 kq_41 hD1) (cwV 1 hts (gwV mw_814 mw_815 mw_816 mw_77 mw_817) rfl rfl rfl hv_X10_makeUnbindable ⟨Nat.le_of_ble_eq_true rfl, Nat.le_of_ble_eq_true rfl⟩) ⟨PcT_blind, hg_recv hK o_c_44 rfl, PcT_pre hK hH⟩ rfl rfl hl.1 rfl (lv_room (Nat.le_of_ble_eq_true rfl)) dX0_makeKind_114 ⟨Nat.zero_le _, Nat.zero_le _⟩) hS (fun q _ h => AF.mono hS.1 h) (fun q h => AF.mono hS.1 h) (fun ux_100 t H locs ht hvm hx_100 hB hz hk hS => ?_)
    obtain ⟨eTx_100, eGx_100⟩ := hx_100
    obtain ⟨G_101, eG_101⟩ : ∃ z, z = ux_100.2 := ⟨_, rfl⟩
    rw [← eG_101] at eGx_100
    obtain ⟨hfr_102, hex_103⟩ := eGx_100
    have fr_104 : FR [21, 22, 23] [(g.2.2 71), (g.2.2 72)] [] G G_101 := FR.tr frL_41 hfr_102 (by decide) (fun b h => ⟨h.1, h.2.1, trivial⟩) (by decide)
    have u_105 : G_101.1 20 = (G.1 20) := (hfr_102.1 20 (by decide)).trans (frL_41.1 20 (by decide))
    have u_106 : G_101.1 22 = nl22_41 := (hfr_102.1 22 (by decide)).trans enl22_41
    have u_107 : G_101.1 23 = nl23_41 := (hfr_102.1 23 (by decide)).trans enl23_41
    obtain ⟨f_108, ef_108⟩ : ∃ z : Nat → Int32, G_101.2.1 (g.2.2 71) = z := ⟨_, rfl⟩
    obtain ⟨f_109, ef_109⟩ : ∃ z : Nat → Int32, G_101.2.1 (g.2.2 72) = z := ⟨_, rfl⟩
    obtain ⟨n_110, en_110⟩ : ∃ z : Int32, G_101.1 21 = z := ⟨_, rfl⟩
    have hq_111 : F_X10_makeUnbindable fl0_41 fl1_41 (G.1 20) nl21_41 a0 = (f_108, f_109, n_110) := by have q := hex_103; rw [efl0_41, efl1_41, (frL_41.1 20 (by decide)), enl21_41, ef_108, ef_109, en_110] at q; exact q
    rw [hq_111, tu3_eq] at hv
    have hH : HT g Ty G_101 H := by rw [← ht, ← eTx_100, eG_101]; exact hB
    exact L_117 H locs G_101 f_108 f_109 n_110 nl22_41 nl23_41 x_53 ls fr_104 ef_108 ef_109 en_110 u_106 u_107 ry1_41 (lv_sub hl [1, 2, 0] rfl) hv hH hS
  have L_20 : ∀ (H : Heap) (locs : List Loc) (G_20 : Gh) (fl0_20 : Nat → Int32) (fl1_20 : Nat → Int32) (nl21_20 : Int32) (nl22_20 : Int32) (nl23_20 : Int32) (ls : Array Slot), FR [21, 22, 23] [(g.2.2 71), (g.2.2 72)] [] G G_20 → G_20.2.1 (g.2.2 71) = fl0_20 → G_20.2.1 (g.2.2 72) = fl1_20 → G_20.1 21 = nl21_20 → G_20.1 22 = nl22_20 → G_20.1 23 = nl23_20 → lv_has ls 4 [] → ((-1 : Int32), fl0_20, fl1_20, nl21_20, nl22_20, nl23_20) = F_X0_makeKind (G.2.1 (g.2.2 71)) (G.2.1 (g.2.2 72)) (G.1 20) (G.1 21) (G.1 22) (G.1 23) a0 a1 → HT g Ty G_20 H → va_S (AF Ty s.heap.size) s.heap H locs → Wm p l e (wsG yX0_makeKind cX0_makeKind 4 (some .int)) ({ frames := 5, cells := 0, slots := 0, locals := 109 }) s m [.ref h0, .int a0, .int a1] below meth c H locs (0) (0) (QwI g Ty s.heap.size (fun r u => u.1 = Ty ∧ FR [21, 22, 23] [(g.2.2 71), (g.2.2 72)] [] G u.2 ∧ F_X0_makeKind (G.2.1 (g.2.2 71)) (G.2.1 (g.2.2 72)) (G.1 20) (G.1 21) (G.1 22) (G.1 23) a0 a1 = (r, (u.2.2.1 (g.2.2 71)), (u.2.2.1 (g.2.2 72)), (u.2.1 21), (u.2.1 22), (u.2.1 23)))) 0 0 (AF Ty s.heap.size) (F0 m 20 ls []) := by
    intro H locs G_20 fl0_20 fl1_20 nl21_20 nl22_20 nl23_20 ls frL_20 efl0_20 efl1_20 enl21_20 enl22_20 enl23_20 hl hv hH hS
    refine lv_iconst (v := (-1)) hx hb dX0_makeKind_20 (by decide) ?_
    exact W.iret hx hb hr (fun t ht hWm => ⟨⟨(-1), (Ty, G_20), rfl, ⟨rfl, ⟨frL_20, hv.symm.trans (by rw [efl0_20, efl1_20, enl21_20, enl22_20, enl23_20])⟩⟩, by show HT g Ty G_20 t.heap; rw [ht]; exact hH⟩, hS.F ht⟩) hS.2.2 dX0_makeKind_21
  refine lv_aload_n hx hb dX0_makeKind_0 rfl (lv_at hl 0 rfl) ?_
  obtain ⟨_, ⟨rfl, kq_113, kq_114, kq_115⟩, o_c_112⟩ := hH h0 _ k_h0
  refine hg_get hx hb hG igX0 hown hK o_c_112 rfl 0 (by decide) (hG _ mw_239) rfl dX0_makeKind_1 ?_
  refine lv_iload_n hx hb dX0_makeKind_4 rfl (lv_at hl 1 rfl) ?_
  obtain ⟨_, ⟨rfl, kq_117, kq_118, kq_119, t_124⟩, o_c_116⟩ := hH (g.2.2 0) _ kq_113
  refine vp_callSi (W.runV (As := [.int a0]) (rest := []) ⟨hx, hb, hml, hown, hts⟩ (c_X10_has l g Ty G (g.2.2 0) a0 kq_113) (cwV 1 hts (gwV mw_765 mw_604 mw_605 mw_77 mw_606) rfl rfl rfl hv_X10_has ⟨Nat.le_of_ble_eq_true rfl, Nat.le_of_ble_eq_true rfl⟩) ⟨PcH_blind, hg_recv hK o_c_116 rfl, PcH_pre hK hH⟩ rfl rfl hl.1 rfl (lv_room (Nat.le_of_ble_eq_true rfl)) dX0_makeKind_5 ⟨Nat.zero_le _, Nat.zero_le _⟩) (fun x_125 hx_125 => ?_)
  have rx_125 : rgI (0) (1) x_125 := hx_125.1
  try rw [← hx_125.2.2] at hv
  have ex_126 : x_125 = F_X10_has (G.1 20) a0 := hx_125.2.2
  try rw [← ex_126] at hv
  refine lv_if_eq (tgt := 20) hx hb dX0_makeKind_8 (by decide) (fun c_127 => ?_) (fun c_127 => ?_)
  · rw [if_pos c_127] at hv
    have r_128 : rgI (0) (0) x_125 := rg_w (rg_eq rl_0 c_127) (by decide) (by decide)
    exact L_20 s.heap [] G (G.2.1 (g.2.2 71)) (G.2.1 (g.2.2 72)) (G.1 21) (G.1 22) (G.1 23) ls FR.rf rfl rfl rfl rfl rfl (lv_sub hl [] rfl) hv hH hS
  · rw [if_neg c_127] at hv
    have r_129 : rgI (1) (1) x_125 := rg_w (rg_neL rx_125 rl_0 c_127) (by decide) (by decide)
    have r_130 : rgI (0) (23) a0 := rg_w (hx_125.2.1.resolve_left c_127) (by decide) (by decide)
    refine lv_iload_n hx hb dX0_makeKind_11 rfl (lv_at hl 2 rfl) ?_
    refine lv_if_lt (tgt := 20) hx hb dX0_makeKind_12 (by decide) (fun c_131 => ?_) (fun c_131 => ?_)
    · rw [if_pos c_131] at hv
      have r_132 : rgI (-2147483648) (-1) a1 := rg_w (rg_ltL (rg_top a1) rl_0 c_131) (by decide) (by decide)
      exact L_20 s.heap [] G (G.2.1 (g.2.2 71)) (G.2.1 (g.2.2 72)) (G.1 21) (G.1 22) (G.1 23) ls FR.rf rfl rfl rfl rfl rfl (lv_sub hl [] rfl) hv hH hS
    · rw [if_neg c_131] at hv
      have r_133 : rgI (0) (2147483647) a1 := rg_w (rg_leR rl_0 (rg_top a1) (nlt_le c_131)) (by decide) (by decide)
      refine lv_iload_n hx hb dX0_makeKind_15 rfl (lv_at hl 2 rfl) ?_
      refine lv_iconst (v := 3) hx hb dX0_makeKind_16 (by decide) ?_
      refine lv_icmp_le (tgt := 22) hx hb dX0_makeKind_17 (by decide) (fun c_134 => ?_) (fun c_134 => ?_)
      · rw [if_pos c_134] at hv
        have r_135 : rgI (0) (3) a1 := rg_w (rg_leL r_133 rl_3 c_134) (by decide) (by decide)
        refine lv_iload_n hx hb dX0_makeKind_22 rfl (lv_at hl 2 rfl) ?_
        refine lv_iconst (v := 2) hx hb dX0_makeKind_23 (by decide) ?_
        refine lv_icmp_ne (tgt := 41) hx hb dX0_makeKind_24 (by decide) (fun c_136 => ?_) (fun c_136 => ?_)
        · rw [if_neg c_136] at hv
          exact L_41 s.heap [] G (G.2.1 (g.2.2 71)) (G.2.1 (g.2.2 72)) (G.1 21) (G.1 22) (G.1 23) ls FR.rf rfl rfl rfl rfl rfl r_130 r_135 (lv_sub hl [0, 1, 2] rfl) hv hH hS
        · rw [if_pos c_136] at hv
          have r_137 : rgI (2) (2) a1 := rg_w (rg_eq rl_2 c_136) (by decide) (by decide)
          refine lv_aload_n hx hb dX0_makeKind_27 rfl (lv_at hl 0 rfl) ?_
          refine hg_get hx hb hG igX0 hown hK o_c_112 rfl 0 (by decide) (hG _ mw_239) rfl dX0_makeKind_28 ?_
          refine lv_iload_n hx hb dX0_makeKind_31 rfl (lv_at hl 1 rfl) ?_
          refine vp_callSi (W.runV (As := [.int a0]) (rest := []) ⟨hx, hb, hml, hown, hts⟩ (c_X10_groupOf l g Ty G (g.2.2 0) a0 kq_113) (cwV 1 hts (gwV mw_718 mw_608 mw_609 mw_77 mw_610) rfl rfl rfl hv_X10_groupOf ⟨Nat.le_of_ble_eq_true rfl, Nat.le_of_ble_eq_true rfl⟩) ⟨PcH_blind, hg_recv hK o_c_116 rfl, PcH_pre hK hH⟩ rfl rfl hl.1 rfl (lv_room (Nat.le_of_ble_eq_true rfl)) dX0_makeKind_32 ⟨Nat.zero_le _, Nat.zero_le _⟩) (fun x_138 hx_138 => ?_)
          try rw [← hx_138] at hv
          have ex_139 : x_138 = F_X10_groupOf (G.2.1 (g.2.2 71)) a0 := hx_138
          try rw [← ex_139] at hv
          refine lv_if_ne (tgt := 41) hx hb dX0_makeKind_35 (by decide) (fun c_140 => ?_) (fun c_140 => ?_)
          · rw [if_neg c_140] at hv
            exact L_41 s.heap [] G (G.2.1 (g.2.2 71)) (G.2.1 (g.2.2 72)) (G.1 21) (G.1 22) (G.1 23) ls FR.rf rfl rfl rfl rfl rfl r_130 (rg_w r_137 (by decide) (by decide)) (lv_sub hl [0, 1, 2] rfl) hv hH hS
          · rw [if_pos c_140] at hv
            have r_141 : rgI (0) (0) x_138 := rg_w (rg_eq rl_0 c_140) (by decide) (by decide)
            refine lv_bipush (v := (-2)) hx hb dX0_makeKind_38 (by decide) ?_
            exact W.iret hx hb hr (fun t ht hWm => ⟨⟨(-2), (Ty, G), rfl, ⟨rfl, ⟨FR.rf, hv.symm⟩⟩, by show HT g Ty G t.heap; rw [ht]; exact hH⟩, hS.F ht⟩) hS.2.2 dX0_makeKind_40
      · rw [if_neg c_134] at hv
        have r_142 : rgI (4) (2147483647) a1 := rg_w (rg_ltR rl_3 r_133 (nle_lt c_134)) (by decide) (by decide)
        exact L_20 s.heap [] G (G.2.1 (g.2.2 71)) (G.2.1 (g.2.2 72)) (G.1 21) (G.1 22) (G.1 23) ls FR.rf rfl rfl rfl rfl rfl (lv_sub hl [] rfl) hv hH hS

def F_X0_goers_78 : Nat → Int32 → Int32 → Int32 → Int32 → (Nat → Int32) → (Nat → Int32) → (Nat → Int32) → Int32 → Int32
  | 0, _, y4, _, _, _, _, _, _ => y4
  | n + 1, y2, y4, y5, y6, yr0, yr1, yr2, yn20 => (if (24 : Int32) ≤ y6 then y4 else (if (y5 &&& ((1 : Int32) <<< (y6 &&& 31))) = (0 : Int32) then (F_X0_goers_78 n y2 y4 y5 (y6 + (1 : Int32)) yr0 yr1 yr2 yn20) else (if (F_X10_mountAt yr0 y6 y2) = (24 : Int32) then (F_X0_goers_78 n y2 y4 y5 (y6 + (1 : Int32)) yr0 yr1 yr2 yn20) else (if (F_X10_childrenOf yr0 (F_X10_mountAt yr0 y6 y2)) = (0 : Int32) then (F_X0_goers_78 n y2 (y4 ||| ((1 : Int32) <<< ((F_X10_mountAt yr0 y6 y2) &&& 31))) y5 (y6 + (1 : Int32)) yr0 yr1 yr2 yn20) else (F_X0_goers_78 n y2 y4 y5 (y6 + (1 : Int32)) yr0 yr1 yr2 yn20)))))
def F_X0_goers (r0 : Nat → Int32) (r1 : Nat → Int32) (r2 : Nat → Int32) (m20 : Int32) (a0 : Int32) (a1 : Int32) : Int32 := (if (F_X10_hasPlace m20 a0 a1) = (0 : Int32) then (-1 : Int32) else (if (F_X10_mountAt r0 a0 a1) = (24 : Int32) then (-2 : Int32) else (if (F_X10_childrenOf r0 (F_X10_mountAt r0 a0 a1)) = (0 : Int32) then (F_X0_goers_78 26 a1 ((1 : Int32) <<< ((F_X10_mountAt r0 a0 a1) &&& 31)) ((F_X10_spreadOf r1 r2 a0) &&& (F_X8_letting_z m20 a1)) (0 : Int32) r0 r1 r2 m20) else (-3 : Int32))))
set_option maxHeartbeats 4000000 in
set_option maxRecDepth 100000 in
theorem c_X0_goers (l : Launch) (g : Gx) (Ty : TyM) (G : Gh) (h0 : Nat) (a0 : Int32) (a1 : Int32) (k_h0 : Ty h0 = some (10, 0)) (h24 : G.1 24 = 0) : Met l yX0_goers (wsG yX0_goers cX0_goers 8 (some .int)) ({ frames := 4, cells := 0, slots := 0, locals := 92 }) (PcH g Ty G [.ref h0, .int a0, .int a1]) (vp_Si (fun r => r = F_X0_goers (G.2.1 (g.2.2 70)) (G.2.1 (g.2.2 71)) (G.2.1 (g.2.2 72)) (G.1 20) a0 a1)) 0 0 (fun _ => False) := by
  refine Met.ofW (cc := cX0_goers) (maxL := 8) (ret := (some .int)) (by decide) rfl ?_
  intro p e s m args below meth c s₁ B hml hv
  obtain ⟨rfl, hK, hH⟩ := hv
  have hx := B.exec
  have hb := B.bytes
  have hr := B.returns
  have hts := atoms_spec (ws := (wsG yX0_goers cX0_goers 8 (some .int))) B.pre
  have hG : ∀ w ∈ GW, w.before ([.ref h0, .int a0, .int a1] : List Value).toArray s = true := fun w h => hts w (List.mem_cons_of_mem _ h)
  have hown : s.vm.findClass RX0 = some m.cls := findClass_of_methodNamed B.named
  have hlocks := B.notSynchronized
  have hl := lv_entry [.ref h0, .int a0, .int a1] (n := 8) (Nat.le_of_ble_eq_true rfl)
  rw [lg_entry_eq]
  generalize (lg_sl [.ref h0, .int a0, .int a1] ++ List.replicate (8 - (lg_sl [.ref h0, .int a0, .int a1]).length) Slot.unset).toArray = ls at hl ⊢
  have hl : lv_has ls 8 [(0, .ref h0), (1, .int a0), (2, .int a1)] := hl
  have hv : (if (F_X10_hasPlace (G.1 20) a0 a1) = (0 : Int32) then (-1 : Int32) else (if (F_X10_mountAt (G.2.1 (g.2.2 70)) a0 a1) = (24 : Int32) then (-2 : Int32) else (if (F_X10_childrenOf (G.2.1 (g.2.2 70)) (F_X10_mountAt (G.2.1 (g.2.2 70)) a0 a1)) = (0 : Int32) then (F_X0_goers_78 26 a1 ((1 : Int32) <<< ((F_X10_mountAt (G.2.1 (g.2.2 70)) a0 a1) &&& 31)) ((F_X10_spreadOf (G.2.1 (g.2.2 71)) (G.2.1 (g.2.2 72)) a0) &&& (F_X8_letting_z (G.1 20) a1)) (0 : Int32) (G.2.1 (g.2.2 70)) (G.2.1 (g.2.2 71)) (G.2.1 (g.2.2 72)) (G.1 20)) else (-3 : Int32)))) = F_X0_goers (G.2.1 (g.2.2 70)) (G.2.1 (g.2.2 71)) (G.2.1 (g.2.2 72)) (G.1 20) a0 a1 := rfl
  have L_78 : ∀ (n_78 : Nat) (y4_78 : Int32) (y5_78 : Int32) (y6_78 : Int32) (ls : Array Slot), rgI (0) (24) y6_78 → (24 - (y6_78).toInt).toNat < n_78 → lv_has ls 8 [(0, .ref h0), (2, .int a1), (4, .int y4_78), (5, .int y5_78), (6, .int y6_78)] → (F_X0_goers_78 n_78 a1 y4_78 y5_78 y6_78 (G.2.1 (g.2.2 70)) (G.2.1 (g.2.2 71)) (G.2.1 (g.2.2 72)) (G.1 20)) = F_X0_goers (G.2.1 (g.2.2 70)) (G.2.1 (g.2.2 71)) (G.2.1 (g.2.2 72)) (G.1 20) a0 a1 → Wm p l e (wsG yX0_goers cX0_goers 8 (some .int)) ({ frames := 4, cells := 0, slots := 0, locals := 92 }) s m [.ref h0, .int a0, .int a1] below meth c s.heap [] (0) (0) (vp_Si (fun r => r = F_X0_goers (G.2.1 (g.2.2 70)) (G.2.1 (g.2.2 71)) (G.2.1 (g.2.2 72)) (G.1 20) a0 a1)) 0 0 (fun _ => False) (F0 m 78 ls []) := by
    intro n_78
    induction n_78 with
    | zero => intro y4_78 y5_78 y6_78 ls ry6_78 hm; exact absurd hm (Nat.not_lt_zero _)
    | succ n_78 ih_78 =>
      intro y4_78 y5_78 y6_78 ls ry6_78 hm_78 hl hv
      have L_135 : ∀ (y4_135 : Int32) (ls : Array Slot), rgI (0) (23) y6_78 → lv_has ls 8 [(0, .ref h0), (2, .int a1), (4, .int y4_135), (5, .int y5_78), (6, .int y6_78)] → (F_X0_goers_78 n_78 a1 y4_135 y5_78 (y6_78 + (1 : Int32)) (G.2.1 (g.2.2 70)) (G.2.1 (g.2.2 71)) (G.2.1 (g.2.2 72)) (G.1 20)) = F_X0_goers (G.2.1 (g.2.2 70)) (G.2.1 (g.2.2 71)) (G.2.1 (g.2.2 72)) (G.1 20) a0 a1 → Wm p l e (wsG yX0_goers cX0_goers 8 (some .int)) ({ frames := 4, cells := 0, slots := 0, locals := 92 }) s m [.ref h0, .int a0, .int a1] below meth c s.heap [] (0) (0) (vp_Si (fun r => r = F_X0_goers (G.2.1 (g.2.2 70)) (G.2.1 (g.2.2 71)) (G.2.1 (g.2.2 72)) (G.1 20) a0 a1)) 0 0 (fun _ => False) (F0 m 135 ls []) := by
        intro y4_135 ls ry6_135 hl hv
        obtain ⟨x_1, ex_1⟩ : ∃ y : Int32, y = y6_78 + 1 := ⟨_, rfl⟩
        try rw [← ex_1] at hv
        have rx_1 : rgI (1) (24) x_1 := by rw [ex_1]; exact rg_w (rg_add ry6_135 rl_1 (by decide) (by decide)) (by decide) (by decide)
        have qx_1 : x_1.toInt = (y6_78 : Int32).toInt + 1 := by rw [ex_1]; exact rg_addE ry6_135 rl_1 (by decide) (by decide)
        refine lv_iinc (v := x_1) (lv' := [(6, .int x_1), (0, .ref h0), (2, .int a1), (4, .int y4_135), (5, .int y5_78)]) hx hb dX0_goers_135 hl (k := 4) rfl (by rw [ex_1]; rfl) (by decide) rfl (fun ls hl => ?_)
        refine lv_goto (tgt := 78) hx hb dX0_goers_138 (by decide) ?_
        exact ih_78 y4_135 y5_78 x_1 ls (rg_w rx_1 (by decide) (by decide)) (by have h1 := qx_1; have h2 := ry6_135.1; have h3 := ry6_135.2; have h4 := hm_78; omega) (lv_sub hl [1, 2, 3, 4, 0] rfl) hv
      rw [F_X0_goers_78] at hv
      refine lv_iload hx hb dX0_goers_78 (lv_at hl 4 rfl) ?_
      refine lv_bipush (v := 24) hx hb dX0_goers_80 (by decide) ?_
      refine lv_icmp_ge (tgt := 141) hx hb dX0_goers_82 (by decide) (fun c_2 => ?_) (fun c_2 => ?_)
      · rw [if_pos c_2] at hv
        have r_3 : rgI (24) (24) y6_78 := rg_w (rg_leR rl_24 ry6_78 c_2) (by decide) (by decide)
        refine lv_iload hx hb dX0_goers_141 (lv_at hl 2 rfl) ?_
        exact W.iret hx hb hr (fun t ht hW => ⟨y4_78, rfl, hv, ht⟩) (fun q h => by cases h) dX0_goers_143
      · rw [if_neg c_2] at hv
        have r_4 : rgI (0) (23) y6_78 := rg_w (rg_ltL ry6_78 rl_24 (nle_lt c_2)) (by decide) (by decide)
        refine lv_iload hx hb dX0_goers_85 (lv_at hl 3 rfl) ?_
        refine lv_iconst (v := 1) hx hb dX0_goers_87 (by decide) ?_
        refine lv_iload hx hb dX0_goers_88 (lv_at hl 4 rfl) ?_
        refine lv_ishl hx hb dX0_goers_90 ?_
        refine lv_topi (fun x_5 ex_5 => ?_)
        try rw [← ex_5] at hv
        refine lv_iand hx hb dX0_goers_91 ?_
        refine lv_topi (fun x_6 ex_6 => ?_)
        try rw [← ex_6] at hv
        refine lv_if_eq (tgt := 135) hx hb dX0_goers_92 (by decide) (fun c_7 => ?_) (fun c_7 => ?_)
        · rw [if_pos c_7] at hv
          have r_8 : rgI (0) (0) x_6 := rg_w (rg_eq rl_0 c_7) (by decide) (by decide)
          exact L_135 y4_78 ls r_4 (lv_sub hl [0, 1, 2, 3, 4] rfl) hv
        · rw [if_neg c_7] at hv
          refine lv_aload_n hx hb dX0_goers_95 rfl (lv_at hl 0 rfl) ?_
          obtain ⟨_, ⟨rfl, kq_10, kq_11, kq_12⟩, o_c_9⟩ := hH h0 _ k_h0
          refine hg_get hx hb hG igX0 hown hK o_c_9 rfl 0 (by decide) (hG _ mw_239) rfl dX0_goers_96 ?_
          refine lv_iload hx hb dX0_goers_99 (lv_at hl 4 rfl) ?_
          refine lv_iload_n hx hb dX0_goers_101 rfl (lv_at hl 1 rfl) ?_
          obtain ⟨_, ⟨rfl, kq_14, kq_15, kq_16, t_21⟩, o_c_13⟩ := hH (g.2.2 0) _ kq_10
          refine vp_callSi (W.runV (As := [.int y6_78, .int a1]) (rest := []) ⟨hx, hb, hml, hown, hts⟩ (c_X10_mountAt l g Ty G (g.2.2 0) y6_78 a1 kq_10) (cwV 2 hts (gwV mw_778 mw_579 mw_580 mw_77 mw_581) rfl rfl rfl hv_X10_mountAt ⟨Nat.le_of_ble_eq_true rfl, Nat.le_of_ble_eq_true rfl⟩) ⟨PcH_blind, hg_recv hK o_c_13 rfl, PcH_pre hK hH⟩ rfl rfl hl.1 rfl (lv_room (Nat.le_of_ble_eq_true rfl)) dX0_goers_102 ⟨Nat.zero_le _, Nat.zero_le _⟩) (fun x_22 hx_22 => ?_)
          have rx_22 : rgI (0) (24) x_22 := hx_22.1
          try rw [← hx_22.2] at hv
          have ex_23 : x_22 = F_X10_mountAt (G.2.1 (g.2.2 70)) y6_78 a1 := hx_22.2
          try rw [← ex_23] at hv
          refine lv_istore (lv' := [(7, .int x_22), (0, .ref h0), (2, .int a1), (4, .int y4_78), (5, .int y5_78), (6, .int y6_78)]) hx hb dX0_goers_105 hl (by decide) rfl (fun ls hl => ?_)
          refine lv_iload hx hb dX0_goers_107 (lv_at hl 0 rfl) ?_
          refine lv_bipush (v := 24) hx hb dX0_goers_109 (by decide) ?_
          refine lv_icmp_eq (tgt := 135) hx hb dX0_goers_111 (by decide) (fun c_24 => ?_) (fun c_24 => ?_)
          · rw [if_pos c_24] at hv
            have r_25 : rgI (24) (24) x_22 := rg_w (rg_eq rl_24 c_24) (by decide) (by decide)
            exact L_135 y4_78 ls r_4 (lv_sub hl [1, 2, 3, 4, 5] rfl) hv
          · rw [if_neg c_24] at hv
            have r_26 : rgI (0) (23) x_22 := rg_w (rg_neR rx_22 rl_24 c_24) (by decide) (by decide)
            refine lv_aload_n hx hb dX0_goers_114 rfl (lv_at hl 1 rfl) ?_
            refine hg_get hx hb hG igX0 hown hK o_c_9 rfl 0 (by decide) (hG _ mw_239) rfl dX0_goers_115 ?_
            refine lv_iload hx hb dX0_goers_118 (lv_at hl 0 rfl) ?_
            refine vp_callSi (W.runV (As := [.int x_22]) (rest := []) ⟨hx, hb, hml, hown, hts⟩ (c_X10_childrenOf l g Ty G (g.2.2 0) x_22 kq_10) (cwV 1 hts (gwV mw_831 mw_687 mw_688 mw_77 mw_689) rfl rfl rfl hv_X10_childrenOf ⟨Nat.le_of_ble_eq_true rfl, Nat.le_of_ble_eq_true rfl⟩) ⟨PcH_blind, hg_recv hK o_c_13 rfl, PcH_pre hK hH⟩ rfl rfl hl.1 rfl (lv_room (Nat.le_of_ble_eq_true rfl)) dX0_goers_120 ⟨Nat.zero_le _, Nat.zero_le _⟩) (fun x_27 hx_27 => ?_)
            try rw [← hx_27] at hv
            have ex_28 : x_27 = F_X10_childrenOf (G.2.1 (g.2.2 70)) x_22 := hx_27
            try rw [← ex_28] at hv
            refine lv_if_ne (tgt := 135) hx hb dX0_goers_123 (by decide) (fun c_29 => ?_) (fun c_29 => ?_)
            · rw [if_neg c_29] at hv
              exact L_135 y4_78 ls r_4 (lv_sub hl [1, 2, 3, 4, 5] rfl) hv
            · rw [if_pos c_29] at hv
              have r_30 : rgI (0) (0) x_27 := rg_w (rg_eq rl_0 c_29) (by decide) (by decide)
              refine lv_iload hx hb dX0_goers_126 (lv_at hl 3 rfl) ?_
              refine lv_iconst (v := 1) hx hb dX0_goers_128 (by decide) ?_
              refine lv_iload hx hb dX0_goers_129 (lv_at hl 0 rfl) ?_
              refine lv_ishl hx hb dX0_goers_131 ?_
              refine lv_topi (fun x_31 ex_31 => ?_)
              try rw [← ex_31] at hv
              refine lv_ior hx hb dX0_goers_132 ?_
              refine lv_topi (fun x_32 ex_32 => ?_)
              try rw [← ex_32] at hv
              refine lv_istore (lv' := [(4, .int x_32), (7, .int x_22), (0, .ref h0), (2, .int a1), (5, .int y5_78), (6, .int y6_78)]) hx hb dX0_goers_133 hl (by decide) rfl (fun ls hl => ?_)
              exact L_135 x_32 ls r_4 (lv_sub hl [2, 3, 0, 4, 5] rfl) hv
  refine lv_aload_n hx hb dX0_goers_0 rfl (lv_at hl 0 rfl) ?_
  obtain ⟨_, ⟨rfl, kq_34, kq_35, kq_36⟩, o_c_33⟩ := hH h0 _ k_h0
  refine hg_get hx hb hG igX0 hown hK o_c_33 rfl 0 (by decide) (hG _ mw_239) rfl dX0_goers_1 ?_
  refine lv_iload_n hx hb dX0_goers_4 rfl (lv_at hl 1 rfl) ?_
  refine lv_iload_n hx hb dX0_goers_5 rfl (lv_at hl 2 rfl) ?_
  obtain ⟨_, ⟨rfl, kq_38, kq_39, kq_40, t_45⟩, o_c_37⟩ := hH (g.2.2 0) _ kq_34
  refine vp_callSi (W.runV (As := [.int a0, .int a1]) (rest := []) ⟨hx, hb, hml, hown, hts⟩ (c_X10_hasPlace l g Ty G (g.2.2 0) a0 a1 kq_34) (cwV 2 hts (gwV mw_640 mw_641 mw_642 mw_77 mw_643) rfl rfl rfl hv_X10_hasPlace ⟨Nat.le_of_ble_eq_true rfl, Nat.le_of_ble_eq_true rfl⟩) ⟨PcH_blind, hg_recv hK o_c_37 rfl, PcH_pre hK hH⟩ rfl rfl hl.1 rfl (lv_room (Nat.le_of_ble_eq_true rfl)) dX0_goers_6 ⟨Nat.zero_le _, Nat.zero_le _⟩) (fun x_46 hx_46 => ?_)
  have rx_46 : rgI (0) (1) x_46 := hx_46.1
  try rw [← hx_46.2.2] at hv
  have ex_47 : x_46 = F_X10_hasPlace (G.1 20) a0 a1 := hx_46.2.2
  try rw [← ex_47] at hv
  refine lv_if_ne (tgt := 14) hx hb dX0_goers_9 (by decide) (fun c_48 => ?_) (fun c_48 => ?_)
  · rw [if_neg c_48] at hv
    have r_49 : rgI (1) (1) x_46 := rg_w (rg_neL rx_46 rl_0 c_48) (by decide) (by decide)
    have r_50 : rgI (0) (23) a0 := rg_w (hx_46.2.1.resolve_left c_48) (by decide) (by decide)
    refine lv_aload_n hx hb dX0_goers_14 rfl (lv_at hl 0 rfl) ?_
    refine hg_get hx hb hG igX0 hown hK o_c_33 rfl 0 (by decide) (hG _ mw_239) rfl dX0_goers_15 ?_
    refine lv_iload_n hx hb dX0_goers_18 rfl (lv_at hl 1 rfl) ?_
    refine lv_iload_n hx hb dX0_goers_19 rfl (lv_at hl 2 rfl) ?_
    refine vp_callSi (W.runV (As := [.int a0, .int a1]) (rest := []) ⟨hx, hb, hml, hown, hts⟩ (c_X10_mountAt l g Ty G (g.2.2 0) a0 a1 kq_34) (cwV 2 hts (gwV mw_778 mw_579 mw_580 mw_77 mw_581) rfl rfl rfl hv_X10_mountAt ⟨Nat.le_of_ble_eq_true rfl, Nat.le_of_ble_eq_true rfl⟩) ⟨PcH_blind, hg_recv hK o_c_37 rfl, PcH_pre hK hH⟩ rfl rfl hl.1 rfl (lv_room (Nat.le_of_ble_eq_true rfl)) dX0_goers_20 ⟨Nat.zero_le _, Nat.zero_le _⟩) (fun x_51 hx_51 => ?_)
    have rx_51 : rgI (0) (24) x_51 := hx_51.1
    try rw [← hx_51.2] at hv
    have ex_52 : x_51 = F_X10_mountAt (G.2.1 (g.2.2 70)) a0 a1 := hx_51.2
    try rw [← ex_52] at hv
    refine lv_istore_n (lv' := [(3, .int x_51), (0, .ref h0), (1, .int a0), (2, .int a1)]) hx hb dX0_goers_23 rfl hl (by decide) rfl (fun ls hl => ?_)
    refine lv_iload_n hx hb dX0_goers_24 rfl (lv_at hl 0 rfl) ?_
    refine lv_bipush (v := 24) hx hb dX0_goers_25 (by decide) ?_
    refine lv_icmp_ne (tgt := 33) hx hb dX0_goers_27 (by decide) (fun c_53 => ?_) (fun c_53 => ?_)
    · rw [if_neg c_53] at hv
      have r_54 : rgI (0) (23) x_51 := rg_w (rg_neR rx_51 rl_24 c_53) (by decide) (by decide)
      refine lv_aload_n hx hb dX0_goers_33 rfl (lv_at hl 1 rfl) ?_
      refine hg_get hx hb hG igX0 hown hK o_c_33 rfl 0 (by decide) (hG _ mw_239) rfl dX0_goers_34 ?_
      refine lv_iload_n hx hb dX0_goers_37 rfl (lv_at hl 0 rfl) ?_
      refine vp_callSi (W.runV (As := [.int x_51]) (rest := []) ⟨hx, hb, hml, hown, hts⟩ (c_X10_childrenOf l g Ty G (g.2.2 0) x_51 kq_34) (cwV 1 hts (gwV mw_831 mw_687 mw_688 mw_77 mw_689) rfl rfl rfl hv_X10_childrenOf ⟨Nat.le_of_ble_eq_true rfl, Nat.le_of_ble_eq_true rfl⟩) ⟨PcH_blind, hg_recv hK o_c_37 rfl, PcH_pre hK hH⟩ rfl rfl hl.1 rfl (lv_room (Nat.le_of_ble_eq_true rfl)) dX0_goers_38 ⟨Nat.zero_le _, Nat.zero_le _⟩) (fun x_55 hx_55 => ?_)
      try rw [← hx_55] at hv
      have ex_56 : x_55 = F_X10_childrenOf (G.2.1 (g.2.2 70)) x_51 := hx_55
      try rw [← ex_56] at hv
      refine lv_if_eq (tgt := 47) hx hb dX0_goers_41 (by decide) (fun c_57 => ?_) (fun c_57 => ?_)
      · rw [if_pos c_57] at hv
        have r_58 : rgI (0) (0) x_55 := rg_w (rg_eq rl_0 c_57) (by decide) (by decide)
        refine lv_iconst (v := 1) hx hb dX0_goers_47 (by decide) ?_
        refine lv_iload_n hx hb dX0_goers_48 rfl (lv_at hl 0 rfl) ?_
        refine lv_ishl hx hb dX0_goers_49 ?_
        refine lv_topi (fun x_59 ex_59 => ?_)
        try rw [← ex_59] at hv
        refine lv_istore (lv' := [(4, .int x_59), (3, .int x_51), (0, .ref h0), (1, .int a0), (2, .int a1)]) hx hb dX0_goers_50 hl (by decide) rfl (fun ls hl => ?_)
        refine lv_aload_n hx hb dX0_goers_52 rfl (lv_at hl 2 rfl) ?_
        refine hg_get hx hb hG igX0 hown hK o_c_33 rfl 0 (by decide) (hG _ mw_239) rfl dX0_goers_53 ?_
        refine lv_iload_n hx hb dX0_goers_56 rfl (lv_at hl 3 rfl) ?_
        refine vp_callSi (W.runV (As := [.int a0]) (rest := []) ⟨hx, hb, hml, hown, hts⟩ (c_X10_spreadOf l g Ty G (g.2.2 0) a0 kq_34) (cwV 1 hts (gwV mw_649 mw_650 mw_651 mw_77 mw_652) rfl rfl rfl hv_X10_spreadOf ⟨Nat.le_of_ble_eq_true rfl, Nat.le_of_ble_eq_true rfl⟩) ⟨PcH_blind, hg_recv hK o_c_37 rfl, PcH_pre hK hH⟩ rfl rfl hl.1 rfl (lv_room (Nat.le_of_ble_eq_true rfl)) dX0_goers_57 ⟨Nat.zero_le _, Nat.zero_le _⟩) (fun x_60 hx_60 => ?_)
        try rw [← hx_60] at hv
        have ex_61 : x_60 = F_X10_spreadOf (G.2.1 (g.2.2 71)) (G.2.1 (g.2.2 72)) a0 := hx_60
        try rw [← ex_61] at hv
        refine lv_aload_n hx hb dX0_goers_60 rfl (lv_at hl 2 rfl) ?_
        refine hg_get hx hb hG igX0 hown hK o_c_33 rfl 1 (by decide) (hG _ mw_240) rfl dX0_goers_61 ?_
        refine lv_aload_n hx hb dX0_goers_64 rfl (lv_at hl 2 rfl) ?_
        refine hg_get hx hb hG igX0 hown hK o_c_33 rfl 0 (by decide) (hG _ mw_239) rfl dX0_goers_65 ?_
        refine lv_iload_n hx hb dX0_goers_68 rfl (lv_at hl 4 rfl) ?_
        obtain ⟨_, ⟨q_63, q_65, q_66, q_67, q_68, q_69, q_70, q_71, q_72, rfl, kq_63, kq_65, kq_71, kq_72, rq_64, rq_67, t_73⟩, o_c_62⟩ := hH (g.2.2 6) _ kq_35
        refine vp_callSi (W.runV (As := [.ref (g.2.2 0), .int a1]) (rest := [.int x_60]) ⟨hx, hb, hml, hown, hts⟩ (c_X8_letting_z l g Ty G (g.2.2 6) (g.2.2 0) a1 kq_35 kq_34 h24) (cwV 2 hts (gwV mw_669 mw_670 mw_671 mw_81 mw_672) rfl rfl rfl hv_X8_letting ⟨Nat.le_of_ble_eq_true rfl, Nat.le_of_ble_eq_true rfl⟩) ⟨PcH_blind, hg_recv hK o_c_62 rfl, PcH_pre hK hH⟩ rfl rfl hl.1 rfl (lv_room (Nat.le_of_ble_eq_true rfl)) dX0_goers_69 ⟨Nat.zero_le _, Nat.zero_le _⟩) (fun x_74 hx_74 => ?_)
        try rw [← hx_74] at hv
        have ex_75 : x_74 = F_X8_letting_z (G.1 20) a1 := hx_74
        try rw [← ex_75] at hv
        refine lv_iand hx hb dX0_goers_72 ?_
        refine lv_topi (fun x_76 ex_76 => ?_)
        try rw [← ex_76] at hv
        refine lv_istore (lv' := [(5, .int x_76), (4, .int x_59), (3, .int x_51), (0, .ref h0), (1, .int a0), (2, .int a1)]) hx hb dX0_goers_73 hl (by decide) rfl (fun ls hl => ?_)
        refine lv_iconst (v := 0) hx hb dX0_goers_75 (by decide) ?_
        refine lv_istore (lv' := [(6, .int 0), (5, .int x_76), (4, .int x_59), (3, .int x_51), (0, .ref h0), (1, .int a0), (2, .int a1)]) hx hb dX0_goers_76 hl (by decide) rfl (fun ls hl => ?_)
        exact L_78 26 x_59 x_76 0 ls (rg_w rl_0 (by decide) (by decide)) (by decide) (lv_sub hl [4, 6, 2, 1, 0] rfl) hv
      · rw [if_neg c_57] at hv
        refine lv_bipush (v := (-3)) hx hb dX0_goers_44 (by decide) ?_
        exact W.iret hx hb hr (fun t ht hW => ⟨(-3), rfl, hv, ht⟩) (fun q h => by cases h) dX0_goers_46
    · rw [if_pos c_53] at hv
      have r_77 : rgI (24) (24) x_51 := rg_w (rg_eq rl_24 c_53) (by decide) (by decide)
      refine lv_bipush (v := (-2)) hx hb dX0_goers_30 (by decide) ?_
      exact W.iret hx hb hr (fun t ht hW => ⟨(-2), rfl, hv, ht⟩) (fun q h => by cases h) dX0_goers_32
  · rw [if_pos c_48] at hv
    have r_78 : rgI (0) (0) x_46 := rg_w (rg_eq rl_0 c_48) (by decide) (by decide)
    refine lv_iconst (v := (-1)) hx hb dX0_goers_12 (by decide) ?_
    exact W.iret hx hb hr (fun t ht hW => ⟨(-1), rfl, hv, ht⟩) (fun q h => by cases h) dX0_goers_13

def F_X0_unmount_16 : Nat → Int32 → Int32 → Int32 → (Nat → Int32) → (Nat → Int32) → (Nat → Int32) → Int32 → Int32 → Int32 → (Nat → Int32) × (Nat → Int32) × (Nat → Int32) × Int32 × Int32 × Int32
  | 0, _, _, _, yr0, yr1, yr2, yn20, yn21, yn22 => (yr0, yr1, yr2, yn20, yn21, yn22)
  | n + 1, y2, y3, y4, yr0, yr1, yr2, yn20, yn21, yn22 => (if (24 : Int32) ≤ y4 then (yr0, yr1, yr2, yn20, yn21, yn22) else (if (F_X10_mountAt yr0 y4 y2) = (24 : Int32) then (F_X0_unmount_16 n y2 y3 (y4 + (1 : Int32)) yr0 yr1 yr2 yn20 yn21 yn22) else (if (y3 &&& ((1 : Int32) <<< ((F_X10_mountAt yr0 y4 y2) &&& 31))) = (0 : Int32) then (F_X0_unmount_16 n y2 y3 (y4 + (1 : Int32)) yr0 yr1 yr2 yn20 yn21 yn22) else (tu5 (F_X10_remove yr0 yr1 yr2 yn20 yn21 (F_X10_mountAt yr0 y4 y2)) (fun z19 z20 z21 z22 z23 => (F_X0_unmount_16 n y2 y3 (y4 + (1 : Int32)) z19 z20 z21 z22 z23 yn22))))))
def F_X0_unmount (r0 : Nat → Int32) (r1 : Nat → Int32) (r2 : Nat → Int32) (m20 : Int32) (m21 : Int32) (m22 : Int32) (a0 : Int32) (a1 : Int32) : Int32 × (Nat → Int32) × (Nat → Int32) × (Nat → Int32) × Int32 × Int32 × Int32 := (if (0 : Int32) ≤ (F_X0_goers r0 r1 r2 m20 a0 a1) then (tu6 (F_X0_unmount_16 26 a1 (F_X0_goers r0 r1 r2 m20 a0 a1) (0 : Int32) r0 r1 r2 m20 m21 m22) (fun z24 z25 z26 z27 z28 z29 => ((F_J6_bitCount_0f7a4 (F_X0_goers r0 r1 r2 m20 a0 a1)), z24, z25, z26, z27, z28, (z29 + (1 : Int32))))) else ((F_X0_goers r0 r1 r2 m20 a0 a1), r0, r1, r2, m20, m21, m22))
set_option maxHeartbeats 4000000 in
set_option maxRecDepth 100000 in
theorem c_X0_unmount (l : Launch) (g : Gx) (Ty : TyM) (G : Gh) (sz : Nat) (h0 : Nat) (a0 : Int32) (a1 : Int32) (k_h0 : Ty h0 = some (10, 0)) (hD1 : LD1 g) (h24 : G.1 24 = 0) : Met l yX0_unmount (wsG yX0_unmount cX0_unmount 6 (some .int)) ({ frames := 5, cells := 0, slots := 0, locals := 119 }) (PcT g Ty G sz [.ref h0, .int a0, .int a1]) (QwI g Ty sz (fun r u => u.1 = Ty ∧ FR [20, 21, 22] [(g.2.2 70), (g.2.2 71), (g.2.2 72)] [] G u.2 ∧ F_X0_unmount (G.2.1 (g.2.2 70)) (G.2.1 (g.2.2 71)) (G.2.1 (g.2.2 72)) (G.1 20) (G.1 21) (G.1 22) a0 a1 = (r, (u.2.2.1 (g.2.2 70)), (u.2.2.1 (g.2.2 71)), (u.2.2.1 (g.2.2 72)), (u.2.1 20), (u.2.1 21), (u.2.1 22)))) 0 0 (AF Ty sz) := by
  refine Met.ofW (cc := cX0_unmount) (maxL := 6) (ret := (some .int)) (by decide) rfl ?_
  intro p e s m args below meth c s₁ B hml hv
  obtain ⟨rfl, hsz, hK, hH⟩ := hv
  subst hsz
  have hx := B.exec
  have hb := B.bytes
  have hr := B.returns
  have hts := atoms_spec (ws := (wsG yX0_unmount cX0_unmount 6 (some .int))) B.pre
  have hG : ∀ w ∈ GW, w.before ([.ref h0, .int a0, .int a1] : List Value).toArray s = true := fun w h => hts w (List.mem_cons_of_mem _ h)
  have hown : s.vm.findClass RX0 = some m.cls := findClass_of_methodNamed B.named
  have hlocks := B.notSynchronized
  have hl := lv_entry [.ref h0, .int a0, .int a1] (n := 6) (Nat.le_of_ble_eq_true rfl)
  rw [lg_entry_eq]
  generalize (lg_sl [.ref h0, .int a0, .int a1] ++ List.replicate (6 - (lg_sl [.ref h0, .int a0, .int a1]).length) Slot.unset).toArray = ls at hl ⊢
  have hl : lv_has ls 6 [(0, .ref h0), (1, .int a0), (2, .int a1)] := hl
  have hv : (if (0 : Int32) ≤ (F_X0_goers (G.2.1 (g.2.2 70)) (G.2.1 (g.2.2 71)) (G.2.1 (g.2.2 72)) (G.1 20) a0 a1) then (tu6 (F_X0_unmount_16 26 a1 (F_X0_goers (G.2.1 (g.2.2 70)) (G.2.1 (g.2.2 71)) (G.2.1 (g.2.2 72)) (G.1 20) a0 a1) (0 : Int32) (G.2.1 (g.2.2 70)) (G.2.1 (g.2.2 71)) (G.2.1 (g.2.2 72)) (G.1 20) (G.1 21) (G.1 22)) (fun z13 z14 z15 z16 z17 z18 => ((F_J6_bitCount_0f7a4 (F_X0_goers (G.2.1 (g.2.2 70)) (G.2.1 (g.2.2 71)) (G.2.1 (g.2.2 72)) (G.1 20) a0 a1)), z13, z14, z15, z16, z17, (z18 + (1 : Int32))))) else ((F_X0_goers (G.2.1 (g.2.2 70)) (G.2.1 (g.2.2 71)) (G.2.1 (g.2.2 72)) (G.1 20) a0 a1), (G.2.1 (g.2.2 70)), (G.2.1 (g.2.2 71)), (G.2.1 (g.2.2 72)), (G.1 20), (G.1 21), (G.1 22))) = F_X0_unmount (G.2.1 (g.2.2 70)) (G.2.1 (g.2.2 71)) (G.2.1 (g.2.2 72)) (G.1 20) (G.1 21) (G.1 22) a0 a1 := rfl
  have hS : va_S (AF Ty s.heap.size) s.heap s.heap [] := va_S.rf
  have L_16 : ∀ (n_16 : Nat) (H : Heap) (locs : List Loc) (G_16 : Gh) (fl0_16 : Nat → Int32) (fl1_16 : Nat → Int32) (fl2_16 : Nat → Int32) (nl20_16 : Int32) (nl21_16 : Int32) (nl22_16 : Int32) (y3_16 : Int32) (y4_16 : Int32) (ls : Array Slot), FR [20, 21, 22] [(g.2.2 70), (g.2.2 71), (g.2.2 72)] [] G G_16 → G_16.2.1 (g.2.2 70) = fl0_16 → G_16.2.1 (g.2.2 71) = fl1_16 → G_16.2.1 (g.2.2 72) = fl2_16 → G_16.1 20 = nl20_16 → G_16.1 21 = nl21_16 → G_16.1 22 = nl22_16 → rgI (0) (2147483647) y3_16 → rgI (0) (24) y4_16 → (24 - (y4_16).toInt).toNat < n_16 → lv_has ls 6 [(0, .ref h0), (2, .int a1), (3, .int y3_16), (4, .int y4_16)] → (tu6 (F_X0_unmount_16 n_16 a1 y3_16 y4_16 fl0_16 fl1_16 fl2_16 nl20_16 nl21_16 nl22_16) (fun z1 z2 z3 z4 z5 z6 => ((F_J6_bitCount_0f7a4 y3_16), z1, z2, z3, z4, z5, (z6 + (1 : Int32))))) = F_X0_unmount (G.2.1 (g.2.2 70)) (G.2.1 (g.2.2 71)) (G.2.1 (g.2.2 72)) (G.1 20) (G.1 21) (G.1 22) a0 a1 → HT g Ty G_16 H → va_S (AF Ty s.heap.size) s.heap H locs → Wm p l e (wsG yX0_unmount cX0_unmount 6 (some .int)) ({ frames := 5, cells := 0, slots := 0, locals := 119 }) s m [.ref h0, .int a0, .int a1] below meth c H locs (0) (0) (QwI g Ty s.heap.size (fun r u => u.1 = Ty ∧ FR [20, 21, 22] [(g.2.2 70), (g.2.2 71), (g.2.2 72)] [] G u.2 ∧ F_X0_unmount (G.2.1 (g.2.2 70)) (G.2.1 (g.2.2 71)) (G.2.1 (g.2.2 72)) (G.1 20) (G.1 21) (G.1 22) a0 a1 = (r, (u.2.2.1 (g.2.2 70)), (u.2.2.1 (g.2.2 71)), (u.2.2.1 (g.2.2 72)), (u.2.1 20), (u.2.1 21), (u.2.1 22)))) 0 0 (AF Ty s.heap.size) (F0 m 16 ls []) := by
    intro n_16
    induction n_16 with
    | zero => intro H locs G_16 fl0_16 fl1_16 fl2_16 nl20_16 nl21_16 nl22_16 y3_16 y4_16 ls frL_16 efl0_16 efl1_16 efl2_16 enl20_16 enl21_16 enl22_16 ry3_16 ry4_16 hm; exact absurd hm (Nat.not_lt_zero _)
    | succ n_16 ih_16 =>
      intro H locs G_16 fl0_16 fl1_16 fl2_16 nl20_16 nl21_16 nl22_16 y3_16 y4_16 ls frL_16 efl0_16 efl1_16 efl2_16 enl20_16 enl21_16 enl22_16 ry3_16 ry4_16 hm_16 hl hv hH hS
      have L_60 : ∀ (H : Heap) (locs : List Loc) (G_60 : Gh) (fl0_60 : Nat → Int32) (fl1_60 : Nat → Int32) (fl2_60 : Nat → Int32) (nl20_60 : Int32) (nl21_60 : Int32) (nl22_60 : Int32) (ls : Array Slot), FR [20, 21, 22] [(g.2.2 70), (g.2.2 71), (g.2.2 72)] [] G G_60 → G_60.2.1 (g.2.2 70) = fl0_60 → G_60.2.1 (g.2.2 71) = fl1_60 → G_60.2.1 (g.2.2 72) = fl2_60 → G_60.1 20 = nl20_60 → G_60.1 21 = nl21_60 → G_60.1 22 = nl22_60 → rgI (0) (2147483647) y3_16 → rgI (0) (23) y4_16 → lv_has ls 6 [(0, .ref h0), (2, .int a1), (3, .int y3_16), (4, .int y4_16)] → (tu6 (F_X0_unmount_16 n_16 a1 y3_16 (y4_16 + (1 : Int32)) fl0_60 fl1_60 fl2_60 nl20_60 nl21_60 nl22_60) (fun z7 z8 z9 z10 z11 z12 => ((F_J6_bitCount_0f7a4 y3_16), z7, z8, z9, z10, z11, (z12 + (1 : Int32))))) = F_X0_unmount (G.2.1 (g.2.2 70)) (G.2.1 (g.2.2 71)) (G.2.1 (g.2.2 72)) (G.1 20) (G.1 21) (G.1 22) a0 a1 → HT g Ty G_60 H → va_S (AF Ty s.heap.size) s.heap H locs → Wm p l e (wsG yX0_unmount cX0_unmount 6 (some .int)) ({ frames := 5, cells := 0, slots := 0, locals := 119 }) s m [.ref h0, .int a0, .int a1] below meth c H locs (0) (0) (QwI g Ty s.heap.size (fun r u => u.1 = Ty ∧ FR [20, 21, 22] [(g.2.2 70), (g.2.2 71), (g.2.2 72)] [] G u.2 ∧ F_X0_unmount (G.2.1 (g.2.2 70)) (G.2.1 (g.2.2 71)) (G.2.1 (g.2.2 72)) (G.1 20) (G.1 21) (G.1 22) a0 a1 = (r, (u.2.2.1 (g.2.2 70)), (u.2.2.1 (g.2.2 71)), (u.2.2.1 (g.2.2 72)), (u.2.1 20), (u.2.1 21), (u.2.1 22)))) 0 0 (AF Ty s.heap.size) (F0 m 60 ls []) := by
        intro H locs G_60 fl0_60 fl1_60 fl2_60 nl20_60 nl21_60 nl22_60 ls frL_60 efl0_60 efl1_60 efl2_60 enl20_60 enl21_60 enl22_60 ry3_60 ry4_60 hl hv hH hS
        obtain ⟨x_1, ex_1⟩ : ∃ y : Int32, y = y4_16 + 1 := ⟨_, rfl⟩
        try rw [← ex_1] at hv
        have rx_1 : rgI (1) (24) x_1 := by rw [ex_1]; exact rg_w (rg_add ry4_60 rl_1 (by decide) (by decide)) (by decide) (by decide)
        have qx_1 : x_1.toInt = (y4_16 : Int32).toInt + 1 := by rw [ex_1]; exact rg_addE ry4_60 rl_1 (by decide) (by decide)
        refine lv_iinc (v := x_1) (lv' := [(4, .int x_1), (0, .ref h0), (2, .int a1), (3, .int y3_16)]) hx hb dX0_unmount_60 hl (k := 3) rfl (by rw [ex_1]; rfl) (by decide) rfl (fun ls hl => ?_)
        refine lv_goto (tgt := 16) hx hb dX0_unmount_63 (by decide) ?_
        exact ih_16 H locs G_60 fl0_60 fl1_60 fl2_60 nl20_60 nl21_60 nl22_60 y3_16 x_1 ls frL_60 efl0_60 efl1_60 efl2_60 enl20_60 enl21_60 enl22_60 ry3_60 (rg_w rx_1 (by decide) (by decide)) (by have h1 := qx_1; have h2 := ry4_60.1; have h3 := ry4_60.2; have h4 := hm_16; omega) (lv_sub hl [1, 2, 3, 0] rfl) hv hH hS
      rw [F_X0_unmount_16] at hv
      refine lv_iload hx hb dX0_unmount_16 (lv_at hl 3 rfl) ?_
      refine lv_bipush (v := 24) hx hb dX0_unmount_18 (by decide) ?_
      refine lv_icmp_ge (tgt := 66) hx hb dX0_unmount_20 (by decide) (fun c_2 => ?_) (fun c_2 => ?_)
      · rw [if_pos c_2] at hv
        have r_3 : rgI (24) (24) y4_16 := rg_w (rg_leR rl_24 ry4_16 c_2) (by decide) (by decide)
        rw [tu6_eq] at hv
        refine lv_aload_n hx hb dX0_unmount_66 rfl (lv_at hl 0 rfl) ?_
        obtain ⟨_, ⟨rfl, kq_5, kq_6, kq_7⟩, o_c_4⟩ := hH h0 _ k_h0
        refine hg_get hx hb hG igX0 hown hK o_c_4 rfl 0 (by decide) (hG _ mw_239) rfl dX0_unmount_67 ?_
        refine lv_dup hx hb dX0_unmount_70 rfl ?_
        obtain ⟨_, ⟨rfl, kq_9, kq_10, kq_11, t_16⟩, o_c_8⟩ := hH (g.2.2 0) _ kq_5
        refine hg_getN hx hb hG igX10 hown hK o_c_8 rfl 5 (by decide) ((hK.2.1 _ nwf_125).use rfl) rfl dX0_unmount_71 ?_
        rw [enl22_16]
        refine lv_iconst (v := 1) hx hb dX0_unmount_74 (by decide) ?_
        refine lv_iadd hx hb dX0_unmount_75 ?_
        refine lv_topi (fun x_17 ex_17 => ?_)
        try rw [← ex_17] at hv
        refine hg_putN (ty := .int) hx hb hG igX10 tyX10 tyX10_ok nmX10 hown hK hS o_c_8 (AF.of kq_5) rfl 5 (by decide) ((hK.2.1 _ nwf_125).use rfl) rfl (by decide +kernel) rfl rfl (Nat.le_of_ble_eq_true rfl) dX0_unmount_76 (fun H locs o_c_8 hz oq hS => ?_)
        obtain ⟨G_18, eG_18⟩ : ∃ z : Gh, z = gset G_16 22 x_17 := ⟨_, rfl⟩
        have hH : HT g Ty G_18 H := by rw [eG_18]; exact HT.putM 22 x_17 hH kq_5 ⟨rfl, kq_9, kq_10, kq_11, t_16⟩ o_c_8 oq (⟨⟨by decide, by decide⟩, t_16⟩)
        have fr_19 : FR [20, 21, 22] [(g.2.2 70), (g.2.2 71), (g.2.2 72)] [] G G_18 := FR.n frL_16 eG_18 (by decide)
        have u_20 : G_18.1 24 = 0 := by rw [eG_18]; exact (gs_ne (by decide)).trans ((frL_16.1 24 (by decide)).trans h24)
        have u_21 : G_18.1 20 = nl20_16 := by rw [eG_18]; exact (gs_ne (by decide)).trans enl20_16
        have u_22 : G_18.1 21 = nl21_16 := by rw [eG_18]; exact (gs_ne (by decide)).trans enl21_16
        have u_23 : G_18.1 22 = x_17 := by rw [eG_18]; exact gs_eq
        have w_24 : G_18.2.1 (g.2.2 70) = fl0_16 := by rw [eG_18]; exact efl0_16
        have w_25 : G_18.2.1 (g.2.2 71) = fl1_16 := by rw [eG_18]; exact efl1_16
        have w_26 : G_18.2.1 (g.2.2 72) = fl2_16 := by rw [eG_18]; exact efl2_16
        clear oq hz
        refine lv_iload_n hx hb dX0_unmount_79 rfl (lv_at hl 2 rfl) ?_
        refine vp_callSi (W.runS (As := [.int y3_16]) (rest := []) ⟨hx, hb, hml, hown, hts⟩ (c_J6_bitCount_x l g Ty G_18 y3_16 ) (cwSx 1 hts hG (gwC mw_620) mw_99 mw_713 mw_619 rfl rfl rfl hd_J6_bitCount_0f7a4 ⟨Nat.le_of_ble_eq_true rfl, Nat.le_of_ble_eq_true rfl⟩) ⟨PcH_blind, PcH_pre hK hH⟩ rfl rfl hl.1 rfl (lv_room (Nat.le_of_ble_eq_true rfl)) dX0_unmount_80 ⟨Nat.zero_le _, Nat.zero_le _⟩) (fun x_27 hx_27 => ?_)
        have rx_27 : rgI (0) (63) x_27 := hx_27.1
        try rw [← hx_27.2] at hv
        try rw [← hx_27.2] at hv
        exact W.iret hx hb hr (fun t ht hWm => ⟨⟨x_27, (Ty, G_18), rfl, ⟨rfl, ⟨fr_19, hv.symm.trans (by rw [w_24, w_25, w_26, u_21, u_22, u_23])⟩⟩, by show HT g Ty G_18 t.heap; rw [ht]; exact hH⟩, hS.F ht⟩) hS.2.2 dX0_unmount_83
      · rw [if_neg c_2] at hv
        have r_28 : rgI (0) (23) y4_16 := rg_w (rg_ltL ry4_16 rl_24 (nle_lt c_2)) (by decide) (by decide)
        refine lv_aload_n hx hb dX0_unmount_23 rfl (lv_at hl 0 rfl) ?_
        obtain ⟨_, ⟨rfl, kq_30, kq_31, kq_32⟩, o_c_29⟩ := hH h0 _ k_h0
        refine hg_get hx hb hG igX0 hown hK o_c_29 rfl 0 (by decide) (hG _ mw_239) rfl dX0_unmount_24 ?_
        refine lv_iload hx hb dX0_unmount_27 (lv_at hl 3 rfl) ?_
        refine lv_iload_n hx hb dX0_unmount_29 rfl (lv_at hl 1 rfl) ?_
        obtain ⟨_, ⟨rfl, kq_34, kq_35, kq_36, t_41⟩, o_c_33⟩ := hH (g.2.2 0) _ kq_30
        refine vp_callSi (W.runV (As := [.int y4_16, .int a1]) (rest := []) ⟨hx, hb, hml, hown, hts⟩ (c_X10_mountAt l g Ty G_16 (g.2.2 0) y4_16 a1 kq_30) (cwV 2 hts (gwV mw_778 mw_579 mw_580 mw_77 mw_581) rfl rfl rfl hv_X10_mountAt ⟨Nat.le_of_ble_eq_true rfl, Nat.le_of_ble_eq_true rfl⟩) ⟨PcH_blind, hg_recv hK o_c_33 rfl, PcH_pre hK hH⟩ rfl rfl hl.1 rfl (lv_room (Nat.le_of_ble_eq_true rfl)) dX0_unmount_30 ⟨Nat.zero_le _, Nat.zero_le _⟩) (fun x_42 hx_42 => ?_)
        have rx_42 : rgI (0) (24) x_42 := hx_42.1
        try rw [← hx_42.2] at hv
        have ex_43 : x_42 = F_X10_mountAt fl0_16 y4_16 a1 := hx_42.2.trans (by rw [efl0_16])
        try rw [← ex_43] at hv
        refine lv_istore (lv' := [(5, .int x_42), (0, .ref h0), (2, .int a1), (3, .int y3_16), (4, .int y4_16)]) hx hb dX0_unmount_33 hl (by decide) rfl (fun ls hl => ?_)
        refine lv_iload hx hb dX0_unmount_35 (lv_at hl 0 rfl) ?_
        refine lv_bipush (v := 24) hx hb dX0_unmount_37 (by decide) ?_
        refine lv_icmp_eq (tgt := 60) hx hb dX0_unmount_39 (by decide) (fun c_44 => ?_) (fun c_44 => ?_)
        · rw [if_pos c_44] at hv
          have r_45 : rgI (24) (24) x_42 := rg_w (rg_eq rl_24 c_44) (by decide) (by decide)
          exact L_60 H locs G_16 fl0_16 fl1_16 fl2_16 nl20_16 nl21_16 nl22_16 ls frL_16 efl0_16 efl1_16 efl2_16 enl20_16 enl21_16 enl22_16 ry3_16 r_28 (lv_sub hl [1, 2, 3, 4] rfl) hv hH hS
        · rw [if_neg c_44] at hv
          have r_46 : rgI (0) (23) x_42 := rg_w (rg_neR rx_42 rl_24 c_44) (by decide) (by decide)
          refine lv_iload_n hx hb dX0_unmount_42 rfl (lv_at hl 3 rfl) ?_
          refine lv_iconst (v := 1) hx hb dX0_unmount_43 (by decide) ?_
          refine lv_iload hx hb dX0_unmount_44 (lv_at hl 0 rfl) ?_
          refine lv_ishl hx hb dX0_unmount_46 ?_
          refine lv_topi (fun x_47 ex_47 => ?_)
          try rw [← ex_47] at hv
          refine lv_iand hx hb dX0_unmount_47 ?_
          refine lv_topi (fun x_48 ex_48 => ?_)
          try rw [← ex_48] at hv
          refine lv_if_eq (tgt := 60) hx hb dX0_unmount_48 (by decide) (fun c_49 => ?_) (fun c_49 => ?_)
          · rw [if_pos c_49] at hv
            have r_50 : rgI (0) (0) x_48 := rg_w (rg_eq rl_0 c_49) (by decide) (by decide)
            exact L_60 H locs G_16 fl0_16 fl1_16 fl2_16 nl20_16 nl21_16 nl22_16 ls frL_16 efl0_16 efl1_16 efl2_16 enl20_16 enl21_16 enl22_16 ry3_16 r_28 (lv_sub hl [1, 2, 3, 4] rfl) hv hH hS
          · rw [if_neg c_49] at hv
            refine lv_aload_n hx hb dX0_unmount_51 rfl (lv_at hl 1 rfl) ?_
            refine hg_get hx hb hG igX0 hown hK o_c_29 rfl 0 (by decide) (hG _ mw_239) rfl dX0_unmount_52 ?_
            refine lv_iload hx hb dX0_unmount_55 (lv_at hl 0 rfl) ?_
            refine va_callv (va_runV (As := [.int x_42]) (rest := []) ⟨hx, hb, hml, hown, hts⟩ (c_X10_remove l g Ty G_16 H.size (g.2.2 0) x_42 kq_30 hD1) (cwV 1 hts (gwV mw_832 mw_833 mw_834 mw_77 mw_835) rfl rfl rfl hv_X10_remove ⟨Nat.le_of_ble_eq_true rfl, Nat.le_of_ble_eq_true rfl⟩) ⟨PcT_blind, hg_recv hK o_c_33 rfl, PcT_pre hK hH⟩ rfl rfl hl.1 rfl (lv_room (Nat.le_of_ble_eq_true rfl)) dX0_unmount_57 ⟨Nat.zero_le _, Nat.zero_le _⟩) hS (fun q _ h => AF.mono hS.1 h) (fun q h => AF.mono hS.1 h) (fun ux_51 t H locs ht hvm hx_51 hB hz hk hS => ?_)
            obtain ⟨eTx_51, eGx_51⟩ := hx_51
            obtain ⟨G_52, eG_52⟩ : ∃ z, z = ux_51.2 := ⟨_, rfl⟩
            rw [← eG_52] at eGx_51
            obtain ⟨hfr_53, hex_54⟩ := eGx_51
            have fr_55 : FR [20, 21, 22] [(g.2.2 70), (g.2.2 71), (g.2.2 72)] [] G G_52 := FR.tr frL_16 hfr_53 (by decide) (fun b h => ⟨h.1, h.2.1, h.2.2.1, trivial⟩) (by decide)
            have u_56 : G_52.1 24 = 0 := (hfr_53.1 24 (by decide)).trans ((frL_16.1 24 (by decide)).trans h24)
            have u_57 : G_52.1 22 = nl22_16 := (hfr_53.1 22 (by decide)).trans enl22_16
            obtain ⟨f_58, ef_58⟩ : ∃ z : Nat → Int32, G_52.2.1 (g.2.2 70) = z := ⟨_, rfl⟩
            obtain ⟨f_59, ef_59⟩ : ∃ z : Nat → Int32, G_52.2.1 (g.2.2 71) = z := ⟨_, rfl⟩
            obtain ⟨f_60, ef_60⟩ : ∃ z : Nat → Int32, G_52.2.1 (g.2.2 72) = z := ⟨_, rfl⟩
            obtain ⟨n_61, en_61⟩ : ∃ z : Int32, G_52.1 20 = z := ⟨_, rfl⟩
            obtain ⟨n_62, en_62⟩ : ∃ z : Int32, G_52.1 21 = z := ⟨_, rfl⟩
            have hq_63 : F_X10_remove fl0_16 fl1_16 fl2_16 nl20_16 nl21_16 x_42 = (f_58, f_59, f_60, n_61, n_62) := by have q := hex_54; rw [efl0_16, efl1_16, efl2_16, enl20_16, enl21_16, ef_58, ef_59, ef_60, en_61, en_62] at q; exact q
            rw [hq_63, tu5_eq] at hv
            have hH : HT g Ty G_52 H := by rw [← ht, ← eTx_51, eG_52]; exact hB
            exact L_60 H locs G_52 f_58 f_59 f_60 n_61 n_62 nl22_16 ls fr_55 ef_58 ef_59 ef_60 en_61 en_62 u_57 ry3_16 r_28 (lv_sub hl [1, 2, 3, 4] rfl) hv hH hS
  refine lv_aload_n hx hb dX0_unmount_0 rfl (lv_at hl 0 rfl) ?_
  refine lv_iload_n hx hb dX0_unmount_1 rfl (lv_at hl 1 rfl) ?_
  refine lv_iload_n hx hb dX0_unmount_2 rfl (lv_at hl 2 rfl) ?_
  obtain ⟨_, ⟨rfl, kq_65, kq_66, kq_67⟩, o_c_64⟩ := hH h0 _ k_h0
  refine vp_callSi (W.runV (As := [.int a0, .int a1]) (rest := []) ⟨hx, hb, hml, hown, hts⟩ (c_X0_goers l g Ty G h0 a0 a1 k_h0 h24) (cwV 2 hts (gwV mw_827 mw_828 mw_829 mw_82 mw_830) rfl rfl rfl hv_X0_goers ⟨Nat.le_of_ble_eq_true rfl, Nat.le_of_ble_eq_true rfl⟩) ⟨PcH_blind, hg_recv hK o_c_64 rfl, PcH_pre hK hH⟩ rfl rfl hl.1 rfl (lv_room (Nat.le_of_ble_eq_true rfl)) dX0_unmount_3 ⟨Nat.zero_le _, Nat.zero_le _⟩) (fun x_68 hx_68 => ?_)
  try rw [← hx_68] at hv
  have ex_69 : x_68 = F_X0_goers (G.2.1 (g.2.2 70)) (G.2.1 (g.2.2 71)) (G.2.1 (g.2.2 72)) (G.1 20) a0 a1 := hx_68
  try rw [← ex_69] at hv
  refine lv_istore_n (lv' := [(3, .int x_68), (0, .ref h0), (1, .int a0), (2, .int a1)]) hx hb dX0_unmount_6 rfl hl (by decide) rfl (fun ls hl => ?_)
  refine lv_iload_n hx hb dX0_unmount_7 rfl (lv_at hl 0 rfl) ?_
  refine lv_if_ge (tgt := 13) hx hb dX0_unmount_8 (by decide) (fun c_70 => ?_) (fun c_70 => ?_)
  · rw [if_pos c_70] at hv
    have r_71 : rgI (0) (2147483647) x_68 := rg_w (rg_leR rl_0 (rg_top x_68) c_70) (by decide) (by decide)
    refine lv_iconst (v := 0) hx hb dX0_unmount_13 (by decide) ?_
    refine lv_istore (lv' := [(4, .int 0), (3, .int x_68), (0, .ref h0), (1, .int a0), (2, .int a1)]) hx hb dX0_unmount_14 hl (by decide) rfl (fun ls hl => ?_)
    exact L_16 26 s.heap [] G (G.2.1 (g.2.2 70)) (G.2.1 (g.2.2 71)) (G.2.1 (g.2.2 72)) (G.1 20) (G.1 21) (G.1 22) x_68 0 ls FR.rf rfl rfl rfl rfl rfl rfl r_71 (rg_w rl_0 (by decide) (by decide)) (by decide) (lv_sub hl [2, 4, 1, 0] rfl) hv hH hS
  · rw [if_neg c_70] at hv
    have r_72 : rgI (-2147483648) (-1) x_68 := rg_w (rg_ltL (rg_top x_68) rl_0 (nle_lt c_70)) (by decide) (by decide)
    refine lv_iload_n hx hb dX0_unmount_11 rfl (lv_at hl 0 rfl) ?_
    exact W.iret hx hb hr (fun t ht hWm => ⟨⟨x_68, (Ty, G), rfl, ⟨rfl, ⟨FR.rf, hv.symm⟩⟩, by show HT g Ty G t.heap; rw [ht]; exact hH⟩, hS.F ht⟩) hS.2.2 dX0_unmount_12
