def F_X12_freeOf_2 (f0 : Nat → Int32) : Nat → Int32 → Int32
  | 0, y1 => y1
  | n + 1, y1 => (if (24 : Int32) ≤ y1 then y1 else (if (f0 (Int32.toNatClampNeg y1)) = (-1 : Int32) then y1 else (F_X12_freeOf_2 f0 n (y1 + (1 : Int32)))))
def F_X12_freeOf (f0 : Nat → Int32) : Int32 := (F_X12_freeOf_2 f0 26 (0 : Int32))
set_option maxHeartbeats 4000000 in
set_option maxRecDepth 100000 in
theorem c_X12_freeOf (l : Launch) (g : Gx) (Ty : TyM) (G : Gh) (b0 : Nat) (k_b0 : Ty b0 = some (30, 122)) : Met l yX12_freeOf (wsG yX12_freeOf cX12_freeOf 2 (some .int)) ({ frames := 0, cells := 0, slots := 0, locals := 0 }) (PcH g Ty G [.ref b0]) (vp_Si (fun r => rgI (0) (24) r ∧ r = F_X12_freeOf (G.2.1 b0))) 0 0 (fun _ => False) := by
  refine Met.ofW (cc := cX12_freeOf) (maxL := 2) (ret := (some .int)) (by decide) rfl ?_
  intro p e s m args below meth c s₁ B hml hv
  obtain ⟨rfl, hK, hH⟩ := hv
  have hx := B.exec
  have hb := B.bytes
  have hr := B.returns
  have hts := atoms_spec (ws := (wsG yX12_freeOf cX12_freeOf 2 (some .int))) B.pre
  have hG : ∀ w ∈ GW, w.before ([.ref b0] : List Value).toArray s = true := fun w h => hts w (List.mem_cons_of_mem _ h)
  have hown : s.vm.findClass RX12 = some m.cls := findClass_of_methodNamed B.named
  have hlocks := B.notSynchronized
  have hl := lv_entry [.ref b0] (n := 2) (Nat.le_of_ble_eq_true rfl)
  rw [lg_entry_eq]
  generalize (lg_sl [.ref b0] ++ List.replicate (2 - (lg_sl [.ref b0]).length) Slot.unset).toArray = ls at hl ⊢
  have hl : lv_has ls 2 [(0, .ref b0)] := hl
  have hv : (F_X12_freeOf_2 (G.2.1 b0) 26 (0 : Int32)) = F_X12_freeOf (G.2.1 b0) := rfl
  have L_21 : ∀ (y1_21 : Int32) (ls : Array Slot), rgI (0) (24) y1_21 → lv_has ls 2 [(1, .int y1_21)] → y1_21 = F_X12_freeOf (G.2.1 b0) → Wm p l e (wsG yX12_freeOf cX12_freeOf 2 (some .int)) ({ frames := 0, cells := 0, slots := 0, locals := 0 }) s m [.ref b0] below meth c s.heap [] (0) (0) (vp_Si (fun r => rgI (0) (24) r ∧ r = F_X12_freeOf (G.2.1 b0))) 0 0 (fun _ => False) (F0 m 21 ls []) := by
    intro y1_21 ls ry1_21 hl hv
    refine lv_iload_n hx hb dX12_freeOf_21 rfl (lv_at hl 0 rfl) ?_
    exact W.iret hx hb hr (fun t ht hW => ⟨y1_21, rfl, ⟨rg_w ry1_21 (by decide) (by decide), hv⟩, ht⟩) (fun q h => by cases h) dX12_freeOf_22
  have L_2 : ∀ (n_2 : Nat) (y1_2 : Int32) (ls : Array Slot), rgI (0) (24) y1_2 → (24 - (y1_2).toInt).toNat < n_2 → lv_has ls 2 [(0, .ref b0), (1, .int y1_2)] → (F_X12_freeOf_2 (G.2.1 b0) n_2 y1_2) = F_X12_freeOf (G.2.1 b0) → Wm p l e (wsG yX12_freeOf cX12_freeOf 2 (some .int)) ({ frames := 0, cells := 0, slots := 0, locals := 0 }) s m [.ref b0] below meth c s.heap [] (0) (0) (vp_Si (fun r => rgI (0) (24) r ∧ r = F_X12_freeOf (G.2.1 b0))) 0 0 (fun _ => False) (F0 m 2 ls []) := by
    intro n_2
    induction n_2 with
    | zero => intro y1_2 ls ry1_2 hm; exact absurd hm (Nat.not_lt_zero _)
    | succ n_2 ih_2 =>
      intro y1_2 ls ry1_2 hm_2 hl hv
      rw [F_X12_freeOf_2] at hv
      refine lv_iload_n hx hb dX12_freeOf_2 rfl (lv_at hl 1 rfl) ?_
      refine lv_bipush (v := 24) hx hb dX12_freeOf_3 (by decide) ?_
      refine lv_icmp_ge (tgt := 21) hx hb dX12_freeOf_5 (by decide) (fun c_1 => ?_) (fun c_1 => ?_)
      · rw [if_pos c_1] at hv
        have r_2 : rgI (24) (24) y1_2 := rg_w (rg_leR rl_24 ry1_2 c_1) (by decide) (by decide)
        exact L_21 y1_2 ls (rg_w r_2 (by decide) (by decide)) (lv_sub hl [1] rfl) hv
      · rw [if_neg c_1] at hv
        have r_3 : rgI (0) (23) y1_2 := rg_w (rg_ltL ry1_2 rl_24 (nle_lt c_1)) (by decide) (by decide)
        refine lv_aload_n hx hb dX12_freeOf_8 rfl (lv_at hl 0 rfl) ?_
        refine lv_iload_n hx hb dX12_freeOf_9 rfl (lv_at hl 1 rfl) ?_
        obtain ⟨_, rfl, o_c_4⟩ := hH b0 _ k_b0
        have o_c_4 : va_at g.1 vwCl (b0, .inl (g.2.1 1, 122, .inl (G.2.1 b0))) s.heap := o_c_4
        refine hg_iald hx hb hK o_c_4 (rg_in (n := 122) r_3 (by decide) (by decide)) dX12_freeOf_10 ?_
        refine lv_topi (fun x_5 ex_5 => ?_)
        try rw [← ex_5] at hv
        refine lv_iconst (v := (-1)) hx hb dX12_freeOf_11 (by decide) ?_
        refine lv_icmp_eq (tgt := 21) hx hb dX12_freeOf_12 (by decide) (fun c_6 => ?_) (fun c_6 => ?_)
        · rw [if_pos c_6] at hv
          have r_7 : rgI (-1) (-1) x_5 := rg_w (rg_eq rl_m1 c_6) (by decide) (by decide)
          exact L_21 y1_2 ls (rg_w r_3 (by decide) (by decide)) (lv_sub hl [1] rfl) hv
        · rw [if_neg c_6] at hv
          obtain ⟨x_8, ex_8⟩ : ∃ y : Int32, y = y1_2 + 1 := ⟨_, rfl⟩
          try rw [← ex_8] at hv
          have rx_8 : rgI (1) (24) x_8 := by rw [ex_8]; exact rg_w (rg_add r_3 rl_1 (by decide) (by decide)) (by decide) (by decide)
          have qx_8 : x_8.toInt = (y1_2 : Int32).toInt + 1 := by rw [ex_8]; exact rg_addE r_3 rl_1 (by decide) (by decide)
          refine lv_iinc (v := x_8) (lv' := [(1, .int x_8), (0, .ref b0)]) hx hb dX12_freeOf_15 hl (k := 1) rfl (by rw [ex_8]; rfl) (by decide) rfl (fun ls hl => ?_)
          refine lv_goto (tgt := 2) hx hb dX12_freeOf_18 (by decide) ?_
          exact ih_2 x_8 ls (rg_w rx_8 (by decide) (by decide)) (by have h1 := qx_8; have h2 := r_3.1; have h3 := r_3.2; have h4 := hm_2; omega) (lv_sub hl [1, 0] rfl) hv
  refine lv_iconst (v := 0) hx hb dX12_freeOf_0 (by decide) ?_
  refine lv_istore_n (lv' := [(1, .int 0), (0, .ref b0)]) hx hb dX12_freeOf_1 rfl hl (by decide) rfl (fun ls hl => ?_)
  exact L_2 26 0 ls (rg_w rl_0 (by decide) (by decide)) (by decide) (lv_sub hl [1, 0] rfl) hv

def F_X12_letterOf (a0 : Int32) : Int32 := (if a0 = (110 : Int32) then (0 : Int32) else (if a0 = (107 : Int32) then (1 : Int32) else (if a0 = (103 : Int32) then (2 : Int32) else (if a0 = (105 : Int32) then (3 : Int32) else (if a0 = (100 : Int32) then (4 : Int32) else (if a0 = (119 : Int32) then (5 : Int32) else (if a0 = (113 : Int32) then (6 : Int32) else (-1 : Int32))))))))
set_option maxHeartbeats 4000000 in
set_option maxRecDepth 100000 in
theorem c_X12_letterOf (l : Launch) (g : Gx) (Ty : TyM) (G : Gh) (a0 : Int32) : Met l yX12_letterOf (wsG yX12_letterOf cX12_letterOf 1 (some .int)) ({ frames := 0, cells := 0, slots := 0, locals := 0 }) (PcH g Ty G [.int a0]) (vp_Si (fun r => rgI (-1) (6) r ∧ r = F_X12_letterOf a0)) 0 0 (fun _ => False) := by
  refine Met.ofW (cc := cX12_letterOf) (maxL := 1) (ret := (some .int)) (by decide) rfl ?_
  intro p e s m args below meth c s₁ B hml hv
  obtain ⟨rfl, hK, hH⟩ := hv
  have hx := B.exec
  have hb := B.bytes
  have hr := B.returns
  have hts := atoms_spec (ws := (wsG yX12_letterOf cX12_letterOf 1 (some .int))) B.pre
  have hG : ∀ w ∈ GW, w.before ([.int a0] : List Value).toArray s = true := fun w h => hts w (List.mem_cons_of_mem _ h)
  have hown : s.vm.findClass RX12 = some m.cls := findClass_of_methodNamed B.named
  have hlocks := B.notSynchronized
  have hl := lv_entry [.int a0] (n := 1) (Nat.le_of_ble_eq_true rfl)
  rw [lg_entry_eq]
  generalize (lg_sl [.int a0] ++ List.replicate (1 - (lg_sl [.int a0]).length) Slot.unset).toArray = ls at hl ⊢
  have hl : lv_has ls 1 [(0, .int a0)] := hl
  have hv : (if a0 = (110 : Int32) then (0 : Int32) else (if a0 = (107 : Int32) then (1 : Int32) else (if a0 = (103 : Int32) then (2 : Int32) else (if a0 = (105 : Int32) then (3 : Int32) else (if a0 = (100 : Int32) then (4 : Int32) else (if a0 = (119 : Int32) then (5 : Int32) else (if a0 = (113 : Int32) then (6 : Int32) else (-1 : Int32)))))))) = F_X12_letterOf a0 := rfl
  refine lv_iload_n hx hb dX12_letterOf_0 rfl (lv_at hl 0 rfl) ?_
  refine lv_bipush (v := 110) hx hb dX12_letterOf_1 (by decide) ?_
  refine lv_icmp_ne (tgt := 10) hx hb dX12_letterOf_3 (by decide) (fun c_1 => ?_) (fun c_1 => ?_)
  · rw [if_neg c_1] at hv
    refine lv_iload_n hx hb dX12_letterOf_10 rfl (lv_at hl 0 rfl) ?_
    refine lv_bipush (v := 107) hx hb dX12_letterOf_11 (by decide) ?_
    refine lv_icmp_ne (tgt := 20) hx hb dX12_letterOf_13 (by decide) (fun c_2 => ?_) (fun c_2 => ?_)
    · rw [if_neg c_2] at hv
      refine lv_iload_n hx hb dX12_letterOf_20 rfl (lv_at hl 0 rfl) ?_
      refine lv_bipush (v := 103) hx hb dX12_letterOf_21 (by decide) ?_
      refine lv_icmp_ne (tgt := 30) hx hb dX12_letterOf_23 (by decide) (fun c_3 => ?_) (fun c_3 => ?_)
      · rw [if_neg c_3] at hv
        refine lv_iload_n hx hb dX12_letterOf_30 rfl (lv_at hl 0 rfl) ?_
        refine lv_bipush (v := 105) hx hb dX12_letterOf_31 (by decide) ?_
        refine lv_icmp_ne (tgt := 40) hx hb dX12_letterOf_33 (by decide) (fun c_4 => ?_) (fun c_4 => ?_)
        · rw [if_neg c_4] at hv
          refine lv_iload_n hx hb dX12_letterOf_40 rfl (lv_at hl 0 rfl) ?_
          refine lv_bipush (v := 100) hx hb dX12_letterOf_41 (by decide) ?_
          refine lv_icmp_ne (tgt := 50) hx hb dX12_letterOf_43 (by decide) (fun c_5 => ?_) (fun c_5 => ?_)
          · rw [if_neg c_5] at hv
            refine lv_iload_n hx hb dX12_letterOf_50 rfl (lv_at hl 0 rfl) ?_
            refine lv_bipush (v := 119) hx hb dX12_letterOf_51 (by decide) ?_
            refine lv_icmp_ne (tgt := 60) hx hb dX12_letterOf_53 (by decide) (fun c_6 => ?_) (fun c_6 => ?_)
            · rw [if_neg c_6] at hv
              refine lv_iload_n hx hb dX12_letterOf_60 rfl (lv_at hl 0 rfl) ?_
              refine lv_bipush (v := 113) hx hb dX12_letterOf_61 (by decide) ?_
              refine lv_icmp_ne (tgt := 71) hx hb dX12_letterOf_63 (by decide) (fun c_7 => ?_) (fun c_7 => ?_)
              · rw [if_neg c_7] at hv
                refine lv_iconst (v := (-1)) hx hb dX12_letterOf_71 (by decide) ?_
                exact W.iret hx hb hr (fun t ht hW => ⟨(-1), rfl, ⟨rg_w rl_m1 (by decide) (by decide), hv⟩, ht⟩) (fun q h => by cases h) dX12_letterOf_72
              · rw [if_pos c_7] at hv
                have r_8 : rgI (113) (113) a0 := rg_w (rg_eq rl_113 c_7) (by decide) (by decide)
                refine lv_bipush (v := 6) hx hb dX12_letterOf_66 (by decide) ?_
                refine lv_goto (tgt := 72) hx hb dX12_letterOf_68 (by decide) ?_
                exact W.iret hx hb hr (fun t ht hW => ⟨6, rfl, ⟨rg_w rl_6 (by decide) (by decide), hv⟩, ht⟩) (fun q h => by cases h) dX12_letterOf_72
            · rw [if_pos c_6] at hv
              have r_9 : rgI (119) (119) a0 := rg_w (rg_eq rl_119 c_6) (by decide) (by decide)
              refine lv_iconst (v := 5) hx hb dX12_letterOf_56 (by decide) ?_
              refine lv_goto (tgt := 72) hx hb dX12_letterOf_57 (by decide) ?_
              exact W.iret hx hb hr (fun t ht hW => ⟨5, rfl, ⟨rg_w rl_5 (by decide) (by decide), hv⟩, ht⟩) (fun q h => by cases h) dX12_letterOf_72
          · rw [if_pos c_5] at hv
            have r_10 : rgI (100) (100) a0 := rg_w (rg_eq rl_100 c_5) (by decide) (by decide)
            refine lv_iconst (v := 4) hx hb dX12_letterOf_46 (by decide) ?_
            refine lv_goto (tgt := 72) hx hb dX12_letterOf_47 (by decide) ?_
            exact W.iret hx hb hr (fun t ht hW => ⟨4, rfl, ⟨rg_w rl_4 (by decide) (by decide), hv⟩, ht⟩) (fun q h => by cases h) dX12_letterOf_72
        · rw [if_pos c_4] at hv
          have r_11 : rgI (105) (105) a0 := rg_w (rg_eq rl_105 c_4) (by decide) (by decide)
          refine lv_iconst (v := 3) hx hb dX12_letterOf_36 (by decide) ?_
          refine lv_goto (tgt := 72) hx hb dX12_letterOf_37 (by decide) ?_
          exact W.iret hx hb hr (fun t ht hW => ⟨3, rfl, ⟨rg_w rl_3 (by decide) (by decide), hv⟩, ht⟩) (fun q h => by cases h) dX12_letterOf_72
      · rw [if_pos c_3] at hv
        have r_12 : rgI (103) (103) a0 := rg_w (rg_eq rl_103 c_3) (by decide) (by decide)
        refine lv_iconst (v := 2) hx hb dX12_letterOf_26 (by decide) ?_
        refine lv_goto (tgt := 72) hx hb dX12_letterOf_27 (by decide) ?_
        exact W.iret hx hb hr (fun t ht hW => ⟨2, rfl, ⟨rg_w rl_2 (by decide) (by decide), hv⟩, ht⟩) (fun q h => by cases h) dX12_letterOf_72
    · rw [if_pos c_2] at hv
      have r_13 : rgI (107) (107) a0 := rg_w (rg_eq rl_107 c_2) (by decide) (by decide)
      refine lv_iconst (v := 1) hx hb dX12_letterOf_16 (by decide) ?_
      refine lv_goto (tgt := 72) hx hb dX12_letterOf_17 (by decide) ?_
      exact W.iret hx hb hr (fun t ht hW => ⟨1, rfl, ⟨rg_w rl_1 (by decide) (by decide), hv⟩, ht⟩) (fun q h => by cases h) dX12_letterOf_72
  · rw [if_pos c_1] at hv
    have r_14 : rgI (110) (110) a0 := rg_w (rg_eq rl_110 c_1) (by decide) (by decide)
    refine lv_iconst (v := 0) hx hb dX12_letterOf_6 (by decide) ?_
    refine lv_goto (tgt := 72) hx hb dX12_letterOf_7 (by decide) ?_
    exact W.iret hx hb hr (fun t ht hW => ⟨0, rfl, ⟨rg_w rl_0 (by decide) (by decide), hv⟩, ht⟩) (fun q h => by cases h) dX12_letterOf_72

def F_X12_highOf (a0 : Int32) : Int32 := (if a0 = (1 : Int32) then (9 : Int32) else (if a0 = (4 : Int32) then (9 : Int32) else (4 : Int32)))
set_option maxHeartbeats 4000000 in
set_option maxRecDepth 100000 in
theorem c_X12_highOf (l : Launch) (g : Gx) (Ty : TyM) (G : Gh) (a0 : Int32) : Met l yX12_highOf (wsG yX12_highOf cX12_highOf 1 (some .int)) ({ frames := 0, cells := 0, slots := 0, locals := 0 }) (PcH g Ty G [.int a0]) (vp_Si (fun r => rgI (4) (9) r ∧ r = F_X12_highOf a0)) 0 0 (fun _ => False) := by
  refine Met.ofW (cc := cX12_highOf) (maxL := 1) (ret := (some .int)) (by decide) rfl ?_
  intro p e s m args below meth c s₁ B hml hv
  obtain ⟨rfl, hK, hH⟩ := hv
  have hx := B.exec
  have hb := B.bytes
  have hr := B.returns
  have hts := atoms_spec (ws := (wsG yX12_highOf cX12_highOf 1 (some .int))) B.pre
  have hG : ∀ w ∈ GW, w.before ([.int a0] : List Value).toArray s = true := fun w h => hts w (List.mem_cons_of_mem _ h)
  have hown : s.vm.findClass RX12 = some m.cls := findClass_of_methodNamed B.named
  have hlocks := B.notSynchronized
  have hl := lv_entry [.int a0] (n := 1) (Nat.le_of_ble_eq_true rfl)
  rw [lg_entry_eq]
  generalize (lg_sl [.int a0] ++ List.replicate (1 - (lg_sl [.int a0]).length) Slot.unset).toArray = ls at hl ⊢
  have hl : lv_has ls 1 [(0, .int a0)] := hl
  have hv : (if a0 = (1 : Int32) then (9 : Int32) else (if a0 = (4 : Int32) then (9 : Int32) else (4 : Int32))) = F_X12_highOf a0 := rfl
  have L_10 : ∀ (ls : Array Slot), lv_has ls 1 [] → (9 : Int32) = F_X12_highOf a0 → Wm p l e (wsG yX12_highOf cX12_highOf 1 (some .int)) ({ frames := 0, cells := 0, slots := 0, locals := 0 }) s m [.int a0] below meth c s.heap [] (0) (0) (vp_Si (fun r => rgI (4) (9) r ∧ r = F_X12_highOf a0)) 0 0 (fun _ => False) (F0 m 10 ls []) := by
    intro ls hl hv
    refine lv_bipush (v := 9) hx hb dX12_highOf_10 (by decide) ?_
    refine lv_goto (tgt := 16) hx hb dX12_highOf_12 (by decide) ?_
    exact W.iret hx hb hr (fun t ht hW => ⟨9, rfl, ⟨rg_w rl_9 (by decide) (by decide), hv⟩, ht⟩) (fun q h => by cases h) dX12_highOf_16
  refine lv_iload_n hx hb dX12_highOf_0 rfl (lv_at hl 0 rfl) ?_
  refine lv_iconst (v := 1) hx hb dX12_highOf_1 (by decide) ?_
  refine lv_icmp_eq (tgt := 10) hx hb dX12_highOf_2 (by decide) (fun c_1 => ?_) (fun c_1 => ?_)
  · rw [if_pos c_1] at hv
    have r_2 : rgI (1) (1) a0 := rg_w (rg_eq rl_1 c_1) (by decide) (by decide)
    exact L_10  ls (lv_sub hl [] rfl) hv
  · rw [if_neg c_1] at hv
    refine lv_iload_n hx hb dX12_highOf_5 rfl (lv_at hl 0 rfl) ?_
    refine lv_iconst (v := 4) hx hb dX12_highOf_6 (by decide) ?_
    refine lv_icmp_ne (tgt := 15) hx hb dX12_highOf_7 (by decide) (fun c_3 => ?_) (fun c_3 => ?_)
    · rw [if_neg c_3] at hv
      refine lv_iconst (v := 4) hx hb dX12_highOf_15 (by decide) ?_
      exact W.iret hx hb hr (fun t ht hW => ⟨4, rfl, ⟨rg_w rl_4 (by decide) (by decide), hv⟩, ht⟩) (fun q h => by cases h) dX12_highOf_16
    · rw [if_pos c_3] at hv
      have r_4 : rgI (4) (4) a0 := rg_w (rg_eq rl_4 c_3) (by decide) (by decide)
      exact L_10  ls (lv_sub hl [] rfl) hv

def F_X12_comesBy (a0 : Int32) (a1 : Int32) (a2 : Int32) : Int32 := (if (a0 / (5 : Int32)) < a1 then (0 : Int32) else (if a2 < (jrem a0 (5 : Int32)) then (0 : Int32) else (1 : Int32)))
set_option maxHeartbeats 4000000 in
set_option maxRecDepth 100000 in
theorem c_X12_comesBy (l : Launch) (g : Gx) (Ty : TyM) (G : Gh) (a0 : Int32) (a1 : Int32) (a2 : Int32) : Met l yX12_comesBy (wsG yX12_comesBy cX12_comesBy 3 (some .boolean)) ({ frames := 0, cells := 0, slots := 0, locals := 0 }) (PcH g Ty G [.int a0, .int a1, .int a2]) (vp_Si (fun r => rgI (0) (1) r ∧ r = F_X12_comesBy a0 a1 a2)) 0 0 (fun _ => False) := by
  refine Met.ofW (cc := cX12_comesBy) (maxL := 3) (ret := (some .boolean)) (by decide) rfl ?_
  intro p e s m args below meth c s₁ B hml hv
  obtain ⟨rfl, hK, hH⟩ := hv
  have hx := B.exec
  have hb := B.bytes
  have hr := B.returns
  have hts := atoms_spec (ws := (wsG yX12_comesBy cX12_comesBy 3 (some .boolean))) B.pre
  have hG : ∀ w ∈ GW, w.before ([.int a0, .int a1, .int a2] : List Value).toArray s = true := fun w h => hts w (List.mem_cons_of_mem _ h)
  have hown : s.vm.findClass RX12 = some m.cls := findClass_of_methodNamed B.named
  have hlocks := B.notSynchronized
  have hl := lv_entry [.int a0, .int a1, .int a2] (n := 3) (Nat.le_of_ble_eq_true rfl)
  rw [lg_entry_eq]
  generalize (lg_sl [.int a0, .int a1, .int a2] ++ List.replicate (3 - (lg_sl [.int a0, .int a1, .int a2]).length) Slot.unset).toArray = ls at hl ⊢
  have hl : lv_has ls 3 [(0, .int a0), (1, .int a1), (2, .int a2)] := hl
  have hv : (if (a0 / (5 : Int32)) < a1 then (0 : Int32) else (if a2 < (jrem a0 (5 : Int32)) then (0 : Int32) else (1 : Int32))) = F_X12_comesBy a0 a1 a2 := rfl
  have L_18 : ∀ (ls : Array Slot), lv_has ls 3 [] → (0 : Int32) = F_X12_comesBy a0 a1 a2 → Wm p l e (wsG yX12_comesBy cX12_comesBy 3 (some .boolean)) ({ frames := 0, cells := 0, slots := 0, locals := 0 }) s m [.int a0, .int a1, .int a2] below meth c s.heap [] (0) (0) (vp_Si (fun r => rgI (0) (1) r ∧ r = F_X12_comesBy a0 a1 a2)) 0 0 (fun _ => False) (F0 m 18 ls []) := by
    intro ls hl hv
    refine lv_iconst (v := 0) hx hb dX12_comesBy_18 (by decide) ?_
    exact W.zret hx hb hr rfl (fun t ht hW => ⟨0, rfl, ⟨rg_w rl_0 (by decide) (by decide), hv⟩, ht⟩) (fun q h => by cases h) dX12_comesBy_19
  refine lv_iload_n hx hb dX12_comesBy_0 rfl (lv_at hl 1 rfl) ?_
  refine lv_iload_n hx hb dX12_comesBy_1 rfl (lv_at hl 0 rfl) ?_
  refine lv_iconst (v := 5) hx hb dX12_comesBy_2 (by decide) ?_
  refine lv_idiv hx hb dX12_comesBy_3 (by decide) ?_
  refine lv_topi (fun x_1 ex_1 => ?_)
  try rw [← ex_1] at hv
  refine lv_icmp_gt (tgt := 18) hx hb dX12_comesBy_4 (by decide) (fun c_2 => ?_) (fun c_2 => ?_)
  · rw [if_pos c_2] at hv
    have r_3 : rgI (-2147483648) (2147483646) x_1 := rg_w (rg_ltL (rg_top x_1) (rg_top a1) c_2) (by decide) (by decide)
    have r_4 : rgI (-2147483647) (2147483647) a1 := rg_w (rg_ltR (rg_top x_1) (rg_top a1) c_2) (by decide) (by decide)
    exact L_18  ls (lv_sub hl [] rfl) hv
  · rw [if_neg c_2] at hv
    refine lv_iload_n hx hb dX12_comesBy_7 rfl (lv_at hl 2 rfl) ?_
    refine lv_iload_n hx hb dX12_comesBy_8 rfl (lv_at hl 0 rfl) ?_
    refine lv_iconst (v := 5) hx hb dX12_comesBy_9 (by decide) ?_
    refine lv_irem hx hb dX12_comesBy_10 (by decide) ?_
    refine lv_topi (fun x_5 ex_5 => ?_)
    try rw [← ex_5] at hv
    try rw [show jrem a0 5 = x_5 from ex_5.symm] at hv
    refine lv_icmp_lt (tgt := 18) hx hb dX12_comesBy_11 (by decide) (fun c_6 => ?_) (fun c_6 => ?_)
    · rw [if_pos c_6] at hv
      have r_7 : rgI (-2147483648) (2147483646) a2 := rg_w (rg_ltL (rg_top a2) (rg_top x_5) c_6) (by decide) (by decide)
      have r_8 : rgI (-2147483647) (2147483647) x_5 := rg_w (rg_ltR (rg_top a2) (rg_top x_5) c_6) (by decide) (by decide)
      exact L_18  ls (lv_sub hl [] rfl) hv
    · rw [if_neg c_6] at hv
      refine lv_iconst (v := 1) hx hb dX12_comesBy_14 (by decide) ?_
      refine lv_goto (tgt := 19) hx hb dX12_comesBy_15 (by decide) ?_
      exact W.zret hx hb hr rfl (fun t ht hW => ⟨1, rfl, ⟨rg_w rl_1 (by decide) (by decide), hv⟩, ht⟩) (fun q h => by cases h) dX12_comesBy_19

def F_X12_gets (a0 : Int32) (a1 : Int32) (a2 : Int32) : Int32 := (if a0 ≤ a1 then (if a1 ≤ a0 then ((a2 / (3 : Int32)) - a0) else ((a2 / (2 : Int32)) - ((2 : Int32) * a0))) else (a2 - a0))
set_option maxHeartbeats 4000000 in
set_option maxRecDepth 100000 in
theorem c_X12_gets (l : Launch) (g : Gx) (Ty : TyM) (G : Gh) (a0 : Int32) (a1 : Int32) (a2 : Int32) : Met l yX12_gets (wsG yX12_gets cX12_gets 3 (some .int)) ({ frames := 0, cells := 0, slots := 0, locals := 0 }) (PcH g Ty G [.int a0, .int a1, .int a2]) (vp_Si (fun r => r = F_X12_gets a0 a1 a2)) 0 0 (fun _ => False) := by
  refine Met.ofW (cc := cX12_gets) (maxL := 3) (ret := (some .int)) (by decide) rfl ?_
  intro p e s m args below meth c s₁ B hml hv
  obtain ⟨rfl, hK, hH⟩ := hv
  have hx := B.exec
  have hb := B.bytes
  have hr := B.returns
  have hts := atoms_spec (ws := (wsG yX12_gets cX12_gets 3 (some .int))) B.pre
  have hG : ∀ w ∈ GW, w.before ([.int a0, .int a1, .int a2] : List Value).toArray s = true := fun w h => hts w (List.mem_cons_of_mem _ h)
  have hown : s.vm.findClass RX12 = some m.cls := findClass_of_methodNamed B.named
  have hlocks := B.notSynchronized
  have hl := lv_entry [.int a0, .int a1, .int a2] (n := 3) (Nat.le_of_ble_eq_true rfl)
  rw [lg_entry_eq]
  generalize (lg_sl [.int a0, .int a1, .int a2] ++ List.replicate (3 - (lg_sl [.int a0, .int a1, .int a2]).length) Slot.unset).toArray = ls at hl ⊢
  have hl : lv_has ls 3 [(0, .int a0), (1, .int a1), (2, .int a2)] := hl
  have hv : (if a0 ≤ a1 then (if a1 ≤ a0 then ((a2 / (3 : Int32)) - a0) else ((a2 / (2 : Int32)) - ((2 : Int32) * a0))) else (a2 - a0)) = F_X12_gets a0 a1 a2 := rfl
  refine lv_iload_n hx hb dX12_gets_0 rfl (lv_at hl 0 rfl) ?_
  refine lv_iload_n hx hb dX12_gets_1 rfl (lv_at hl 1 rfl) ?_
  refine lv_icmp_le (tgt := 11) hx hb dX12_gets_2 (by decide) (fun c_1 => ?_) (fun c_1 => ?_)
  · rw [if_pos c_1] at hv
    refine lv_iload_n hx hb dX12_gets_11 rfl (lv_at hl 0 rfl) ?_
    refine lv_iload_n hx hb dX12_gets_12 rfl (lv_at hl 1 rfl) ?_
    refine lv_icmp_ge (tgt := 26) hx hb dX12_gets_13 (by decide) (fun c_2 => ?_) (fun c_2 => ?_)
    · rw [if_pos c_2] at hv
      refine lv_iload_n hx hb dX12_gets_26 rfl (lv_at hl 2 rfl) ?_
      refine lv_iconst (v := 3) hx hb dX12_gets_27 (by decide) ?_
      refine lv_idiv hx hb dX12_gets_28 (by decide) ?_
      refine lv_topi (fun x_3 ex_3 => ?_)
      try rw [← ex_3] at hv
      refine lv_iload_n hx hb dX12_gets_29 rfl (lv_at hl 0 rfl) ?_
      refine lv_isub hx hb dX12_gets_30 ?_
      refine lv_topi (fun x_4 ex_4 => ?_)
      try rw [← ex_4] at hv
      exact W.iret hx hb hr (fun t ht hW => ⟨x_4, rfl, hv, ht⟩) (fun q h => by cases h) dX12_gets_31
    · rw [if_neg c_2] at hv
      have r_5 : rgI (-2147483648) (2147483646) a0 := rg_w (rg_ltL (rg_top a0) (rg_top a1) (nle_lt c_2)) (by decide) (by decide)
      have r_6 : rgI (-2147483647) (2147483647) a1 := rg_w (rg_ltR (rg_top a0) (rg_top a1) (nle_lt c_2)) (by decide) (by decide)
      refine lv_iload_n hx hb dX12_gets_16 rfl (lv_at hl 2 rfl) ?_
      refine lv_iconst (v := 2) hx hb dX12_gets_17 (by decide) ?_
      refine lv_idiv hx hb dX12_gets_18 (by decide) ?_
      refine lv_topi (fun x_7 ex_7 => ?_)
      try rw [← ex_7] at hv
      refine lv_iconst (v := 2) hx hb dX12_gets_19 (by decide) ?_
      refine lv_iload_n hx hb dX12_gets_20 rfl (lv_at hl 0 rfl) ?_
      refine lv_imul hx hb dX12_gets_21 ?_
      refine lv_topi (fun x_8 ex_8 => ?_)
      try rw [← ex_8] at hv
      refine lv_isub hx hb dX12_gets_22 ?_
      refine lv_topi (fun x_9 ex_9 => ?_)
      try rw [← ex_9] at hv
      refine lv_goto (tgt := 31) hx hb dX12_gets_23 (by decide) ?_
      exact W.iret hx hb hr (fun t ht hW => ⟨x_9, rfl, hv, ht⟩) (fun q h => by cases h) dX12_gets_31
  · rw [if_neg c_1] at hv
    have r_10 : rgI (-2147483648) (2147483646) a1 := rg_w (rg_ltL (rg_top a1) (rg_top a0) (nle_lt c_1)) (by decide) (by decide)
    have r_11 : rgI (-2147483647) (2147483647) a0 := rg_w (rg_ltR (rg_top a1) (rg_top a0) (nle_lt c_1)) (by decide) (by decide)
    refine lv_iload_n hx hb dX12_gets_5 rfl (lv_at hl 2 rfl) ?_
    refine lv_iload_n hx hb dX12_gets_6 rfl (lv_at hl 0 rfl) ?_
    refine lv_isub hx hb dX12_gets_7 ?_
    refine lv_topi (fun x_12 ex_12 => ?_)
    try rw [← ex_12] at hv
    refine lv_goto (tgt := 31) hx hb dX12_gets_8 (by decide) ?_
    exact W.iret hx hb hr (fun t ht hW => ⟨x_12, rfl, hv, ht⟩) (fun q h => by cases h) dX12_gets_31

def F_X12_isBest_2  : Nat → Int32 → Int32 → Int32 → Int32 → Int32
  | 0, _, _, _, _ => 0
  | n + 1, y0, y1, y2, y3 => (if (9 : Int32) < y3 then (1 : Int32) else (if (F_X12_gets y3 y1 y2) ≤ (F_X12_gets y0 y1 y2) then (F_X12_isBest_2  n y0 y1 y2 (y3 + (1 : Int32))) else (0 : Int32)))
def F_X12_isBest (a0 : Int32) (a1 : Int32) (a2 : Int32) : Int32 := (F_X12_isBest_2  12 a0 a1 a2 (0 : Int32))
set_option maxHeartbeats 4000000 in
set_option maxRecDepth 100000 in
theorem c_X12_isBest (l : Launch) (g : Gx) (Ty : TyM) (G : Gh) (a0 : Int32) (a1 : Int32) (a2 : Int32) : Met l yX12_isBest (wsG yX12_isBest cX12_isBest 4 (some .boolean)) ({ frames := 1, cells := 0, slots := 0, locals := 22 }) (PcH g Ty G [.int a0, .int a1, .int a2]) (vp_Si (fun r => rgI (0) (1) r ∧ r = F_X12_isBest a0 a1 a2)) 0 0 (fun _ => False) := by
  refine Met.ofW (cc := cX12_isBest) (maxL := 4) (ret := (some .boolean)) (by decide) rfl ?_
  intro p e s m args below meth c s₁ B hml hv
  obtain ⟨rfl, hK, hH⟩ := hv
  have hx := B.exec
  have hb := B.bytes
  have hr := B.returns
  have hts := atoms_spec (ws := (wsG yX12_isBest cX12_isBest 4 (some .boolean))) B.pre
  have hG : ∀ w ∈ GW, w.before ([.int a0, .int a1, .int a2] : List Value).toArray s = true := fun w h => hts w (List.mem_cons_of_mem _ h)
  have hown : s.vm.findClass RX12 = some m.cls := findClass_of_methodNamed B.named
  have hlocks := B.notSynchronized
  have hl := lv_entry [.int a0, .int a1, .int a2] (n := 4) (Nat.le_of_ble_eq_true rfl)
  rw [lg_entry_eq]
  generalize (lg_sl [.int a0, .int a1, .int a2] ++ List.replicate (4 - (lg_sl [.int a0, .int a1, .int a2]).length) Slot.unset).toArray = ls at hl ⊢
  have hl : lv_has ls 4 [(0, .int a0), (1, .int a1), (2, .int a2)] := hl
  have hv : (F_X12_isBest_2  12 a0 a1 a2 (0 : Int32)) = F_X12_isBest a0 a1 a2 := rfl
  have L_2 : ∀ (n_2 : Nat) (y3_2 : Int32) (ls : Array Slot), rgI (0) (10) y3_2 → (10 - (y3_2).toInt).toNat < n_2 → lv_has ls 4 [(0, .int a0), (1, .int a1), (2, .int a2), (3, .int y3_2)] → (F_X12_isBest_2  n_2 a0 a1 a2 y3_2) = F_X12_isBest a0 a1 a2 → Wm p l e (wsG yX12_isBest cX12_isBest 4 (some .boolean)) ({ frames := 1, cells := 0, slots := 0, locals := 22 }) s m [.int a0, .int a1, .int a2] below meth c s.heap [] (0) (0) (vp_Si (fun r => rgI (0) (1) r ∧ r = F_X12_isBest a0 a1 a2)) 0 0 (fun _ => False) (F0 m 2 ls []) := by
    intro n_2
    induction n_2 with
    | zero => intro y3_2 ls ry3_2 hm; exact absurd hm (Nat.not_lt_zero _)
    | succ n_2 ih_2 =>
      intro y3_2 ls ry3_2 hm_2 hl hv
      rw [F_X12_isBest_2] at hv
      refine lv_iload_n hx hb dX12_isBest_2 rfl (lv_at hl 3 rfl) ?_
      refine lv_bipush (v := 9) hx hb dX12_isBest_3 (by decide) ?_
      refine lv_icmp_gt (tgt := 31) hx hb dX12_isBest_5 (by decide) (fun c_1 => ?_) (fun c_1 => ?_)
      · rw [if_pos c_1] at hv
        have r_2 : rgI (10) (10) y3_2 := rg_w (rg_ltR rl_9 ry3_2 c_1) (by decide) (by decide)
        refine lv_iconst (v := 1) hx hb dX12_isBest_31 (by decide) ?_
        exact W.zret hx hb hr rfl (fun t ht hW => ⟨1, rfl, ⟨rg_w rl_1 (by decide) (by decide), hv⟩, ht⟩) (fun q h => by cases h) dX12_isBest_32
      · rw [if_neg c_1] at hv
        have r_3 : rgI (0) (9) y3_2 := rg_w (rg_leL ry3_2 rl_9 (nlt_le c_1)) (by decide) (by decide)
        refine lv_iload_n hx hb dX12_isBest_8 rfl (lv_at hl 3 rfl) ?_
        refine lv_iload_n hx hb dX12_isBest_9 rfl (lv_at hl 1 rfl) ?_
        refine lv_iload_n hx hb dX12_isBest_10 rfl (lv_at hl 2 rfl) ?_
        refine vp_callSi (W.runS (As := [.int y3_2, .int a1, .int a2]) (rest := []) ⟨hx, hb, hml, hown, hts⟩ (c_X12_gets l g Ty G y3_2 a1 a2 ) (cwSx 3 hts hG (gwC mw_1848) mw_88 mw_1846 mw_1847 rfl rfl rfl hd_X12_gets ⟨Nat.le_of_ble_eq_true rfl, Nat.le_of_ble_eq_true rfl⟩) ⟨PcH_blind, PcH_pre hK hH⟩ rfl rfl hl.1 rfl (lv_room (Nat.le_of_ble_eq_true rfl)) dX12_isBest_11 ⟨Nat.zero_le _, Nat.zero_le _⟩) (fun x_4 hx_4 => ?_)
        try rw [← hx_4] at hv
        refine lv_iload_n hx hb dX12_isBest_14 rfl (lv_at hl 0 rfl) ?_
        refine lv_iload_n hx hb dX12_isBest_15 rfl (lv_at hl 1 rfl) ?_
        refine lv_iload_n hx hb dX12_isBest_16 rfl (lv_at hl 2 rfl) ?_
        refine vp_callSi (W.runS (As := [.int a0, .int a1, .int a2]) (rest := [.int x_4]) ⟨hx, hb, hml, hown, hts⟩ (c_X12_gets l g Ty G a0 a1 a2 ) (cwSx 3 hts hG (gwC mw_1848) mw_88 mw_1846 mw_1847 rfl rfl rfl hd_X12_gets ⟨Nat.le_of_ble_eq_true rfl, Nat.le_of_ble_eq_true rfl⟩) ⟨PcH_blind, PcH_pre hK hH⟩ rfl rfl hl.1 rfl (lv_room (Nat.le_of_ble_eq_true rfl)) dX12_isBest_17 ⟨Nat.zero_le _, Nat.zero_le _⟩) (fun x_5 hx_5 => ?_)
        try rw [← hx_5] at hv
        refine lv_icmp_le (tgt := 25) hx hb dX12_isBest_20 (by decide) (fun c_6 => ?_) (fun c_6 => ?_)
        · rw [if_pos c_6] at hv
          obtain ⟨x_7, ex_7⟩ : ∃ y : Int32, y = y3_2 + 1 := ⟨_, rfl⟩
          try rw [← ex_7] at hv
          have rx_7 : rgI (1) (10) x_7 := by rw [ex_7]; exact rg_w (rg_add r_3 rl_1 (by decide) (by decide)) (by decide) (by decide)
          have qx_7 : x_7.toInt = (y3_2 : Int32).toInt + 1 := by rw [ex_7]; exact rg_addE r_3 rl_1 (by decide) (by decide)
          refine lv_iinc (v := x_7) (lv' := [(3, .int x_7), (0, .int a0), (1, .int a1), (2, .int a2)]) hx hb dX12_isBest_25 hl (k := 3) rfl (by rw [ex_7]; rfl) (by decide) rfl (fun ls hl => ?_)
          refine lv_goto (tgt := 2) hx hb dX12_isBest_28 (by decide) ?_
          exact ih_2 x_7 ls (rg_w rx_7 (by decide) (by decide)) (by have h1 := qx_7; have h2 := r_3.1; have h3 := r_3.2; have h4 := hm_2; omega) (lv_sub hl [1, 2, 3, 0] rfl) hv
        · rw [if_neg c_6] at hv
          have r_8 : rgI (-2147483648) (2147483646) x_5 := rg_w (rg_ltL (rg_top x_5) (rg_top x_4) (nle_lt c_6)) (by decide) (by decide)
          have r_9 : rgI (-2147483647) (2147483647) x_4 := rg_w (rg_ltR (rg_top x_5) (rg_top x_4) (nle_lt c_6)) (by decide) (by decide)
          refine lv_iconst (v := 0) hx hb dX12_isBest_23 (by decide) ?_
          exact W.zret hx hb hr rfl (fun t ht hW => ⟨0, rfl, ⟨rg_w rl_0 (by decide) (by decide), hv⟩, ht⟩) (fun q h => by cases h) dX12_isBest_24
  refine lv_iconst (v := 0) hx hb dX12_isBest_0 (by decide) ?_
  refine lv_istore_n (lv' := [(3, .int 0), (0, .int a0), (1, .int a1), (2, .int a2)]) hx hb dX12_isBest_1 rfl hl (by decide) rfl (fun ls hl => ?_)
  exact L_2 12 0 ls (rg_w rl_0 (by decide) (by decide)) (by decide) (lv_sub hl [1, 2, 3, 0] rfl) hv

def F_X12_refusesMaking (f0 : Nat → Int32) (a1 : Int32) (a2 : Int32) : Int32 := (if (F_X12_isThere (f0) a1) = (0 : Int32) then (-1 : Int32) else (if (F_X12_in a2 (0 : Int32) (3 : Int32)) = (0 : Int32) then (-1 : Int32) else (if a2 = (2 : Int32) then (if (f0 (Int32.toNatClampNeg ((48 : Int32) + a1))) = (0 : Int32) then (-2 : Int32) else (0 : Int32)) else (0 : Int32))))
set_option maxHeartbeats 4000000 in
set_option maxRecDepth 100000 in
theorem c_X12_refusesMaking (l : Launch) (g : Gx) (Ty : TyM) (G : Gh) (b0 : Nat) (a1 : Int32) (a2 : Int32) (k_b0 : Ty b0 = some (30, 122)) : Met l yX12_refusesMaking (wsG yX12_refusesMaking cX12_refusesMaking 3 (some .int)) ({ frames := 2, cells := 0, slots := 0, locals := 43 }) (PcH g Ty G [.ref b0, .int a1, .int a2]) (vp_Si (fun r => rgI (-2) (0) r ∧ r = F_X12_refusesMaking (G.2.1 b0) a1 a2)) 0 0 (fun _ => False) := by
  refine Met.ofW (cc := cX12_refusesMaking) (maxL := 3) (ret := (some .int)) (by decide) rfl ?_
  intro p e s m args below meth c s₁ B hml hv
  obtain ⟨rfl, hK, hH⟩ := hv
  have hx := B.exec
  have hb := B.bytes
  have hr := B.returns
  have hts := atoms_spec (ws := (wsG yX12_refusesMaking cX12_refusesMaking 3 (some .int))) B.pre
  have hG : ∀ w ∈ GW, w.before ([.ref b0, .int a1, .int a2] : List Value).toArray s = true := fun w h => hts w (List.mem_cons_of_mem _ h)
  have hown : s.vm.findClass RX12 = some m.cls := findClass_of_methodNamed B.named
  have hlocks := B.notSynchronized
  have hl := lv_entry [.ref b0, .int a1, .int a2] (n := 3) (Nat.le_of_ble_eq_true rfl)
  rw [lg_entry_eq]
  generalize (lg_sl [.ref b0, .int a1, .int a2] ++ List.replicate (3 - (lg_sl [.ref b0, .int a1, .int a2]).length) Slot.unset).toArray = ls at hl ⊢
  have hl : lv_has ls 3 [(0, .ref b0), (1, .int a1), (2, .int a2)] := hl
  have hv : (if (F_X12_isThere ((G.2.1 b0)) a1) = (0 : Int32) then (-1 : Int32) else (if (F_X12_in a2 (0 : Int32) (3 : Int32)) = (0 : Int32) then (-1 : Int32) else (if a2 = (2 : Int32) then (if ((G.2.1 b0) (Int32.toNatClampNeg ((48 : Int32) + a1))) = (0 : Int32) then (-2 : Int32) else (0 : Int32)) else (0 : Int32)))) = F_X12_refusesMaking (G.2.1 b0) a1 a2 := rfl
  have L_38 : ∀ (ls : Array Slot), lv_has ls 3 [] → (0 : Int32) = F_X12_refusesMaking (G.2.1 b0) a1 a2 → Wm p l e (wsG yX12_refusesMaking cX12_refusesMaking 3 (some .int)) ({ frames := 2, cells := 0, slots := 0, locals := 43 }) s m [.ref b0, .int a1, .int a2] below meth c s.heap [] (0) (0) (vp_Si (fun r => rgI (-2) (0) r ∧ r = F_X12_refusesMaking (G.2.1 b0) a1 a2)) 0 0 (fun _ => False) (F0 m 38 ls []) := by
    intro ls hl hv
    refine lv_iconst (v := 0) hx hb dX12_refusesMaking_38 (by decide) ?_
    exact W.iret hx hb hr (fun t ht hW => ⟨0, rfl, ⟨rg_w rl_0 (by decide) (by decide), hv⟩, ht⟩) (fun q h => by cases h) dX12_refusesMaking_39
  have L_17 : ∀ (ls : Array Slot), lv_has ls 3 [] → (-1 : Int32) = F_X12_refusesMaking (G.2.1 b0) a1 a2 → Wm p l e (wsG yX12_refusesMaking cX12_refusesMaking 3 (some .int)) ({ frames := 2, cells := 0, slots := 0, locals := 43 }) s m [.ref b0, .int a1, .int a2] below meth c s.heap [] (0) (0) (vp_Si (fun r => rgI (-2) (0) r ∧ r = F_X12_refusesMaking (G.2.1 b0) a1 a2)) 0 0 (fun _ => False) (F0 m 17 ls []) := by
    intro ls hl hv
    refine lv_iconst (v := (-1)) hx hb dX12_refusesMaking_17 (by decide) ?_
    exact W.iret hx hb hr (fun t ht hW => ⟨(-1), rfl, ⟨rg_w rl_m1 (by decide) (by decide), hv⟩, ht⟩) (fun q h => by cases h) dX12_refusesMaking_18
  refine lv_aload_n hx hb dX12_refusesMaking_0 rfl (lv_at hl 0 rfl) ?_
  refine lv_iload_n hx hb dX12_refusesMaking_1 rfl (lv_at hl 1 rfl) ?_
  refine vp_callSi (W.runS (As := [.ref b0, .int a1]) (rest := []) ⟨hx, hb, hml, hown, hts⟩ (c_X12_isThere l g Ty G b0 a1 k_b0) (cwSx 2 hts hG (gwC mw_1520) mw_88 mw_1518 mw_1519 rfl rfl rfl hd_X12_isThere ⟨Nat.le_of_ble_eq_true rfl, Nat.le_of_ble_eq_true rfl⟩) ⟨PcH_blind, PcH_pre hK hH⟩ rfl rfl hl.1 rfl (lv_room (Nat.le_of_ble_eq_true rfl)) dX12_refusesMaking_2 ⟨Nat.zero_le _, Nat.zero_le _⟩) (fun x_1 hx_1 => ?_)
  have rx_1 : rgI (0) (1) x_1 := hx_1.1
  try rw [← hx_1.2.2] at hv
  refine lv_if_eq (tgt := 17) hx hb dX12_refusesMaking_5 (by decide) (fun c_2 => ?_) (fun c_2 => ?_)
  · rw [if_pos c_2] at hv
    have r_3 : rgI (0) (0) x_1 := rg_w (rg_eq rl_0 c_2) (by decide) (by decide)
    exact L_17  ls (lv_sub hl [] rfl) hv
  · rw [if_neg c_2] at hv
    have r_4 : rgI (1) (1) x_1 := rg_w (rg_neL rx_1 rl_0 c_2) (by decide) (by decide)
    have r_5 : rgI (0) (23) a1 := rg_w (hx_1.2.1.resolve_left c_2) (by decide) (by decide)
    refine lv_iload_n hx hb dX12_refusesMaking_8 rfl (lv_at hl 2 rfl) ?_
    refine lv_iconst (v := 0) hx hb dX12_refusesMaking_9 (by decide) ?_
    refine lv_iconst (v := 3) hx hb dX12_refusesMaking_10 (by decide) ?_
    refine vp_callSi (W.runS (As := [.int a2, .int 0, .int 3]) (rest := []) ⟨hx, hb, hml, hown, hts⟩ (c_X12_in l g Ty G a2 0 3 ) (cwSx 3 hts hG (gwC mw_1426) mw_88 mw_1424 mw_1425 rfl rfl rfl hd_X12_in ⟨Nat.le_of_ble_eq_true rfl, Nat.le_of_ble_eq_true rfl⟩) ⟨PcH_blind, PcH_pre hK hH⟩ rfl rfl hl.1 rfl (lv_room (Nat.le_of_ble_eq_true rfl)) dX12_refusesMaking_11 ⟨Nat.zero_le _, Nat.zero_le _⟩) (fun x_6 hx_6 => ?_)
    have rx_6 : rgI (0) (1) x_6 := hx_6.1
    try rw [← hx_6.2.2] at hv
    refine lv_if_ne (tgt := 19) hx hb dX12_refusesMaking_14 (by decide) (fun c_7 => ?_) (fun c_7 => ?_)
    · rw [if_neg c_7] at hv
      have r_8 : rgI (1) (1) x_6 := rg_w (rg_neL rx_6 rl_0 c_7) (by decide) (by decide)
      have r_9 : rgI (0) (3) a2 := rg_w (in_rng hx_6.2.1 c_7 rl_0 rl_3) (by decide) (by decide)
      refine lv_iload_n hx hb dX12_refusesMaking_19 rfl (lv_at hl 2 rfl) ?_
      refine lv_iconst (v := 2) hx hb dX12_refusesMaking_20 (by decide) ?_
      refine lv_icmp_ne (tgt := 38) hx hb dX12_refusesMaking_21 (by decide) (fun c_10 => ?_) (fun c_10 => ?_)
      · rw [if_neg c_10] at hv
        exact L_38  ls (lv_sub hl [] rfl) hv
      · rw [if_pos c_10] at hv
        have r_11 : rgI (2) (2) a2 := rg_w (rg_eq rl_2 c_10) (by decide) (by decide)
        refine lv_aload_n hx hb dX12_refusesMaking_24 rfl (lv_at hl 0 rfl) ?_
        refine lv_bipush (v := 48) hx hb dX12_refusesMaking_25 (by decide) ?_
        refine lv_iload_n hx hb dX12_refusesMaking_27 rfl (lv_at hl 1 rfl) ?_
        refine lv_iadd hx hb dX12_refusesMaking_28 ?_
        refine lv_topi (fun x_12 ex_12 => ?_)
        try rw [← ex_12] at hv
        have rx_12 : rgI (48) (71) x_12 := by rw [ex_12]; exact rg_w (rg_add rl_48 r_5 (by decide) (by decide)) (by decide) (by decide)
        obtain ⟨_, rfl, o_c_13⟩ := hH b0 _ k_b0
        have o_c_13 : va_at g.1 vwCl (b0, .inl (g.2.1 1, 122, .inl (G.2.1 b0))) s.heap := o_c_13
        refine hg_iald hx hb hK o_c_13 (rg_in (n := 122) rx_12 (by decide) (by decide)) dX12_refusesMaking_29 ?_
        refine lv_topi (fun x_14 ex_14 => ?_)
        try rw [← ex_14] at hv
        refine lv_if_ne (tgt := 38) hx hb dX12_refusesMaking_30 (by decide) (fun c_15 => ?_) (fun c_15 => ?_)
        · rw [if_neg c_15] at hv
          exact L_38  ls (lv_sub hl [] rfl) hv
        · rw [if_pos c_15] at hv
          have r_16 : rgI (0) (0) x_14 := rg_w (rg_eq rl_0 c_15) (by decide) (by decide)
          refine lv_bipush (v := (-2)) hx hb dX12_refusesMaking_33 (by decide) ?_
          refine lv_goto (tgt := 39) hx hb dX12_refusesMaking_35 (by decide) ?_
          exact W.iret hx hb hr (fun t ht hW => ⟨(-2), rfl, ⟨rg_w rl_m2 (by decide) (by decide), hv⟩, ht⟩) (fun q h => by cases h) dX12_refusesMaking_39
    · rw [if_pos c_7] at hv
      have r_17 : rgI (0) (0) x_6 := rg_w (rg_eq rl_0 c_7) (by decide) (by decide)
      exact L_17  ls (lv_sub hl [] rfl) hv

def F_X12_refusesUnmount (f0 : Nat → Int32) (a1 : Int32) (a2 : Int32) : Int32 := (if (F_X12_isThere (f0) a1) = (0 : Int32) then (-1 : Int32) else (if (F_X12_isDir a2) = (0 : Int32) then (-1 : Int32) else (if (F_X12_atOf (f0) a1 a2) = (24 : Int32) then (-2 : Int32) else (if (F_X12_childrenOf (f0) (F_X12_atOf (f0) a1 a2)) ≤ (0 : Int32) then (0 : Int32) else (-3 : Int32)))))
set_option maxHeartbeats 4000000 in
set_option maxRecDepth 100000 in
theorem c_X12_refusesUnmount (l : Launch) (g : Gx) (Ty : TyM) (G : Gh) (b0 : Nat) (a1 : Int32) (a2 : Int32) (k_b0 : Ty b0 = some (30, 122)) : Met l yX12_refusesUnmount (wsG yX12_refusesUnmount cX12_refusesUnmount 4 (some .int)) ({ frames := 2, cells := 0, slots := 0, locals := 43 }) (PcH g Ty G [.ref b0, .int a1, .int a2]) (vp_Si (fun r => rgI (-3) (0) r ∧ r = F_X12_refusesUnmount (G.2.1 b0) a1 a2)) 0 0 (fun _ => False) := by
  refine Met.ofW (cc := cX12_refusesUnmount) (maxL := 4) (ret := (some .int)) (by decide) rfl ?_
  intro p e s m args below meth c s₁ B hml hv
  obtain ⟨rfl, hK, hH⟩ := hv
  have hx := B.exec
  have hb := B.bytes
  have hr := B.returns
  have hts := atoms_spec (ws := (wsG yX12_refusesUnmount cX12_refusesUnmount 4 (some .int))) B.pre
  have hG : ∀ w ∈ GW, w.before ([.ref b0, .int a1, .int a2] : List Value).toArray s = true := fun w h => hts w (List.mem_cons_of_mem _ h)
  have hown : s.vm.findClass RX12 = some m.cls := findClass_of_methodNamed B.named
  have hlocks := B.notSynchronized
  have hl := lv_entry [.ref b0, .int a1, .int a2] (n := 4) (Nat.le_of_ble_eq_true rfl)
  rw [lg_entry_eq]
  generalize (lg_sl [.ref b0, .int a1, .int a2] ++ List.replicate (4 - (lg_sl [.ref b0, .int a1, .int a2]).length) Slot.unset).toArray = ls at hl ⊢
  have hl : lv_has ls 4 [(0, .ref b0), (1, .int a1), (2, .int a2)] := hl
  have hv : (if (F_X12_isThere ((G.2.1 b0)) a1) = (0 : Int32) then (-1 : Int32) else (if (F_X12_isDir a2) = (0 : Int32) then (-1 : Int32) else (if (F_X12_atOf ((G.2.1 b0)) a1 a2) = (24 : Int32) then (-2 : Int32) else (if (F_X12_childrenOf ((G.2.1 b0)) (F_X12_atOf ((G.2.1 b0)) a1 a2)) ≤ (0 : Int32) then (0 : Int32) else (-3 : Int32))))) = F_X12_refusesUnmount (G.2.1 b0) a1 a2 := rfl
  have L_15 : ∀ (ls : Array Slot), lv_has ls 4 [] → (-1 : Int32) = F_X12_refusesUnmount (G.2.1 b0) a1 a2 → Wm p l e (wsG yX12_refusesUnmount cX12_refusesUnmount 4 (some .int)) ({ frames := 2, cells := 0, slots := 0, locals := 43 }) s m [.ref b0, .int a1, .int a2] below meth c s.heap [] (0) (0) (vp_Si (fun r => rgI (-3) (0) r ∧ r = F_X12_refusesUnmount (G.2.1 b0) a1 a2)) 0 0 (fun _ => False) (F0 m 15 ls []) := by
    intro ls hl hv
    refine lv_iconst (v := (-1)) hx hb dX12_refusesUnmount_15 (by decide) ?_
    exact W.iret hx hb hr (fun t ht hW => ⟨(-1), rfl, ⟨rg_w rl_m1 (by decide) (by decide), hv⟩, ht⟩) (fun q h => by cases h) dX12_refusesUnmount_16
  refine lv_aload_n hx hb dX12_refusesUnmount_0 rfl (lv_at hl 0 rfl) ?_
  refine lv_iload_n hx hb dX12_refusesUnmount_1 rfl (lv_at hl 1 rfl) ?_
  refine vp_callSi (W.runS (As := [.ref b0, .int a1]) (rest := []) ⟨hx, hb, hml, hown, hts⟩ (c_X12_isThere l g Ty G b0 a1 k_b0) (cwSx 2 hts hG (gwC mw_1520) mw_88 mw_1518 mw_1519 rfl rfl rfl hd_X12_isThere ⟨Nat.le_of_ble_eq_true rfl, Nat.le_of_ble_eq_true rfl⟩) ⟨PcH_blind, PcH_pre hK hH⟩ rfl rfl hl.1 rfl (lv_room (Nat.le_of_ble_eq_true rfl)) dX12_refusesUnmount_2 ⟨Nat.zero_le _, Nat.zero_le _⟩) (fun x_1 hx_1 => ?_)
  have rx_1 : rgI (0) (1) x_1 := hx_1.1
  try rw [← hx_1.2.2] at hv
  refine lv_if_eq (tgt := 15) hx hb dX12_refusesUnmount_5 (by decide) (fun c_2 => ?_) (fun c_2 => ?_)
  · rw [if_pos c_2] at hv
    have r_3 : rgI (0) (0) x_1 := rg_w (rg_eq rl_0 c_2) (by decide) (by decide)
    exact L_15  ls (lv_sub hl [] rfl) hv
  · rw [if_neg c_2] at hv
    have r_4 : rgI (1) (1) x_1 := rg_w (rg_neL rx_1 rl_0 c_2) (by decide) (by decide)
    have r_5 : rgI (0) (23) a1 := rg_w (hx_1.2.1.resolve_left c_2) (by decide) (by decide)
    refine lv_iload_n hx hb dX12_refusesUnmount_8 rfl (lv_at hl 2 rfl) ?_
    refine vp_callSi (W.runS (As := [.int a2]) (rest := []) ⟨hx, hb, hml, hown, hts⟩ (c_X12_isDir l g Ty G a2 ) (cwSx 1 hts hG (gwC mw_1537) mw_88 mw_1535 mw_1536 rfl rfl rfl hd_X12_isDir ⟨Nat.le_of_ble_eq_true rfl, Nat.le_of_ble_eq_true rfl⟩) ⟨PcH_blind, PcH_pre hK hH⟩ rfl rfl hl.1 rfl (lv_room (Nat.le_of_ble_eq_true rfl)) dX12_refusesUnmount_9 ⟨Nat.zero_le _, Nat.zero_le _⟩) (fun x_6 hx_6 => ?_)
    have rx_6 : rgI (0) (1) x_6 := hx_6.1
    try rw [← hx_6.2] at hv
    refine lv_if_ne (tgt := 17) hx hb dX12_refusesUnmount_12 (by decide) (fun c_7 => ?_) (fun c_7 => ?_)
    · rw [if_neg c_7] at hv
      have r_8 : rgI (1) (1) x_6 := rg_w (rg_neL rx_6 rl_0 c_7) (by decide) (by decide)
      refine lv_aload_n hx hb dX12_refusesUnmount_17 rfl (lv_at hl 0 rfl) ?_
      refine lv_iload_n hx hb dX12_refusesUnmount_18 rfl (lv_at hl 1 rfl) ?_
      refine lv_iload_n hx hb dX12_refusesUnmount_19 rfl (lv_at hl 2 rfl) ?_
      refine vp_callSi (W.runS (As := [.ref b0, .int a1, .int a2]) (rest := []) ⟨hx, hb, hml, hown, hts⟩ (c_X12_atOf l g Ty G b0 a1 a2 k_b0) (cwSx 3 hts hG (gwC mw_1509) mw_88 mw_1507 mw_1508 rfl rfl rfl hd_X12_atOf ⟨Nat.le_of_ble_eq_true rfl, Nat.le_of_ble_eq_true rfl⟩) ⟨PcH_blind, PcH_pre hK hH⟩ rfl rfl hl.1 rfl (lv_room (Nat.le_of_ble_eq_true rfl)) dX12_refusesUnmount_20 ⟨Nat.zero_le _, Nat.zero_le _⟩) (fun x_9 hx_9 => ?_)
      have rx_9 : rgI (1) (24) x_9 := hx_9.1
      try rw [← hx_9.2] at hv
      refine lv_istore_n (lv' := [(3, .int x_9), (0, .ref b0), (1, .int a1), (2, .int a2)]) hx hb dX12_refusesUnmount_23 rfl hl (by decide) rfl (fun ls hl => ?_)
      refine lv_iload_n hx hb dX12_refusesUnmount_24 rfl (lv_at hl 0 rfl) ?_
      refine lv_bipush (v := 24) hx hb dX12_refusesUnmount_25 (by decide) ?_
      refine lv_icmp_ne (tgt := 33) hx hb dX12_refusesUnmount_27 (by decide) (fun c_10 => ?_) (fun c_10 => ?_)
      · rw [if_neg c_10] at hv
        have r_11 : rgI (1) (23) x_9 := rg_w (rg_neR rx_9 rl_24 c_10) (by decide) (by decide)
        refine lv_aload_n hx hb dX12_refusesUnmount_33 rfl (lv_at hl 1 rfl) ?_
        refine lv_iload_n hx hb dX12_refusesUnmount_34 rfl (lv_at hl 0 rfl) ?_
        refine vp_callSi (W.runS (As := [.ref b0, .int x_9]) (rest := []) ⟨hx, hb, hml, hown, hts⟩ (c_X12_childrenOf l g Ty G b0 x_9 k_b0) (cwSx 2 hts hG (gwC mw_1576) mw_88 mw_1574 mw_1575 rfl rfl rfl hd_X12_childrenOf ⟨Nat.le_of_ble_eq_true rfl, Nat.le_of_ble_eq_true rfl⟩) ⟨PcH_blind, PcH_pre hK hH⟩ rfl rfl hl.1 rfl (lv_room (Nat.le_of_ble_eq_true rfl)) dX12_refusesUnmount_35 ⟨Nat.zero_le _, Nat.zero_le _⟩) (fun x_12 hx_12 => ?_)
        try rw [← hx_12] at hv
        refine lv_if_le (tgt := 46) hx hb dX12_refusesUnmount_38 (by decide) (fun c_13 => ?_) (fun c_13 => ?_)
        · rw [if_pos c_13] at hv
          have r_14 : rgI (-2147483648) (0) x_12 := rg_w (rg_leL (rg_top x_12) rl_0 c_13) (by decide) (by decide)
          refine lv_iconst (v := 0) hx hb dX12_refusesUnmount_46 (by decide) ?_
          exact W.iret hx hb hr (fun t ht hW => ⟨0, rfl, ⟨rg_w rl_0 (by decide) (by decide), hv⟩, ht⟩) (fun q h => by cases h) dX12_refusesUnmount_47
        · rw [if_neg c_13] at hv
          have r_15 : rgI (1) (2147483647) x_12 := rg_w (rg_ltR rl_0 (rg_top x_12) (nle_lt c_13)) (by decide) (by decide)
          refine lv_bipush (v := (-3)) hx hb dX12_refusesUnmount_41 (by decide) ?_
          refine lv_goto (tgt := 47) hx hb dX12_refusesUnmount_43 (by decide) ?_
          exact W.iret hx hb hr (fun t ht hW => ⟨(-3), rfl, ⟨rg_w rl_m3 (by decide) (by decide), hv⟩, ht⟩) (fun q h => by cases h) dX12_refusesUnmount_47
      · rw [if_pos c_10] at hv
        have r_16 : rgI (24) (24) x_9 := rg_w (rg_eq rl_24 c_10) (by decide) (by decide)
        refine lv_bipush (v := (-2)) hx hb dX12_refusesUnmount_30 (by decide) ?_
        exact W.iret hx hb hr (fun t ht hW => ⟨(-2), rfl, ⟨rg_w rl_m2 (by decide) (by decide), hv⟩, ht⟩) (fun q h => by cases h) dX12_refusesUnmount_32
    · rw [if_pos c_7] at hv
      have r_17 : rgI (0) (0) x_6 := rg_w (rg_eq rl_0 c_7) (by decide) (by decide)
      exact L_15  ls (lv_sub hl [] rfl) hv

def F_X12_stepsOf_4 (f0 : Nat → Int32) : Nat → Int32 → Int32 → Int32
  | 0, y2, _ => y2
  | n + 1, y2, y3 => (if y3 = (0 : Int32) then y2 else (F_X12_stepsOf_4 f0 n (y2 + (1 : Int32)) (f0 (Int32.toNatClampNeg y3))))
def F_X12_stepsOf (f0 : Nat → Int32) (a1 : Int32) : Int32 := (F_X12_stepsOf_4 f0 25 (0 : Int32) a1)
set_option maxHeartbeats 4000000 in
set_option maxRecDepth 100000 in
theorem c_X12_stepsOf (l : Launch) (g : Gx) (Ty : TyM) (G : Gh) (b0 : Nat) (a1 : Int32) (k_b0 : Ty b0 = some (30, 122)) (ρ : Nat → Nat) (hT : P1 (G.2.1 b0) ρ) (hm0 : thr (G.2.1 b0) a1) : Met l yX12_stepsOf (wsG yX12_stepsOf cX12_stepsOf 4 (some .int)) ({ frames := 0, cells := 0, slots := 0, locals := 0 }) (PcH g Ty G [.ref b0, .int a1]) (vp_Si (fun r => rgI (0) (23) r ∧ r = F_X12_stepsOf (G.2.1 b0) a1)) 0 0 (fun _ => False) := by
  refine Met.ofW (cc := cX12_stepsOf) (maxL := 4) (ret := (some .int)) (by decide) rfl ?_
  intro p e s m args below meth c s₁ B hml hv
  obtain ⟨rfl, hK, hH⟩ := hv
  have hx := B.exec
  have hb := B.bytes
  have hr := B.returns
  have hts := atoms_spec (ws := (wsG yX12_stepsOf cX12_stepsOf 4 (some .int))) B.pre
  have hG : ∀ w ∈ GW, w.before ([.ref b0, .int a1] : List Value).toArray s = true := fun w h => hts w (List.mem_cons_of_mem _ h)
  have hown : s.vm.findClass RX12 = some m.cls := findClass_of_methodNamed B.named
  have hlocks := B.notSynchronized
  have hl := lv_entry [.ref b0, .int a1] (n := 4) (Nat.le_of_ble_eq_true rfl)
  rw [lg_entry_eq]
  generalize (lg_sl [.ref b0, .int a1] ++ List.replicate (4 - (lg_sl [.ref b0, .int a1]).length) Slot.unset).toArray = ls at hl ⊢
  have hl : lv_has ls 4 [(0, .ref b0), (1, .int a1)] := hl
  have hv : (F_X12_stepsOf_4 (G.2.1 b0) 25 (0 : Int32) a1) = F_X12_stepsOf (G.2.1 b0) a1 := rfl
  have L_4 : ∀ (n_4 : Nat) (y2_4 : Int32) (y3_4 : Int32) (ls : Array Slot), thr (G.2.1 b0) y3_4 → 0 ≤ (y2_4 : Int32).toInt ∧ (y2_4 : Int32).toInt + (ρ (y3_4 : Int32).toNatClampNeg : Int) ≤ (ρ (a1 : Int32).toNatClampNeg : Int) → ρ (y3_4 : Int32).toNatClampNeg < n_4 → lv_has ls 4 [(0, .ref b0), (2, .int y2_4), (3, .int y3_4)] → (F_X12_stepsOf_4 (G.2.1 b0) n_4 y2_4 y3_4) = F_X12_stepsOf (G.2.1 b0) a1 → Wm p l e (wsG yX12_stepsOf cX12_stepsOf 4 (some .int)) ({ frames := 0, cells := 0, slots := 0, locals := 0 }) s m [.ref b0, .int a1] below meth c s.heap [] (0) (0) (vp_Si (fun r => rgI (0) (23) r ∧ r = F_X12_stepsOf (G.2.1 b0) a1)) 0 0 (fun _ => False) (F0 m 4 ls []) := by
    intro n_4
    induction n_4 with
    | zero => intro y2_4 y3_4 ls hi0_4 hi1_4 hm; exact absurd hm (Nat.not_lt_zero _)
    | succ n_4 ih_4 =>
      intro y2_4 y3_4 ls hi0_4 hi1_4 hm_4 hl hv
      rw [F_X12_stepsOf_4] at hv
      refine lv_iload_n hx hb dX12_stepsOf_4 rfl (lv_at hl 2 rfl) ?_
      refine lv_if_eq (tgt := 18) hx hb dX12_stepsOf_5 (by decide) (fun c_1 => ?_) (fun c_1 => ?_)
      · rw [if_pos c_1] at hv
        have r_2 : rgI (0) (0) y3_4 := rg_w (rg_eq rl_0 c_1) (by decide) (by decide)
        refine lv_iload_n hx hb dX12_stepsOf_18 rfl (lv_at hl 1 rfl) ?_
        exact W.iret hx hb hr (fun t ht hW => ⟨y2_4, rfl, ⟨⟨hi1_4.1, by have q1 := hi1_4.2; have q2 := hT.2.2 (a1 : Int32).toNatClampNeg; omega⟩, hv⟩, ht⟩) (fun q h => by cases h) dX12_stepsOf_19
      · rw [if_neg c_1] at hv
        obtain ⟨x_3, ex_3⟩ : ∃ y : Int32, y = y2_4 + 1 := ⟨_, rfl⟩
        try rw [← ex_3] at hv
        refine lv_iinc (v := x_3) (lv' := [(2, .int x_3), (0, .ref b0), (3, .int y3_4)]) hx hb dX12_stepsOf_8 hl (k := 1) rfl (by rw [ex_3]; rfl) (by decide) rfl (fun ls hl => ?_)
        refine lv_aload_n hx hb dX12_stepsOf_11 rfl (lv_at hl 1 rfl) ?_
        refine lv_iload_n hx hb dX12_stepsOf_12 rfl (lv_at hl 2 rfl) ?_
        obtain ⟨_, rfl, o_c_4⟩ := hH b0 _ k_b0
        have o_c_4 : va_at g.1 vwCl (b0, .inl (g.2.1 1, 122, .inl (G.2.1 b0))) s.heap := o_c_4
        have in_5 : vp_in y3_4 122 := rg_in (n := 122) hi0_4.1 (by decide) (by decide)
        refine hg_iald hx hb hK o_c_4 in_5 dX12_stepsOf_13 ?_
        refine lv_topi (fun x_6 ex_6 => ?_)
        try rw [← ex_6] at hv
        refine lv_istore_n (lv' := [(3, .int x_6), (2, .int x_3), (0, .ref b0)]) hx hb dX12_stepsOf_14 rfl hl (by decide) rfl (fun ls hl => ?_)
        refine lv_goto (tgt := 4) hx hb dX12_stepsOf_15 (by decide) ?_
        exact ih_4 x_3 x_6 ls (by rw [ex_6]; exact (hT.2.1 _ hi0_4 c_1).1) (st_up hi1_4 (hT.2.2 _) (by have q := (hT.2.1 _ hi0_4 c_1).2; rw [← ex_6] at q; exact q) ex_3) (by have q := (hT.2.1 _ hi0_4 c_1).2; rw [← ex_6] at q; omega) (lv_sub hl [2, 1, 0] rfl) hv
  refine lv_iconst (v := 0) hx hb dX12_stepsOf_0 (by decide) ?_
  refine lv_istore_n (lv' := [(2, .int 0), (0, .ref b0), (1, .int a1)]) hx hb dX12_stepsOf_1 rfl hl (by decide) rfl (fun ls hl => ?_)
  refine lv_iload_n hx hb dX12_stepsOf_2 rfl (lv_at hl 2 rfl) ?_
  refine lv_istore_n (lv' := [(3, .int a1), (2, .int 0), (0, .ref b0), (1, .int a1)]) hx hb dX12_stepsOf_3 rfl hl (by decide) rfl (fun ls hl => ?_)
  exact L_4 25 0 a1 ls hm0 ⟨by decide, by show (0 : Int) + _ ≤ _; omega⟩ (by have q := hT.2.2 (a1 : Int32).toNatClampNeg; omega) (lv_sub hl [2, 1, 0] rfl) hv

def F_X12_isIn_2 (f0 : Nat → Int32) : Nat → Int32 → Int32 → Int32
  | 0, _, _ => 0
  | n + 1, y2, y3 => (if y3 = (0 : Int32) then (0 : Int32) else (if (f0 (Int32.toNatClampNeg y3)) = y2 then (1 : Int32) else (F_X12_isIn_2 f0 n y2 (f0 (Int32.toNatClampNeg y3)))))
def F_X12_isIn (f0 : Nat → Int32) (a1 : Int32) (a2 : Int32) : Int32 := (F_X12_isIn_2 f0 25 a2 a1)
set_option maxHeartbeats 4000000 in
set_option maxRecDepth 100000 in
theorem c_X12_isIn (l : Launch) (g : Gx) (Ty : TyM) (G : Gh) (b0 : Nat) (a1 : Int32) (a2 : Int32) (k_b0 : Ty b0 = some (30, 122)) (ρ : Nat → Nat) (hT : P1 (G.2.1 b0) ρ) (hm0 : thr (G.2.1 b0) a1) : Met l yX12_isIn (wsG yX12_isIn cX12_isIn 4 (some .boolean)) ({ frames := 0, cells := 0, slots := 0, locals := 0 }) (PcH g Ty G [.ref b0, .int a1, .int a2]) (vp_Si (fun r => rgI (0) (1) r ∧ r = F_X12_isIn (G.2.1 b0) a1 a2)) 0 0 (fun _ => False) := by
  refine Met.ofW (cc := cX12_isIn) (maxL := 4) (ret := (some .boolean)) (by decide) rfl ?_
  intro p e s m args below meth c s₁ B hml hv
  obtain ⟨rfl, hK, hH⟩ := hv
  have hx := B.exec
  have hb := B.bytes
  have hr := B.returns
  have hts := atoms_spec (ws := (wsG yX12_isIn cX12_isIn 4 (some .boolean))) B.pre
  have hG : ∀ w ∈ GW, w.before ([.ref b0, .int a1, .int a2] : List Value).toArray s = true := fun w h => hts w (List.mem_cons_of_mem _ h)
  have hown : s.vm.findClass RX12 = some m.cls := findClass_of_methodNamed B.named
  have hlocks := B.notSynchronized
  have hl := lv_entry [.ref b0, .int a1, .int a2] (n := 4) (Nat.le_of_ble_eq_true rfl)
  rw [lg_entry_eq]
  generalize (lg_sl [.ref b0, .int a1, .int a2] ++ List.replicate (4 - (lg_sl [.ref b0, .int a1, .int a2]).length) Slot.unset).toArray = ls at hl ⊢
  have hl : lv_has ls 4 [(0, .ref b0), (1, .int a1), (2, .int a2)] := hl
  have hv : (F_X12_isIn_2 (G.2.1 b0) 25 a2 a1) = F_X12_isIn (G.2.1 b0) a1 a2 := rfl
  have L_2 : ∀ (n_2 : Nat) (y3_2 : Int32) (ls : Array Slot), thr (G.2.1 b0) y3_2 → ρ (y3_2 : Int32).toNatClampNeg < n_2 → lv_has ls 4 [(0, .ref b0), (2, .int a2), (3, .int y3_2)] → (F_X12_isIn_2 (G.2.1 b0) n_2 a2 y3_2) = F_X12_isIn (G.2.1 b0) a1 a2 → Wm p l e (wsG yX12_isIn cX12_isIn 4 (some .boolean)) ({ frames := 0, cells := 0, slots := 0, locals := 0 }) s m [.ref b0, .int a1, .int a2] below meth c s.heap [] (0) (0) (vp_Si (fun r => rgI (0) (1) r ∧ r = F_X12_isIn (G.2.1 b0) a1 a2)) 0 0 (fun _ => False) (F0 m 2 ls []) := by
    intro n_2
    induction n_2 with
    | zero => intro y3_2 ls hi0_2 hm; exact absurd hm (Nat.not_lt_zero _)
    | succ n_2 ih_2 =>
      intro y3_2 ls hi0_2 hm_2 hl hv
      rw [F_X12_isIn_2] at hv
      refine lv_iload_n hx hb dX12_isIn_2 rfl (lv_at hl 2 rfl) ?_
      refine lv_if_eq (tgt := 22) hx hb dX12_isIn_3 (by decide) (fun c_1 => ?_) (fun c_1 => ?_)
      · rw [if_pos c_1] at hv
        have r_2 : rgI (0) (0) y3_2 := rg_w (rg_eq rl_0 c_1) (by decide) (by decide)
        refine lv_iconst (v := 0) hx hb dX12_isIn_22 (by decide) ?_
        exact W.zret hx hb hr rfl (fun t ht hW => ⟨0, rfl, ⟨rg_w rl_0 (by decide) (by decide), hv⟩, ht⟩) (fun q h => by cases h) dX12_isIn_23
      · rw [if_neg c_1] at hv
        refine lv_aload_n hx hb dX12_isIn_6 rfl (lv_at hl 0 rfl) ?_
        refine lv_iload_n hx hb dX12_isIn_7 rfl (lv_at hl 2 rfl) ?_
        obtain ⟨_, rfl, o_c_3⟩ := hH b0 _ k_b0
        have o_c_3 : va_at g.1 vwCl (b0, .inl (g.2.1 1, 122, .inl (G.2.1 b0))) s.heap := o_c_3
        have in_4 : vp_in y3_2 122 := rg_in (n := 122) hi0_2.1 (by decide) (by decide)
        refine hg_iald hx hb hK o_c_3 in_4 dX12_isIn_8 ?_
        refine lv_topi (fun x_5 ex_5 => ?_)
        try rw [← ex_5] at hv
        refine lv_iload_n hx hb dX12_isIn_9 rfl (lv_at hl 1 rfl) ?_
        refine lv_icmp_ne (tgt := 15) hx hb dX12_isIn_10 (by decide) (fun c_6 => ?_) (fun c_6 => ?_)
        · rw [if_neg c_6] at hv
          refine lv_aload_n hx hb dX12_isIn_15 rfl (lv_at hl 0 rfl) ?_
          refine lv_iload_n hx hb dX12_isIn_16 rfl (lv_at hl 2 rfl) ?_
          have in_7 : vp_in y3_2 122 := rg_in (n := 122) hi0_2.1 (by decide) (by decide)
          refine hg_iald hx hb hK o_c_3 in_7 dX12_isIn_17 ?_
          refine lv_topi (fun x_8 ex_8 => ?_)
          try rw [← ex_8] at hv
          have q_9 : x_5 = x_8 := ex_5.trans ex_8.symm
          subst q_9
          refine lv_istore_n (lv' := [(3, .int x_5), (0, .ref b0), (2, .int a2)]) hx hb dX12_isIn_18 rfl hl (by decide) rfl (fun ls hl => ?_)
          refine lv_goto (tgt := 2) hx hb dX12_isIn_19 (by decide) ?_
          exact ih_2 x_5 ls (by rw [ex_5]; exact (hT.2.1 _ hi0_2 c_1).1) (by have q := (hT.2.1 _ hi0_2 c_1).2; rw [← ex_5] at q; omega) (lv_sub hl [1, 2, 0] rfl) hv
        · rw [if_pos c_6] at hv
          refine lv_iconst (v := 1) hx hb dX12_isIn_13 (by decide) ?_
          exact W.zret hx hb hr rfl (fun t ht hW => ⟨1, rfl, ⟨rg_w rl_1 (by decide) (by decide), hv⟩, ht⟩) (fun q h => by cases h) dX12_isIn_14
  refine lv_iload_n hx hb dX12_isIn_0 rfl (lv_at hl 1 rfl) ?_
  refine lv_istore_n (lv' := [(3, .int a1), (0, .ref b0), (1, .int a1), (2, .int a2)]) hx hb dX12_isIn_1 rfl hl (by decide) rfl (fun ls hl => ?_)
  exact L_2 25 a1 ls hm0 (by have q := hT.2.2 (a1 : Int32).toNatClampNeg; omega) (lv_sub hl [1, 3, 0] rfl) hv
