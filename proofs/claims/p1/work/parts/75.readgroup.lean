def F_X12_product_6 (rdf askf : Nat → Int32) (len top isA : Int32) (th : Int32 → Int32 → Int32 → Int32 × Int32 × Int32) : Nat → Int32 → Int32 → Int32 → Int32 → Int32 × Int32 × Int32
  | 0, _, _, ya, yw => (0, ya, yw)
  | n + 1, y1, y2, ya, yw => (if (F_X12_fine rdf askf len top isA  ya yw) = (0 : Int32) then (y2, ya, yw) else (if (F_X12_here rdf askf len top isA  ya yw) = (42 : Int32) then (if (F_X12_here rdf askf len top isA  ya yw) = (42 : Int32) then (bn3 (th y1 (ya + (1 : Int32)) yw) (fun bv2 ba2 bw2 => (if (1 : Int32) = (0 : Int32) then (if bv2 = (0 : Int32) then (F_X12_product_6 rdf askf len top isA th n y1 (0 : Int32) ba2 bw2) else (F_X12_product_6 rdf askf len top isA th n y1 (y2 / bv2) ba2 bw2)) else (F_X12_product_6 rdf askf len top isA th n y1 (y2 * bv2) ba2 bw2)))) else (bn3 (th y1 (ya + (1 : Int32)) yw) (fun bv1 ba1 bw1 => (if (0 : Int32) = (0 : Int32) then (if bv1 = (0 : Int32) then (F_X12_product_6 rdf askf len top isA th n y1 (0 : Int32) ba1 bw1) else (F_X12_product_6 rdf askf len top isA th n y1 (y2 / bv1) ba1 bw1)) else (F_X12_product_6 rdf askf len top isA th n y1 (y2 * bv1) ba1 bw1))))) else (if (F_X12_here rdf askf len top isA  ya yw) = (47 : Int32) then (if (F_X12_here rdf askf len top isA  ya yw) = (42 : Int32) then (bn3 (th y1 (ya + (1 : Int32)) yw) (fun bv4 ba4 bw4 => (if (1 : Int32) = (0 : Int32) then (if bv4 = (0 : Int32) then (F_X12_product_6 rdf askf len top isA th n y1 (0 : Int32) ba4 bw4) else (F_X12_product_6 rdf askf len top isA th n y1 (y2 / bv4) ba4 bw4)) else (F_X12_product_6 rdf askf len top isA th n y1 (y2 * bv4) ba4 bw4)))) else (bn3 (th y1 (ya + (1 : Int32)) yw) (fun bv3 ba3 bw3 => (if (0 : Int32) = (0 : Int32) then (if bv3 = (0 : Int32) then (F_X12_product_6 rdf askf len top isA th n y1 (0 : Int32) ba3 bw3) else (F_X12_product_6 rdf askf len top isA th n y1 (y2 / bv3) ba3 bw3)) else (F_X12_product_6 rdf askf len top isA th n y1 (y2 * bv3) ba3 bw3))))) else (y2, ya, yw))))
def F_X12_product (rdf askf : Nat → Int32) (len top isA : Int32) (th : Int32 → Int32 → Int32 → Int32 × Int32 × Int32) (a0 ya yw : Int32) : Int32 × Int32 × Int32 := (bn3 (th a0 ya yw) (fun bv5 ba5 bw5 => (F_X12_product_6 rdf askf len top isA th 82 a0 bv5 ba5 bw5)))
def F_X12_sum_6 (rdf askf : Nat → Int32) (len top isA : Int32) (th : Int32 → Int32 → Int32 → Int32 × Int32 × Int32) : Nat → Int32 → Int32 → Int32 → Int32 → Int32 × Int32 × Int32
  | 0, _, _, ya, yw => (0, ya, yw)
  | n + 1, y1, y2, ya, yw => (if (F_X12_fine rdf askf len top isA  ya yw) = (0 : Int32) then (y2, ya, yw) else (if (F_X12_here rdf askf len top isA  ya yw) = (43 : Int32) then (if (F_X12_here rdf askf len top isA  ya yw) = (43 : Int32) then (bn3 (F_X12_product rdf askf len top isA th y1 (ya + (1 : Int32)) yw) (fun bv2 ba2 bw2 => (if (1 : Int32) = (0 : Int32) then (F_X12_sum_6 rdf askf len top isA th n y1 (y2 - bv2) ba2 bw2) else (F_X12_sum_6 rdf askf len top isA th n y1 (y2 + bv2) ba2 bw2)))) else (bn3 (F_X12_product rdf askf len top isA th y1 (ya + (1 : Int32)) yw) (fun bv1 ba1 bw1 => (if (0 : Int32) = (0 : Int32) then (F_X12_sum_6 rdf askf len top isA th n y1 (y2 - bv1) ba1 bw1) else (F_X12_sum_6 rdf askf len top isA th n y1 (y2 + bv1) ba1 bw1))))) else (if (F_X12_here rdf askf len top isA  ya yw) = (45 : Int32) then (if (F_X12_here rdf askf len top isA  ya yw) = (43 : Int32) then (bn3 (F_X12_product rdf askf len top isA th y1 (ya + (1 : Int32)) yw) (fun bv4 ba4 bw4 => (if (1 : Int32) = (0 : Int32) then (F_X12_sum_6 rdf askf len top isA th n y1 (y2 - bv4) ba4 bw4) else (F_X12_sum_6 rdf askf len top isA th n y1 (y2 + bv4) ba4 bw4)))) else (bn3 (F_X12_product rdf askf len top isA th y1 (ya + (1 : Int32)) yw) (fun bv3 ba3 bw3 => (if (0 : Int32) = (0 : Int32) then (F_X12_sum_6 rdf askf len top isA th n y1 (y2 - bv3) ba3 bw3) else (F_X12_sum_6 rdf askf len top isA th n y1 (y2 + bv3) ba3 bw3))))) else (y2, ya, yw))))
def F_X12_sum (rdf askf : Nat → Int32) (len top isA : Int32) (th : Int32 → Int32 → Int32 → Int32 × Int32 × Int32) (a0 ya yw : Int32) : Int32 × Int32 × Int32 := (bn3 (F_X12_product rdf askf len top isA th a0 ya yw) (fun bv5 ba5 bw5 => (F_X12_sum_6 rdf askf len top isA th 82 a0 bv5 ba5 bw5)))
def F_X12_held (rdf askf : Nat → Int32) (len top isA : Int32) (th : Int32 → Int32 → Int32 → Int32 × Int32 × Int32) (a0 ya yw : Int32) : Int32 × Int32 × Int32 := (bn3 (F_X12_sum rdf askf len top isA th a0 ya yw) (fun bv1 ba1 bw1 => (bn3 (F_X12_passes rdf askf len top isA (60 : Int32) ba1 bw1) (fun bv2 ba2 bw2 => (if bv2 = (0 : Int32) then (bn3 (F_X12_passes rdf askf len top isA (62 : Int32) ba2 bw2) (fun bv3 ba3 bw3 => (if bv3 = (0 : Int32) then (bn3 (F_X12_passes rdf askf len top isA (61 : Int32) ba3 bw3) (fun bv4 ba4 bw4 => (if bv4 = (0 : Int32) then (bv1, ba4, bw4) else (bn3 (F_X12_sum rdf askf len top isA th a0 ba4 bw4) (fun bv5 ba5 bw5 => (if bv1 = bv5 then ((1 : Int32), ba5, bw5) else ((0 : Int32), ba5, bw5))))))) else (bn3 (F_X12_sum rdf askf len top isA th a0 ba3 bw3) (fun bv6 ba6 bw6 => (if bv1 ≤ bv6 then ((0 : Int32), ba6, bw6) else ((1 : Int32), ba6, bw6))))))) else (bn3 (F_X12_sum rdf askf len top isA th a0 ba2 bw2) (fun bv7 ba7 bw7 => (if bv7 ≤ bv1 then ((0 : Int32), ba7, bw7) else ((1 : Int32), ba7, bw7)))))))))
def F_X12_thing (rdf askf : Nat → Int32) (len top isA : Int32) : Nat → Int32 → Int32 → Int32 → Int32 × Int32 × Int32
  | 0, _, ya, yw => (0, ya, yw)
  | n + 1, a0, ya, yw => (bn3 (F_X12_passes rdf askf len top isA (45 : Int32) ya yw) (fun bv1 ba1 bw1 => (if bv1 = (0 : Int32) then (if (F_X12_fine rdf askf len top isA  ba1 bw1) = (0 : Int32) then ((0 : Int32), ba1, bw1) else (if (F_X12_here rdf askf len top isA  ba1 bw1) = (40 : Int32) then (if (4 : Int32) ≤ a0 then (if (F_X12_in (F_X12_here rdf askf len top isA  ba1 bw1) (48 : Int32) (57 : Int32)) = (0 : Int32) then (if (F_X12_letterOf (F_X12_here rdf askf len top isA  ba1 bw1)) = (-1 : Int32) then (bn3 (F_X12_fault rdf askf len top isA ba1 ba1 bw1) (fun _ ba4 bw4 => ((0 : Int32), ba4, bw4))) else (if isA = (0 : Int32) then ((0 : Int32), (ba1 + (1 : Int32)), bw1) else ((askf (Int32.toNatClampNeg (F_X12_letterOf (F_X12_here rdf askf len top isA  ba1 bw1)))), (ba1 + (1 : Int32)), bw1))) else (bn3 (F_X12_number rdf askf len top isA (3 : Int32) ba1 bw1) (fun bv5 ba5 bw5 => (bv5, ba5, bw5)))) else (bn3 (F_X12_held rdf askf len top isA (F_X12_thing rdf askf len top isA n) (a0 + (1 : Int32)) (ba1 + (1 : Int32)) bw1) (fun bv6 ba6 bw6 => (bn3 (F_X12_need rdf askf len top isA (41 : Int32) ba6 bw6) (fun _ ba7 bw7 => (bv6, ba7, bw7)))))) else (if (F_X12_in (F_X12_here rdf askf len top isA  ba1 bw1) (48 : Int32) (57 : Int32)) = (0 : Int32) then (if (F_X12_letterOf (F_X12_here rdf askf len top isA  ba1 bw1)) = (-1 : Int32) then (bn3 (F_X12_fault rdf askf len top isA ba1 ba1 bw1) (fun _ ba2 bw2 => ((0 : Int32), ba2, bw2))) else (if isA = (0 : Int32) then ((0 : Int32), (ba1 + (1 : Int32)), bw1) else ((askf (Int32.toNatClampNeg (F_X12_letterOf (F_X12_here rdf askf len top isA  ba1 bw1)))), (ba1 + (1 : Int32)), bw1))) else (bn3 (F_X12_number rdf askf len top isA (3 : Int32) ba1 bw1) (fun bv3 ba3 bw3 => (bv3, ba3, bw3)))))) else (bn3 (F_X12_thing rdf askf len top isA n a0 ba1 bw1) (fun bv8 ba8 bw8 => ((-bv8), ba8, bw8))))))
def TH_X12 (l : Launch) (g : Gx) (nr : Nat) : Prop := ∀ (Ty : TyM) (G : Gh) (sz : Nat) (h0 : Nat) (a0 : Int32) (k_h0 : Ty h0 = some (22, 0)) (rd nn : Nat) (rdf askf : Nat → Int32) (len top isA : Int32) (M : Int) (at0 wr0 : Int32) (hPE : PE g Ty G rd nn rdf askf len top isA M at0 wr0) (hmz : (81 - at0.toInt).toNat < nr), Met l yX12_thing (wsG yX12_thing cX12_thing 4 (some .int)) ({ frames := 6 + 4 * nr, cells := 0, slots := 0, locals := 200 + 93 * nr }) (PcT g Ty G sz [.ref h0, .int a0]) (QwI g Ty sz (fun r u => u.1 = Ty ∧ PR G u.2 r at0 M (F_X12_thing rdf askf len top isA nr a0 at0 wr0))) 0 0 (AF Ty sz)

set_option maxHeartbeats 4000000 in
set_option maxRecDepth 100000 in
theorem c_X12_product (l : Launch) (g : Gx) (nr : Nat) (hth : TH_X12 l g nr) (Ty : TyM) (G : Gh) (sz : Nat) (h0 : Nat) (a0 : Int32) (k_h0 : Ty h0 = some (22, 0)) (rd nn : Nat) (rdf askf : Nat → Int32) (len top isA : Int32) (M : Int) (at0 wr0 : Int32) (hPE : PE g Ty G rd nn rdf askf len top isA M at0 wr0) (hmz : (81 - at0.toInt).toNat < nr) : Met l yX12_product (wsG yX12_product cX12_product 5 (some .int)) ({ frames := 7 + 4 * nr, cells := 0, slots := 0, locals := 223 + 93 * nr }) (PcT g Ty G sz [.ref h0, .int a0]) (QwI g Ty sz (fun r u => u.1 = Ty ∧ PR G u.2 r at0 M (F_X12_product rdf askf len top isA (F_X12_thing rdf askf len top isA nr) a0 at0 wr0))) 0 0 (AF Ty sz) := by
  refine Met.ofW (cc := cX12_product) (maxL := 5) (ret := (some .int)) (by decide) rfl ?_
  intro p e s m args below meth c s₁ B hml hv
  obtain ⟨rfl, hsz, hK, hH⟩ := hv
  subst hsz
  have hx := B.exec
  have hb := B.bytes
  have hr := B.returns
  have hts := atoms_spec (ws := (wsG yX12_product cX12_product 5 (some .int))) B.pre
  have hG : ∀ w ∈ GW, w.before ([.ref h0, .int a0] : List Value).toArray s = true := fun w h => hts w (List.mem_cons_of_mem _ h)
  have hown : s.vm.findClass RX12 = some m.cls := findClass_of_methodNamed B.named
  have hlocks := B.notSynchronized
  have hl := lv_entry [.ref h0, .int a0] (n := 5) (Nat.le_of_ble_eq_true rfl)
  rw [lg_entry_eq]
  generalize (lg_sl [.ref h0, .int a0] ++ List.replicate (5 - (lg_sl [.ref h0, .int a0]).length) Slot.unset).toArray = ls at hl ⊢
  have hl : lv_has ls 5 [(0, .ref h0), (1, .int a0)] := hl
  have hp0 : G = pst G at0 wr0 := pst_id hPE
  have hv : (bn3 (F_X12_thing rdf askf len top isA nr a0 at0 wr0) (fun bv6 ba6 bw6 => (F_X12_product_6 rdf askf len top isA (F_X12_thing rdf askf len top isA nr) 82 a0 bv6 ba6 bw6))) = F_X12_product rdf askf len top isA (F_X12_thing rdf askf len top isA nr) a0 at0 wr0 := rfl
  have hS : va_S (AF Ty s.heap.size) s.heap s.heap [] := va_S.rf
  have L_91 : ∀ (H : Heap) (locs : List Loc) (G_91 : Gh) (pa_91 : Int32) (pw_91 : Int32) (y2_91 : Int32) (ls : Array Slot), PE g Ty G_91 rd nn rdf askf len top isA M pa_91 pw_91 → G_91 = pst G pa_91 pw_91 → at0.toInt ≤ (pa_91 : Int32).toInt → lv_has ls 5 [(2, .int y2_91)] → (y2_91, pa_91, pw_91) = F_X12_product rdf askf len top isA (F_X12_thing rdf askf len top isA nr) a0 at0 wr0 → HT g Ty G_91 H → va_S (AF Ty s.heap.size) s.heap H locs → Wm p l e (wsG yX12_product cX12_product 5 (some .int)) ({ frames := 7 + 4 * nr, cells := 0, slots := 0, locals := 223 + 93 * nr }) s m [.ref h0, .int a0] below meth c H locs (0) (0) (QwI g Ty s.heap.size (fun r u => u.1 = Ty ∧ PR G u.2 r at0 M (F_X12_product rdf askf len top isA (F_X12_thing rdf askf len top isA nr) a0 at0 wr0))) 0 0 (AF Ty s.heap.size) (F0 m 91 ls []) := by
    intro H locs G_91 pa_91 pw_91 y2_91 ls hPE_91 hp_91 hmo_91 hl hv hH hS
    refine lv_iload_n hx hb dX12_product_91 rfl (lv_at hl 0 rfl) ?_
    exact W.iret hx hb hr (fun t ht hWm => ⟨⟨y2_91, (Ty, G_91), rfl, ⟨rfl, PR.mk hv hp_91 hmo_91 (PE.ra hPE_91)⟩, by show HT g Ty G_91 t.heap; rw [ht]; exact hH⟩, hS.F ht⟩) hS.2.2 dX12_product_92
  have L_6 : ∀ (n_6 : Nat) (H : Heap) (locs : List Loc) (G_6 : Gh) (pa_6 : Int32) (pw_6 : Int32) (y2_6 : Int32) (ls : Array Slot), PE g Ty G_6 rd nn rdf askf len top isA M pa_6 pw_6 → G_6 = pst G pa_6 pw_6 → at0.toInt ≤ (pa_6 : Int32).toInt → (81 - (pa_6 : Int32).toInt).toNat < n_6 → lv_has ls 5 [(0, .ref h0), (1, .int a0), (2, .int y2_6)] → (F_X12_product_6 rdf askf len top isA (F_X12_thing rdf askf len top isA nr) n_6 a0 y2_6 pa_6 pw_6) = F_X12_product rdf askf len top isA (F_X12_thing rdf askf len top isA nr) a0 at0 wr0 → HT g Ty G_6 H → va_S (AF Ty s.heap.size) s.heap H locs → Wm p l e (wsG yX12_product cX12_product 5 (some .int)) ({ frames := 7 + 4 * nr, cells := 0, slots := 0, locals := 223 + 93 * nr }) s m [.ref h0, .int a0] below meth c H locs (0) (0) (QwI g Ty s.heap.size (fun r u => u.1 = Ty ∧ PR G u.2 r at0 M (F_X12_product rdf askf len top isA (F_X12_thing rdf askf len top isA nr) a0 at0 wr0))) 0 0 (AF Ty s.heap.size) (F0 m 6 ls []) := by
    intro n_6
    induction n_6 with
    | zero => intro H locs G_6 pa_6 pw_6 y2_6 ls hPE_6 hp_6 hmo_6 hm; exact absurd hm (Nat.not_lt_zero _)
    | succ n_6 ih_6 =>
      intro H locs G_6 pa_6 pw_6 y2_6 ls hPE_6 hp_6 hmo_6 hm_6 hl hv hH hS
      rw [F_X12_product_6] at hv
      refine lv_aload_n hx hb dX12_product_6 rfl (lv_at hl 0 rfl) ?_
      obtain ⟨_, ⟨rfl, t_2, hk_3⟩, o_c_1⟩ := hH h0 _ k_h0
      refine vp_callSi (W.runV (As := []) (rest := []) ⟨hx, hb, hml, hown, hts⟩ (c_X12_fine_p l g Ty G_6 h0 k_h0 rd nn rdf askf len top isA M pa_6 pw_6 hPE_6) (cwV 0 hts (gwV mw_1463 mw_1465 mw_39 mw_88 mw_1466) rfl rfl rfl hv_X12_fine ⟨by show 0 + 1 ≤ 7 + 4 * nr; omega, by show 20 + 0 ≤ 223 + 93 * nr; omega⟩) ⟨PcH_blind, hg_recv hK o_c_1 rfl, PcH_pre hK hH⟩ rfl rfl hl.1 rfl (lv_room (Nat.le_of_ble_eq_true rfl)) dX12_product_7 ⟨Nat.zero_le _, Nat.zero_le _⟩) (fun x_4 hx_4 => ?_)
      have rx_4 : rgI (0) (1) x_4 := hx_4.1
      try rw [← hx_4.2] at hv
      refine lv_if_eq (tgt := 91) hx hb dX12_product_10 (by decide) (fun c_5 => ?_) (fun c_5 => ?_)
      · rw [if_pos c_5] at hv
        have r_6 : rgI (0) (0) x_4 := rg_w (rg_eq rl_0 c_5) (by decide) (by decide)
        exact L_91 H locs G_6 pa_6 pw_6 y2_6 ls hPE_6 hp_6 hmo_6 (lv_sub hl [2] rfl) hv hH hS
      · rw [if_neg c_5] at hv
        have r_7 : rgI (1) (1) x_4 := rg_w (rg_neL rx_4 rl_0 c_5) (by decide) (by decide)
        refine lv_aload_n hx hb dX12_product_13 rfl (lv_at hl 0 rfl) ?_
        refine vp_callSi (W.runV (As := []) (rest := []) ⟨hx, hb, hml, hown, hts⟩ (c_X12_here l g Ty G_6 h0 k_h0 rd nn rdf askf len top isA M pa_6 pw_6 hPE_6) (cwV 0 hts (gwV mw_1467 mw_1469 mw_40 mw_88 mw_1470) rfl rfl rfl hv_X12_here ⟨by show 0 + 1 ≤ 7 + 4 * nr; omega, by show 20 + 0 ≤ 223 + 93 * nr; omega⟩) ⟨PcH_blind, hg_recv hK o_c_1 rfl, PcH_pre hK hH⟩ rfl rfl hl.1 rfl (lv_room (Nat.le_of_ble_eq_true rfl)) dX12_product_14 ⟨Nat.zero_le _, Nat.zero_le _⟩) (fun x_8 hx_8 => ?_)
        have rx_8 : rgI (-1) (255) x_8 := hx_8.1
        try rw [← hx_8.2] at hv
        refine lv_bipush (v := 42) hx hb dX12_product_17 (by decide) ?_
        refine lv_icmp_eq (tgt := 31) hx hb dX12_product_19 (by decide) (fun c_9 => ?_) (fun c_9 => ?_)
        · rw [if_pos c_9] at hv
          have r_10 : rgI (42) (42) x_8 := rg_w (rg_eq rl_42 c_9) (by decide) (by decide)
          refine lv_aload_n hx hb dX12_product_31 rfl (lv_at hl 0 rfl) ?_
          refine vp_callSi (W.runV (As := []) (rest := []) ⟨hx, hb, hml, hown, hts⟩ (c_X12_here l g Ty G_6 h0 k_h0 rd nn rdf askf len top isA M pa_6 pw_6 hPE_6) (cwV 0 hts (gwV mw_1467 mw_1469 mw_40 mw_88 mw_1470) rfl rfl rfl hv_X12_here ⟨by show 0 + 1 ≤ 7 + 4 * nr; omega, by show 20 + 0 ≤ 223 + 93 * nr; omega⟩) ⟨PcH_blind, hg_recv hK o_c_1 rfl, PcH_pre hK hH⟩ rfl rfl hl.1 rfl (lv_room (Nat.le_of_ble_eq_true rfl)) dX12_product_32 ⟨Nat.zero_le _, Nat.zero_le _⟩) (fun x_11 hx_11 => ?_)
          have rx_11 : rgI (-1) (255) x_11 := hx_11.1
          try rw [← hx_11.2] at hv
          have q_12 : x_8 = x_11 := (hx_8.2).trans (hx_11.2).symm
          subst q_12
          refine lv_bipush (v := 42) hx hb dX12_product_35 (by decide) ?_
          refine lv_icmp_ne (tgt := 44) hx hb dX12_product_37 (by decide) (fun c_13 => ?_) (fun c_13 => ?_)
          · rw [if_neg c_13] at hv
            refine lv_iconst (v := 0) hx hb dX12_product_44 (by decide) ?_
            refine lv_istore_n (lv' := [(3, .int 0), (0, .ref h0), (1, .int a0), (2, .int y2_6)]) hx hb dX12_product_45 rfl hl (by decide) rfl (fun ls hl => ?_)
            refine lv_aload_n hx hb dX12_product_46 rfl (lv_at hl 1 rfl) ?_
            refine lv_dup hx hb dX12_product_47 rfl ?_
            refine hg_get hx hb hG igX12 hown hK o_c_1 rfl 9 (by decide) (hG _ mw_1293) rfl dX12_product_48 ?_
            rw [(PE.e109 hPE_6)]
            refine lv_iconst (v := 1) hx hb dX12_product_51 (by decide) ?_
            refine lv_iadd hx hb dX12_product_52 ?_
            refine lv_topi (fun x_14 ex_14 => ?_)
            try rw [← ex_14] at hv
            have rx_14 : rgI (1) (81) x_14 := by rw [ex_14]; exact rg_w (rg_add (PE.ra8 hPE_6) rl_1 (by decide) (by decide)) (by decide) (by decide)
            have qx_14 : x_14.toInt = (pa_6 : Int32).toInt + 1 := by rw [ex_14]; exact rg_addE (PE.ra8 hPE_6) rl_1 (by decide) (by decide)
            refine hg_put (ty := .int) hx hb hG igX12 tyX12 tyX12_ok nmX12 hown hK hS o_c_1 (AF.of k_h0) rfl 9 (by decide) (hG _ mw_1293) rfl (by decide +kernel) rfl rfl (Nat.le_of_ble_eq_true rfl) dX12_product_53 (fun H locs o_c_1 hz oq hS => ?_)
            obtain ⟨G_15, eG_15⟩ : ∃ z : Gh, z = gset G_6 109 x_14 := ⟨_, rfl⟩
            have hH : HT g Ty G_15 H := by rw [eG_15]; exact HT.putN 109 x_14 hH k_h0 ⟨rfl, t_2, hk_3⟩ o_c_1 oq (Or.inr (Or.inr (Or.inr (Or.inr (Or.inr ⟨by decide, t_2⟩)))))
            have ra_19 : rgI 0 M x_14 := pe_up hPE_6 (nh_eq hx_8.2 c_9 (by decide)) qx_14
            have hPE_16 : PE g Ty G_15 rd nn rdf askf len top isA M x_14 pw_6 := PE.atx hPE_6 eG_15 ra_19
            have hp_17 : G_15 = pst G x_14 pw_6 := pst_a hp_6 eG_15
            have hmo_18 : at0.toInt ≤ (x_14 : Int32).toInt := by have q1 := hmo_6; have q2 := qx_14; omega
            clear oq hz
            refine lv_aload_n hx hb dX12_product_56 rfl (lv_at hl 1 rfl) ?_
            refine lv_iload_n hx hb dX12_product_57 rfl (lv_at hl 2 rfl) ?_
            obtain ⟨_, ⟨rfl, t_21, hk_22⟩, o_c_20⟩ := hH h0 _ k_h0
            refine va_calli (va_runV (As := [.int a0]) (rest := []) ⟨hx, hb, hml, hown, hts⟩ (hth Ty G_15 H.size h0 a0 k_h0 rd nn rdf askf len top isA M x_14 pw_6 hPE_16 (by have q0 := (PE.ra8 hPE).2; have q1 := hmz; have q2 := hmo_18; omega)) (cwV 1 hts (gwV mw_1455 mw_1457 mw_37 mw_88 mw_1458) rfl rfl rfl hv_X12_thing ⟨by show (6 + 4 * nr) + 1 ≤ 7 + 4 * nr; omega, by show 23 + (200 + 93 * nr) ≤ 223 + 93 * nr; omega⟩) ⟨PcT_blind, hg_recv hK o_c_20 rfl, PcT_pre hK hH⟩ rfl rfl hl.1 rfl (lv_room (Nat.le_of_ble_eq_true rfl)) dX12_product_58 ⟨Nat.zero_le _, Nat.zero_le _⟩) hS (fun q _ h => AF.mono hS.1 h) (fun q h => AF.mono hS.1 h) (fun x_23 ux_23 t H locs ht hvm hx_23 hB hz hk hS => ?_)
            obtain ⟨eTx_23, eGx_23⟩ := hx_23
            obtain ⟨G_24, eG_24⟩ : ∃ z, z = ux_23.2 := ⟨_, rfl⟩
            rw [← eG_24] at eGx_23
            obtain ⟨hr_k_25, hg_k_25, hm_k_25, hq_k_25⟩ := eGx_23
            obtain ⟨xa_26, exa_26⟩ : ∃ z : Int32, z = (F_X12_thing rdf askf len top isA nr a0 x_14 pw_6).2.1 := ⟨_, rfl⟩
            obtain ⟨xw_27, exw_27⟩ : ∃ z : Int32, z = (F_X12_thing rdf askf len top isA nr a0 x_14 pw_6).2.2 := ⟨_, rfl⟩
            rw [← exa_26] at hg_k_25 hm_k_25 hq_k_25
            rw [← exw_27] at hg_k_25
            have hPE_28 : PE g Ty G_24 rd nn rdf askf len top isA M xa_26 xw_27 := PE.ps hPE_16 hg_k_25 hq_k_25
            have hp_29 : G_24 = pst G xa_26 xw_27 := pst_pst hg_k_25 hp_17
            have hmo_30 : at0.toInt ≤ (xa_26 : Int32).toInt := Int.le_trans hmo_18 hm_k_25
            have hH : HT g Ty G_24 H := by rw [← ht, ← eTx_23, eG_24]; exact hB
            have hv : (if (0 : Int32) = (0 : Int32) then (if x_23 = (0 : Int32) then (F_X12_product_6 rdf askf len top isA (F_X12_thing rdf askf len top isA nr) n_6 a0 (0 : Int32) xa_26 xw_27) else (F_X12_product_6 rdf askf len top isA (F_X12_thing rdf askf len top isA nr) n_6 a0 (y2_6 / x_23) xa_26 xw_27)) else (F_X12_product_6 rdf askf len top isA (F_X12_thing rdf askf len top isA nr) n_6 a0 (y2_6 * x_23) xa_26 xw_27)) = F_X12_product rdf askf len top isA (F_X12_thing rdf askf len top isA nr) a0 at0 wr0 := by have q := bn3_to hr_k_25 exa_26 exw_27 hv; exact q
            refine lv_istore (lv' := [(4, .int x_23), (3, .int 0), (0, .ref h0), (1, .int a0), (2, .int y2_6)]) hx hb dX12_product_61 hl (by decide) rfl (fun ls hl => ?_)
            refine lv_iload_n hx hb dX12_product_63 rfl (lv_at hl 1 rfl) ?_
            refine lv_if_eq (tgt := 74) hx hb dX12_product_64 (by decide) (fun c_31 => ?_) (fun c_31 => ?_)
            · rw [if_pos c_31] at hv
              refine lv_iload hx hb dX12_product_74 (lv_at hl 0 rfl) ?_
              refine lv_if_ne (tgt := 83) hx hb dX12_product_76 (by decide) (fun c_32 => ?_) (fun c_32 => ?_)
              · rw [if_neg c_32] at hv
                refine lv_iload_n hx hb dX12_product_83 rfl (lv_at hl 4 rfl) ?_
                refine lv_iload hx hb dX12_product_84 (lv_at hl 0 rfl) ?_
                refine lv_idiv hx hb dX12_product_86 c_32 ?_
                refine lv_topi (fun x_33 ex_33 => ?_)
                try rw [← ex_33] at hv
                refine lv_istore_n (lv' := [(2, .int x_33), (4, .int x_23), (3, .int 0), (0, .ref h0), (1, .int a0)]) hx hb dX12_product_87 rfl hl (by decide) rfl (fun ls hl => ?_)
                refine lv_goto (tgt := 6) hx hb dX12_product_88 (by decide) ?_
                exact ih_6 H locs G_24 xa_26 xw_27 x_33 ls hPE_28 hp_29 hmo_30 (by have q4 := (PE.ra8 hPE_6).2; omega) (lv_sub hl [3, 4, 0] rfl) hv hH hS
              · rw [if_pos c_32] at hv
                have r_34 : rgI (0) (0) x_23 := rg_w (rg_eq rl_0 c_32) (by decide) (by decide)
                refine lv_iconst (v := 0) hx hb dX12_product_79 (by decide) ?_
                refine lv_goto (tgt := 87) hx hb dX12_product_80 (by decide) ?_
                refine lv_istore_n (lv' := [(2, .int 0), (4, .int x_23), (3, .int 0), (0, .ref h0), (1, .int a0)]) hx hb dX12_product_87 rfl hl (by decide) rfl (fun ls hl => ?_)
                refine lv_goto (tgt := 6) hx hb dX12_product_88 (by decide) ?_
                exact ih_6 H locs G_24 xa_26 xw_27 0 ls hPE_28 hp_29 hmo_30 (by have q4 := (PE.ra8 hPE_6).2; omega) (lv_sub hl [3, 4, 0] rfl) hv hH hS
            · rw [if_neg c_31] at hv
              exact absurd rfl c_31
          · rw [if_pos c_13] at hv
            have r_35 : rgI (42) (42) x_8 := rg_w (rg_eq rl_42 c_13) (by decide) (by decide)
            refine lv_iconst (v := 1) hx hb dX12_product_40 (by decide) ?_
            refine lv_goto (tgt := 45) hx hb dX12_product_41 (by decide) ?_
            refine lv_istore_n (lv' := [(3, .int 1), (0, .ref h0), (1, .int a0), (2, .int y2_6)]) hx hb dX12_product_45 rfl hl (by decide) rfl (fun ls hl => ?_)
            refine lv_aload_n hx hb dX12_product_46 rfl (lv_at hl 1 rfl) ?_
            refine lv_dup hx hb dX12_product_47 rfl ?_
            refine hg_get hx hb hG igX12 hown hK o_c_1 rfl 9 (by decide) (hG _ mw_1293) rfl dX12_product_48 ?_
            rw [(PE.e109 hPE_6)]
            refine lv_iconst (v := 1) hx hb dX12_product_51 (by decide) ?_
            refine lv_iadd hx hb dX12_product_52 ?_
            refine lv_topi (fun x_36 ex_36 => ?_)
            try rw [← ex_36] at hv
            have rx_36 : rgI (1) (81) x_36 := by rw [ex_36]; exact rg_w (rg_add (PE.ra8 hPE_6) rl_1 (by decide) (by decide)) (by decide) (by decide)
            have qx_36 : x_36.toInt = (pa_6 : Int32).toInt + 1 := by rw [ex_36]; exact rg_addE (PE.ra8 hPE_6) rl_1 (by decide) (by decide)
            refine hg_put (ty := .int) hx hb hG igX12 tyX12 tyX12_ok nmX12 hown hK hS o_c_1 (AF.of k_h0) rfl 9 (by decide) (hG _ mw_1293) rfl (by decide +kernel) rfl rfl (Nat.le_of_ble_eq_true rfl) dX12_product_53 (fun H locs o_c_1 hz oq hS => ?_)
            obtain ⟨G_37, eG_37⟩ : ∃ z : Gh, z = gset G_6 109 x_36 := ⟨_, rfl⟩
            have hH : HT g Ty G_37 H := by rw [eG_37]; exact HT.putN 109 x_36 hH k_h0 ⟨rfl, t_2, hk_3⟩ o_c_1 oq (Or.inr (Or.inr (Or.inr (Or.inr (Or.inr ⟨by decide, t_2⟩)))))
            have ra_41 : rgI 0 M x_36 := pe_up hPE_6 (nh_eq hx_11.2 c_13 (by decide)) qx_36
            have hPE_38 : PE g Ty G_37 rd nn rdf askf len top isA M x_36 pw_6 := PE.atx hPE_6 eG_37 ra_41
            have hp_39 : G_37 = pst G x_36 pw_6 := pst_a hp_6 eG_37
            have hmo_40 : at0.toInt ≤ (x_36 : Int32).toInt := by have q1 := hmo_6; have q2 := qx_36; omega
            clear oq hz
            refine lv_aload_n hx hb dX12_product_56 rfl (lv_at hl 1 rfl) ?_
            refine lv_iload_n hx hb dX12_product_57 rfl (lv_at hl 2 rfl) ?_
            obtain ⟨_, ⟨rfl, t_43, hk_44⟩, o_c_42⟩ := hH h0 _ k_h0
            refine va_calli (va_runV (As := [.int a0]) (rest := []) ⟨hx, hb, hml, hown, hts⟩ (hth Ty G_37 H.size h0 a0 k_h0 rd nn rdf askf len top isA M x_36 pw_6 hPE_38 (by have q0 := (PE.ra8 hPE).2; have q1 := hmz; have q2 := hmo_40; omega)) (cwV 1 hts (gwV mw_1455 mw_1457 mw_37 mw_88 mw_1458) rfl rfl rfl hv_X12_thing ⟨by show (6 + 4 * nr) + 1 ≤ 7 + 4 * nr; omega, by show 23 + (200 + 93 * nr) ≤ 223 + 93 * nr; omega⟩) ⟨PcT_blind, hg_recv hK o_c_42 rfl, PcT_pre hK hH⟩ rfl rfl hl.1 rfl (lv_room (Nat.le_of_ble_eq_true rfl)) dX12_product_58 ⟨Nat.zero_le _, Nat.zero_le _⟩) hS (fun q _ h => AF.mono hS.1 h) (fun q h => AF.mono hS.1 h) (fun x_45 ux_45 t H locs ht hvm hx_45 hB hz hk hS => ?_)
            obtain ⟨eTx_45, eGx_45⟩ := hx_45
            obtain ⟨G_46, eG_46⟩ : ∃ z, z = ux_45.2 := ⟨_, rfl⟩
            rw [← eG_46] at eGx_45
            obtain ⟨hr_k_47, hg_k_47, hm_k_47, hq_k_47⟩ := eGx_45
            obtain ⟨xa_48, exa_48⟩ : ∃ z : Int32, z = (F_X12_thing rdf askf len top isA nr a0 x_36 pw_6).2.1 := ⟨_, rfl⟩
            obtain ⟨xw_49, exw_49⟩ : ∃ z : Int32, z = (F_X12_thing rdf askf len top isA nr a0 x_36 pw_6).2.2 := ⟨_, rfl⟩
            rw [← exa_48] at hg_k_47 hm_k_47 hq_k_47
            rw [← exw_49] at hg_k_47
            have hPE_50 : PE g Ty G_46 rd nn rdf askf len top isA M xa_48 xw_49 := PE.ps hPE_38 hg_k_47 hq_k_47
            have hp_51 : G_46 = pst G xa_48 xw_49 := pst_pst hg_k_47 hp_39
            have hmo_52 : at0.toInt ≤ (xa_48 : Int32).toInt := Int.le_trans hmo_40 hm_k_47
            have hH : HT g Ty G_46 H := by rw [← ht, ← eTx_45, eG_46]; exact hB
            have hv : (if (1 : Int32) = (0 : Int32) then (if x_45 = (0 : Int32) then (F_X12_product_6 rdf askf len top isA (F_X12_thing rdf askf len top isA nr) n_6 a0 (0 : Int32) xa_48 xw_49) else (F_X12_product_6 rdf askf len top isA (F_X12_thing rdf askf len top isA nr) n_6 a0 (y2_6 / x_45) xa_48 xw_49)) else (F_X12_product_6 rdf askf len top isA (F_X12_thing rdf askf len top isA nr) n_6 a0 (y2_6 * x_45) xa_48 xw_49)) = F_X12_product rdf askf len top isA (F_X12_thing rdf askf len top isA nr) a0 at0 wr0 := by have q := bn3_to hr_k_47 exa_48 exw_49 hv; exact q
            refine lv_istore (lv' := [(4, .int x_45), (3, .int 1), (0, .ref h0), (1, .int a0), (2, .int y2_6)]) hx hb dX12_product_61 hl (by decide) rfl (fun ls hl => ?_)
            refine lv_iload_n hx hb dX12_product_63 rfl (lv_at hl 1 rfl) ?_
            refine lv_if_eq (tgt := 74) hx hb dX12_product_64 (by decide) (fun c_53 => ?_) (fun c_53 => ?_)
            · rw [if_pos c_53] at hv
              exact rg_noE rl_1 rl_0 c_53 (by decide)
            · rw [if_neg c_53] at hv
              refine lv_iload_n hx hb dX12_product_67 rfl (lv_at hl 4 rfl) ?_
              refine lv_iload hx hb dX12_product_68 (lv_at hl 0 rfl) ?_
              refine lv_imul hx hb dX12_product_70 ?_
              refine lv_topi (fun x_54 ex_54 => ?_)
              try rw [← ex_54] at hv
              refine lv_goto (tgt := 87) hx hb dX12_product_71 (by decide) ?_
              refine lv_istore_n (lv' := [(2, .int x_54), (4, .int x_45), (3, .int 1), (0, .ref h0), (1, .int a0)]) hx hb dX12_product_87 rfl hl (by decide) rfl (fun ls hl => ?_)
              refine lv_goto (tgt := 6) hx hb dX12_product_88 (by decide) ?_
              exact ih_6 H locs G_46 xa_48 xw_49 x_54 ls hPE_50 hp_51 hmo_52 (by have q4 := (PE.ra8 hPE_6).2; omega) (lv_sub hl [3, 4, 0] rfl) hv hH hS
        · rw [if_neg c_9] at hv
          refine lv_aload_n hx hb dX12_product_22 rfl (lv_at hl 0 rfl) ?_
          refine vp_callSi (W.runV (As := []) (rest := []) ⟨hx, hb, hml, hown, hts⟩ (c_X12_here l g Ty G_6 h0 k_h0 rd nn rdf askf len top isA M pa_6 pw_6 hPE_6) (cwV 0 hts (gwV mw_1467 mw_1469 mw_40 mw_88 mw_1470) rfl rfl rfl hv_X12_here ⟨by show 0 + 1 ≤ 7 + 4 * nr; omega, by show 20 + 0 ≤ 223 + 93 * nr; omega⟩) ⟨PcH_blind, hg_recv hK o_c_1 rfl, PcH_pre hK hH⟩ rfl rfl hl.1 rfl (lv_room (Nat.le_of_ble_eq_true rfl)) dX12_product_23 ⟨Nat.zero_le _, Nat.zero_le _⟩) (fun x_55 hx_55 => ?_)
          have rx_55 : rgI (-1) (255) x_55 := hx_55.1
          try rw [← hx_55.2] at hv
          have q_56 : x_8 = x_55 := (hx_8.2).trans (hx_55.2).symm
          subst q_56
          refine lv_bipush (v := 47) hx hb dX12_product_26 (by decide) ?_
          refine lv_icmp_ne (tgt := 91) hx hb dX12_product_28 (by decide) (fun c_57 => ?_) (fun c_57 => ?_)
          · rw [if_neg c_57] at hv
            exact L_91 H locs G_6 pa_6 pw_6 y2_6 ls hPE_6 hp_6 hmo_6 (lv_sub hl [2] rfl) hv hH hS
          · rw [if_pos c_57] at hv
            have r_58 : rgI (47) (47) x_8 := rg_w (rg_eq rl_47 c_57) (by decide) (by decide)
            refine lv_aload_n hx hb dX12_product_31 rfl (lv_at hl 0 rfl) ?_
            refine vp_callSi (W.runV (As := []) (rest := []) ⟨hx, hb, hml, hown, hts⟩ (c_X12_here l g Ty G_6 h0 k_h0 rd nn rdf askf len top isA M pa_6 pw_6 hPE_6) (cwV 0 hts (gwV mw_1467 mw_1469 mw_40 mw_88 mw_1470) rfl rfl rfl hv_X12_here ⟨by show 0 + 1 ≤ 7 + 4 * nr; omega, by show 20 + 0 ≤ 223 + 93 * nr; omega⟩) ⟨PcH_blind, hg_recv hK o_c_1 rfl, PcH_pre hK hH⟩ rfl rfl hl.1 rfl (lv_room (Nat.le_of_ble_eq_true rfl)) dX12_product_32 ⟨Nat.zero_le _, Nat.zero_le _⟩) (fun x_59 hx_59 => ?_)
            have rx_59 : rgI (-1) (255) x_59 := hx_59.1
            try rw [← hx_59.2] at hv
            have q_60 : x_8 = x_59 := (hx_8.2).trans (hx_59.2).symm
            subst q_60
            refine lv_bipush (v := 42) hx hb dX12_product_35 (by decide) ?_
            refine lv_icmp_ne (tgt := 44) hx hb dX12_product_37 (by decide) (fun c_61 => ?_) (fun c_61 => ?_)
            · rw [if_neg c_61] at hv
              refine lv_iconst (v := 0) hx hb dX12_product_44 (by decide) ?_
              refine lv_istore_n (lv' := [(3, .int 0), (0, .ref h0), (1, .int a0), (2, .int y2_6)]) hx hb dX12_product_45 rfl hl (by decide) rfl (fun ls hl => ?_)
              refine lv_aload_n hx hb dX12_product_46 rfl (lv_at hl 1 rfl) ?_
              refine lv_dup hx hb dX12_product_47 rfl ?_
              refine hg_get hx hb hG igX12 hown hK o_c_1 rfl 9 (by decide) (hG _ mw_1293) rfl dX12_product_48 ?_
              rw [(PE.e109 hPE_6)]
              refine lv_iconst (v := 1) hx hb dX12_product_51 (by decide) ?_
              refine lv_iadd hx hb dX12_product_52 ?_
              refine lv_topi (fun x_62 ex_62 => ?_)
              try rw [← ex_62] at hv
              have rx_62 : rgI (1) (81) x_62 := by rw [ex_62]; exact rg_w (rg_add (PE.ra8 hPE_6) rl_1 (by decide) (by decide)) (by decide) (by decide)
              have qx_62 : x_62.toInt = (pa_6 : Int32).toInt + 1 := by rw [ex_62]; exact rg_addE (PE.ra8 hPE_6) rl_1 (by decide) (by decide)
              refine hg_put (ty := .int) hx hb hG igX12 tyX12 tyX12_ok nmX12 hown hK hS o_c_1 (AF.of k_h0) rfl 9 (by decide) (hG _ mw_1293) rfl (by decide +kernel) rfl rfl (Nat.le_of_ble_eq_true rfl) dX12_product_53 (fun H locs o_c_1 hz oq hS => ?_)
              obtain ⟨G_63, eG_63⟩ : ∃ z : Gh, z = gset G_6 109 x_62 := ⟨_, rfl⟩
              have hH : HT g Ty G_63 H := by rw [eG_63]; exact HT.putN 109 x_62 hH k_h0 ⟨rfl, t_2, hk_3⟩ o_c_1 oq (Or.inr (Or.inr (Or.inr (Or.inr (Or.inr ⟨by decide, t_2⟩)))))
              have ra_67 : rgI 0 M x_62 := pe_up hPE_6 (nh_eq hx_55.2 c_57 (by decide)) qx_62
              have hPE_64 : PE g Ty G_63 rd nn rdf askf len top isA M x_62 pw_6 := PE.atx hPE_6 eG_63 ra_67
              have hp_65 : G_63 = pst G x_62 pw_6 := pst_a hp_6 eG_63
              have hmo_66 : at0.toInt ≤ (x_62 : Int32).toInt := by have q1 := hmo_6; have q2 := qx_62; omega
              clear oq hz
              refine lv_aload_n hx hb dX12_product_56 rfl (lv_at hl 1 rfl) ?_
              refine lv_iload_n hx hb dX12_product_57 rfl (lv_at hl 2 rfl) ?_
              obtain ⟨_, ⟨rfl, t_69, hk_70⟩, o_c_68⟩ := hH h0 _ k_h0
              refine va_calli (va_runV (As := [.int a0]) (rest := []) ⟨hx, hb, hml, hown, hts⟩ (hth Ty G_63 H.size h0 a0 k_h0 rd nn rdf askf len top isA M x_62 pw_6 hPE_64 (by have q0 := (PE.ra8 hPE).2; have q1 := hmz; have q2 := hmo_66; omega)) (cwV 1 hts (gwV mw_1455 mw_1457 mw_37 mw_88 mw_1458) rfl rfl rfl hv_X12_thing ⟨by show (6 + 4 * nr) + 1 ≤ 7 + 4 * nr; omega, by show 23 + (200 + 93 * nr) ≤ 223 + 93 * nr; omega⟩) ⟨PcT_blind, hg_recv hK o_c_68 rfl, PcT_pre hK hH⟩ rfl rfl hl.1 rfl (lv_room (Nat.le_of_ble_eq_true rfl)) dX12_product_58 ⟨Nat.zero_le _, Nat.zero_le _⟩) hS (fun q _ h => AF.mono hS.1 h) (fun q h => AF.mono hS.1 h) (fun x_71 ux_71 t H locs ht hvm hx_71 hB hz hk hS => ?_)
              obtain ⟨eTx_71, eGx_71⟩ := hx_71
              obtain ⟨G_72, eG_72⟩ : ∃ z, z = ux_71.2 := ⟨_, rfl⟩
              rw [← eG_72] at eGx_71
              obtain ⟨hr_k_73, hg_k_73, hm_k_73, hq_k_73⟩ := eGx_71
              obtain ⟨xa_74, exa_74⟩ : ∃ z : Int32, z = (F_X12_thing rdf askf len top isA nr a0 x_62 pw_6).2.1 := ⟨_, rfl⟩
              obtain ⟨xw_75, exw_75⟩ : ∃ z : Int32, z = (F_X12_thing rdf askf len top isA nr a0 x_62 pw_6).2.2 := ⟨_, rfl⟩
              rw [← exa_74] at hg_k_73 hm_k_73 hq_k_73
              rw [← exw_75] at hg_k_73
              have hPE_76 : PE g Ty G_72 rd nn rdf askf len top isA M xa_74 xw_75 := PE.ps hPE_64 hg_k_73 hq_k_73
              have hp_77 : G_72 = pst G xa_74 xw_75 := pst_pst hg_k_73 hp_65
              have hmo_78 : at0.toInt ≤ (xa_74 : Int32).toInt := Int.le_trans hmo_66 hm_k_73
              have hH : HT g Ty G_72 H := by rw [← ht, ← eTx_71, eG_72]; exact hB
              have hv : (if (0 : Int32) = (0 : Int32) then (if x_71 = (0 : Int32) then (F_X12_product_6 rdf askf len top isA (F_X12_thing rdf askf len top isA nr) n_6 a0 (0 : Int32) xa_74 xw_75) else (F_X12_product_6 rdf askf len top isA (F_X12_thing rdf askf len top isA nr) n_6 a0 (y2_6 / x_71) xa_74 xw_75)) else (F_X12_product_6 rdf askf len top isA (F_X12_thing rdf askf len top isA nr) n_6 a0 (y2_6 * x_71) xa_74 xw_75)) = F_X12_product rdf askf len top isA (F_X12_thing rdf askf len top isA nr) a0 at0 wr0 := by have q := bn3_to hr_k_73 exa_74 exw_75 hv; exact q
              refine lv_istore (lv' := [(4, .int x_71), (3, .int 0), (0, .ref h0), (1, .int a0), (2, .int y2_6)]) hx hb dX12_product_61 hl (by decide) rfl (fun ls hl => ?_)
              refine lv_iload_n hx hb dX12_product_63 rfl (lv_at hl 1 rfl) ?_
              refine lv_if_eq (tgt := 74) hx hb dX12_product_64 (by decide) (fun c_79 => ?_) (fun c_79 => ?_)
              · rw [if_pos c_79] at hv
                refine lv_iload hx hb dX12_product_74 (lv_at hl 0 rfl) ?_
                refine lv_if_ne (tgt := 83) hx hb dX12_product_76 (by decide) (fun c_80 => ?_) (fun c_80 => ?_)
                · rw [if_neg c_80] at hv
                  refine lv_iload_n hx hb dX12_product_83 rfl (lv_at hl 4 rfl) ?_
                  refine lv_iload hx hb dX12_product_84 (lv_at hl 0 rfl) ?_
                  refine lv_idiv hx hb dX12_product_86 c_80 ?_
                  refine lv_topi (fun x_81 ex_81 => ?_)
                  try rw [← ex_81] at hv
                  refine lv_istore_n (lv' := [(2, .int x_81), (4, .int x_71), (3, .int 0), (0, .ref h0), (1, .int a0)]) hx hb dX12_product_87 rfl hl (by decide) rfl (fun ls hl => ?_)
                  refine lv_goto (tgt := 6) hx hb dX12_product_88 (by decide) ?_
                  exact ih_6 H locs G_72 xa_74 xw_75 x_81 ls hPE_76 hp_77 hmo_78 (by have q4 := (PE.ra8 hPE_6).2; omega) (lv_sub hl [3, 4, 0] rfl) hv hH hS
                · rw [if_pos c_80] at hv
                  have r_82 : rgI (0) (0) x_71 := rg_w (rg_eq rl_0 c_80) (by decide) (by decide)
                  refine lv_iconst (v := 0) hx hb dX12_product_79 (by decide) ?_
                  refine lv_goto (tgt := 87) hx hb dX12_product_80 (by decide) ?_
                  refine lv_istore_n (lv' := [(2, .int 0), (4, .int x_71), (3, .int 0), (0, .ref h0), (1, .int a0)]) hx hb dX12_product_87 rfl hl (by decide) rfl (fun ls hl => ?_)
                  refine lv_goto (tgt := 6) hx hb dX12_product_88 (by decide) ?_
                  exact ih_6 H locs G_72 xa_74 xw_75 0 ls hPE_76 hp_77 hmo_78 (by have q4 := (PE.ra8 hPE_6).2; omega) (lv_sub hl [3, 4, 0] rfl) hv hH hS
              · rw [if_neg c_79] at hv
                exact absurd rfl c_79
            · rw [if_pos c_61] at hv
              have r_83 : rgI (42) (42) x_8 := rg_w (rg_eq rl_42 c_61) (by decide) (by decide)
              refine lv_iconst (v := 1) hx hb dX12_product_40 (by decide) ?_
              refine lv_goto (tgt := 45) hx hb dX12_product_41 (by decide) ?_
              refine lv_istore_n (lv' := [(3, .int 1), (0, .ref h0), (1, .int a0), (2, .int y2_6)]) hx hb dX12_product_45 rfl hl (by decide) rfl (fun ls hl => ?_)
              refine lv_aload_n hx hb dX12_product_46 rfl (lv_at hl 1 rfl) ?_
              refine lv_dup hx hb dX12_product_47 rfl ?_
              refine hg_get hx hb hG igX12 hown hK o_c_1 rfl 9 (by decide) (hG _ mw_1293) rfl dX12_product_48 ?_
              rw [(PE.e109 hPE_6)]
              refine lv_iconst (v := 1) hx hb dX12_product_51 (by decide) ?_
              refine lv_iadd hx hb dX12_product_52 ?_
              refine lv_topi (fun x_84 ex_84 => ?_)
              try rw [← ex_84] at hv
              have rx_84 : rgI (1) (81) x_84 := by rw [ex_84]; exact rg_w (rg_add (PE.ra8 hPE_6) rl_1 (by decide) (by decide)) (by decide) (by decide)
              have qx_84 : x_84.toInt = (pa_6 : Int32).toInt + 1 := by rw [ex_84]; exact rg_addE (PE.ra8 hPE_6) rl_1 (by decide) (by decide)
              refine hg_put (ty := .int) hx hb hG igX12 tyX12 tyX12_ok nmX12 hown hK hS o_c_1 (AF.of k_h0) rfl 9 (by decide) (hG _ mw_1293) rfl (by decide +kernel) rfl rfl (Nat.le_of_ble_eq_true rfl) dX12_product_53 (fun H locs o_c_1 hz oq hS => ?_)
              obtain ⟨G_85, eG_85⟩ : ∃ z : Gh, z = gset G_6 109 x_84 := ⟨_, rfl⟩
              have hH : HT g Ty G_85 H := by rw [eG_85]; exact HT.putN 109 x_84 hH k_h0 ⟨rfl, t_2, hk_3⟩ o_c_1 oq (Or.inr (Or.inr (Or.inr (Or.inr (Or.inr ⟨by decide, t_2⟩)))))
              have ra_89 : rgI 0 M x_84 := pe_up hPE_6 (nh_eq hx_59.2 c_61 (by decide)) qx_84
              have hPE_86 : PE g Ty G_85 rd nn rdf askf len top isA M x_84 pw_6 := PE.atx hPE_6 eG_85 ra_89
              have hp_87 : G_85 = pst G x_84 pw_6 := pst_a hp_6 eG_85
              have hmo_88 : at0.toInt ≤ (x_84 : Int32).toInt := by have q1 := hmo_6; have q2 := qx_84; omega
              clear oq hz
              refine lv_aload_n hx hb dX12_product_56 rfl (lv_at hl 1 rfl) ?_
              refine lv_iload_n hx hb dX12_product_57 rfl (lv_at hl 2 rfl) ?_
              obtain ⟨_, ⟨rfl, t_91, hk_92⟩, o_c_90⟩ := hH h0 _ k_h0
              refine va_calli (va_runV (As := [.int a0]) (rest := []) ⟨hx, hb, hml, hown, hts⟩ (hth Ty G_85 H.size h0 a0 k_h0 rd nn rdf askf len top isA M x_84 pw_6 hPE_86 (by have q0 := (PE.ra8 hPE).2; have q1 := hmz; have q2 := hmo_88; omega)) (cwV 1 hts (gwV mw_1455 mw_1457 mw_37 mw_88 mw_1458) rfl rfl rfl hv_X12_thing ⟨by show (6 + 4 * nr) + 1 ≤ 7 + 4 * nr; omega, by show 23 + (200 + 93 * nr) ≤ 223 + 93 * nr; omega⟩) ⟨PcT_blind, hg_recv hK o_c_90 rfl, PcT_pre hK hH⟩ rfl rfl hl.1 rfl (lv_room (Nat.le_of_ble_eq_true rfl)) dX12_product_58 ⟨Nat.zero_le _, Nat.zero_le _⟩) hS (fun q _ h => AF.mono hS.1 h) (fun q h => AF.mono hS.1 h) (fun x_93 ux_93 t H locs ht hvm hx_93 hB hz hk hS => ?_)
              obtain ⟨eTx_93, eGx_93⟩ := hx_93
              obtain ⟨G_94, eG_94⟩ : ∃ z, z = ux_93.2 := ⟨_, rfl⟩
              rw [← eG_94] at eGx_93
              obtain ⟨hr_k_95, hg_k_95, hm_k_95, hq_k_95⟩ := eGx_93
              obtain ⟨xa_96, exa_96⟩ : ∃ z : Int32, z = (F_X12_thing rdf askf len top isA nr a0 x_84 pw_6).2.1 := ⟨_, rfl⟩
              obtain ⟨xw_97, exw_97⟩ : ∃ z : Int32, z = (F_X12_thing rdf askf len top isA nr a0 x_84 pw_6).2.2 := ⟨_, rfl⟩
              rw [← exa_96] at hg_k_95 hm_k_95 hq_k_95
              rw [← exw_97] at hg_k_95
              have hPE_98 : PE g Ty G_94 rd nn rdf askf len top isA M xa_96 xw_97 := PE.ps hPE_86 hg_k_95 hq_k_95
              have hp_99 : G_94 = pst G xa_96 xw_97 := pst_pst hg_k_95 hp_87
              have hmo_100 : at0.toInt ≤ (xa_96 : Int32).toInt := Int.le_trans hmo_88 hm_k_95
              have hH : HT g Ty G_94 H := by rw [← ht, ← eTx_93, eG_94]; exact hB
              have hv : (if (1 : Int32) = (0 : Int32) then (if x_93 = (0 : Int32) then (F_X12_product_6 rdf askf len top isA (F_X12_thing rdf askf len top isA nr) n_6 a0 (0 : Int32) xa_96 xw_97) else (F_X12_product_6 rdf askf len top isA (F_X12_thing rdf askf len top isA nr) n_6 a0 (y2_6 / x_93) xa_96 xw_97)) else (F_X12_product_6 rdf askf len top isA (F_X12_thing rdf askf len top isA nr) n_6 a0 (y2_6 * x_93) xa_96 xw_97)) = F_X12_product rdf askf len top isA (F_X12_thing rdf askf len top isA nr) a0 at0 wr0 := by have q := bn3_to hr_k_95 exa_96 exw_97 hv; exact q
              refine lv_istore (lv' := [(4, .int x_93), (3, .int 1), (0, .ref h0), (1, .int a0), (2, .int y2_6)]) hx hb dX12_product_61 hl (by decide) rfl (fun ls hl => ?_)
              refine lv_iload_n hx hb dX12_product_63 rfl (lv_at hl 1 rfl) ?_
              refine lv_if_eq (tgt := 74) hx hb dX12_product_64 (by decide) (fun c_101 => ?_) (fun c_101 => ?_)
              · rw [if_pos c_101] at hv
                exact rg_noE rl_1 rl_0 c_101 (by decide)
              · rw [if_neg c_101] at hv
                refine lv_iload_n hx hb dX12_product_67 rfl (lv_at hl 4 rfl) ?_
                refine lv_iload hx hb dX12_product_68 (lv_at hl 0 rfl) ?_
                refine lv_imul hx hb dX12_product_70 ?_
                refine lv_topi (fun x_102 ex_102 => ?_)
                try rw [← ex_102] at hv
                refine lv_goto (tgt := 87) hx hb dX12_product_71 (by decide) ?_
                refine lv_istore_n (lv' := [(2, .int x_102), (4, .int x_93), (3, .int 1), (0, .ref h0), (1, .int a0)]) hx hb dX12_product_87 rfl hl (by decide) rfl (fun ls hl => ?_)
                refine lv_goto (tgt := 6) hx hb dX12_product_88 (by decide) ?_
                exact ih_6 H locs G_94 xa_96 xw_97 x_102 ls hPE_98 hp_99 hmo_100 (by have q4 := (PE.ra8 hPE_6).2; omega) (lv_sub hl [3, 4, 0] rfl) hv hH hS
  refine lv_aload_n hx hb dX12_product_0 rfl (lv_at hl 0 rfl) ?_
  refine lv_iload_n hx hb dX12_product_1 rfl (lv_at hl 1 rfl) ?_
  obtain ⟨_, ⟨rfl, t_104, hk_105⟩, o_c_103⟩ := hH h0 _ k_h0
  refine va_calli (va_runV (As := [.int a0]) (rest := []) ⟨hx, hb, hml, hown, hts⟩ (hth Ty G s.heap.size h0 a0 k_h0 rd nn rdf askf len top isA M at0 wr0 hPE (by have q0 := (PE.ra8 hPE).2; have q1 := hmz; have q2 := (Int.le_refl at0.toInt); omega)) (cwV 1 hts (gwV mw_1455 mw_1457 mw_37 mw_88 mw_1458) rfl rfl rfl hv_X12_thing ⟨by show (6 + 4 * nr) + 1 ≤ 7 + 4 * nr; omega, by show 23 + (200 + 93 * nr) ≤ 223 + 93 * nr; omega⟩) ⟨PcT_blind, hg_recv hK o_c_103 rfl, PcT_pre hK hH⟩ rfl rfl hl.1 rfl (lv_room (Nat.le_of_ble_eq_true rfl)) dX12_product_2 ⟨Nat.zero_le _, Nat.zero_le _⟩) hS (fun q _ h => AF.mono hS.1 h) (fun q h => AF.mono hS.1 h) (fun x_106 ux_106 t H locs ht hvm hx_106 hB hz hk hS => ?_)
  obtain ⟨eTx_106, eGx_106⟩ := hx_106
  obtain ⟨G_107, eG_107⟩ : ∃ z, z = ux_106.2 := ⟨_, rfl⟩
  rw [← eG_107] at eGx_106
  obtain ⟨hr_k_108, hg_k_108, hm_k_108, hq_k_108⟩ := eGx_106
  obtain ⟨xa_109, exa_109⟩ : ∃ z : Int32, z = (F_X12_thing rdf askf len top isA nr a0 at0 wr0).2.1 := ⟨_, rfl⟩
  obtain ⟨xw_110, exw_110⟩ : ∃ z : Int32, z = (F_X12_thing rdf askf len top isA nr a0 at0 wr0).2.2 := ⟨_, rfl⟩
  rw [← exa_109] at hg_k_108 hm_k_108 hq_k_108
  rw [← exw_110] at hg_k_108
  have hPE_111 : PE g Ty G_107 rd nn rdf askf len top isA M xa_109 xw_110 := PE.ps hPE hg_k_108 hq_k_108
  have hp_112 : G_107 = pst G xa_109 xw_110 := pst_pst hg_k_108 hp0
  have hmo_113 : at0.toInt ≤ (xa_109 : Int32).toInt := Int.le_trans (Int.le_refl at0.toInt) hm_k_108
  have hH : HT g Ty G_107 H := by rw [← ht, ← eTx_106, eG_107]; exact hB
  have hv : (F_X12_product_6 rdf askf len top isA (F_X12_thing rdf askf len top isA nr) 82 a0 x_106 xa_109 xw_110) = F_X12_product rdf askf len top isA (F_X12_thing rdf askf len top isA nr) a0 at0 wr0 := by have q := bn3_to hr_k_108 exa_109 exw_110 hv; exact q
  refine lv_istore_n (lv' := [(2, .int x_106), (0, .ref h0), (1, .int a0)]) hx hb dX12_product_5 rfl hl (by decide) rfl (fun ls hl => ?_)
  exact L_6 82 H locs G_107 xa_109 xw_110 x_106 ls hPE_111 hp_112 hmo_113 (by have q1 := (PE.ra8 hPE_111).1; show (81 - (xa_109 : Int32).toInt).toNat < 82; omega) (lv_sub hl [1, 2, 0] rfl) hv hH hS

set_option maxHeartbeats 4000000 in
set_option maxRecDepth 100000 in
theorem c_X12_sum (l : Launch) (g : Gx) (nr : Nat) (hth : TH_X12 l g nr) (Ty : TyM) (G : Gh) (sz : Nat) (h0 : Nat) (a0 : Int32) (k_h0 : Ty h0 = some (22, 0)) (rd nn : Nat) (rdf askf : Nat → Int32) (len top isA : Int32) (M : Int) (at0 wr0 : Int32) (hPE : PE g Ty G rd nn rdf askf len top isA M at0 wr0) (hmz : (81 - at0.toInt).toNat < nr) : Met l yX12_sum (wsG yX12_sum cX12_sum 5 (some .int)) ({ frames := 8 + 4 * nr, cells := 0, slots := 0, locals := 247 + 93 * nr }) (PcT g Ty G sz [.ref h0, .int a0]) (QwI g Ty sz (fun r u => u.1 = Ty ∧ PR G u.2 r at0 M (F_X12_sum rdf askf len top isA (F_X12_thing rdf askf len top isA nr) a0 at0 wr0))) 0 0 (AF Ty sz) := by
  refine Met.ofW (cc := cX12_sum) (maxL := 5) (ret := (some .int)) (by decide) rfl ?_
  intro p e s m args below meth c s₁ B hml hv
  obtain ⟨rfl, hsz, hK, hH⟩ := hv
  subst hsz
  have hx := B.exec
  have hb := B.bytes
  have hr := B.returns
  have hts := atoms_spec (ws := (wsG yX12_sum cX12_sum 5 (some .int))) B.pre
  have hG : ∀ w ∈ GW, w.before ([.ref h0, .int a0] : List Value).toArray s = true := fun w h => hts w (List.mem_cons_of_mem _ h)
  have hown : s.vm.findClass RX12 = some m.cls := findClass_of_methodNamed B.named
  have hlocks := B.notSynchronized
  have hl := lv_entry [.ref h0, .int a0] (n := 5) (Nat.le_of_ble_eq_true rfl)
  rw [lg_entry_eq]
  generalize (lg_sl [.ref h0, .int a0] ++ List.replicate (5 - (lg_sl [.ref h0, .int a0]).length) Slot.unset).toArray = ls at hl ⊢
  have hl : lv_has ls 5 [(0, .ref h0), (1, .int a0)] := hl
  have hp0 : G = pst G at0 wr0 := pst_id hPE
  have hv : (bn3 (F_X12_product rdf askf len top isA (F_X12_thing rdf askf len top isA nr) a0 at0 wr0) (fun bv6 ba6 bw6 => (F_X12_sum_6 rdf askf len top isA (F_X12_thing rdf askf len top isA nr) 82 a0 bv6 ba6 bw6))) = F_X12_sum rdf askf len top isA (F_X12_thing rdf askf len top isA nr) a0 at0 wr0 := rfl
  have hS : va_S (AF Ty s.heap.size) s.heap s.heap [] := va_S.rf
  have L_82 : ∀ (H : Heap) (locs : List Loc) (G_82 : Gh) (pa_82 : Int32) (pw_82 : Int32) (y2_82 : Int32) (ls : Array Slot), PE g Ty G_82 rd nn rdf askf len top isA M pa_82 pw_82 → G_82 = pst G pa_82 pw_82 → at0.toInt ≤ (pa_82 : Int32).toInt → lv_has ls 5 [(2, .int y2_82)] → (y2_82, pa_82, pw_82) = F_X12_sum rdf askf len top isA (F_X12_thing rdf askf len top isA nr) a0 at0 wr0 → HT g Ty G_82 H → va_S (AF Ty s.heap.size) s.heap H locs → Wm p l e (wsG yX12_sum cX12_sum 5 (some .int)) ({ frames := 8 + 4 * nr, cells := 0, slots := 0, locals := 247 + 93 * nr }) s m [.ref h0, .int a0] below meth c H locs (0) (0) (QwI g Ty s.heap.size (fun r u => u.1 = Ty ∧ PR G u.2 r at0 M (F_X12_sum rdf askf len top isA (F_X12_thing rdf askf len top isA nr) a0 at0 wr0))) 0 0 (AF Ty s.heap.size) (F0 m 82 ls []) := by
    intro H locs G_82 pa_82 pw_82 y2_82 ls hPE_82 hp_82 hmo_82 hl hv hH hS
    refine lv_iload_n hx hb dX12_sum_82 rfl (lv_at hl 0 rfl) ?_
    exact W.iret hx hb hr (fun t ht hWm => ⟨⟨y2_82, (Ty, G_82), rfl, ⟨rfl, PR.mk hv hp_82 hmo_82 (PE.ra hPE_82)⟩, by show HT g Ty G_82 t.heap; rw [ht]; exact hH⟩, hS.F ht⟩) hS.2.2 dX12_sum_83
  have L_6 : ∀ (n_6 : Nat) (H : Heap) (locs : List Loc) (G_6 : Gh) (pa_6 : Int32) (pw_6 : Int32) (y2_6 : Int32) (ls : Array Slot), PE g Ty G_6 rd nn rdf askf len top isA M pa_6 pw_6 → G_6 = pst G pa_6 pw_6 → at0.toInt ≤ (pa_6 : Int32).toInt → (81 - (pa_6 : Int32).toInt).toNat < n_6 → lv_has ls 5 [(0, .ref h0), (1, .int a0), (2, .int y2_6)] → (F_X12_sum_6 rdf askf len top isA (F_X12_thing rdf askf len top isA nr) n_6 a0 y2_6 pa_6 pw_6) = F_X12_sum rdf askf len top isA (F_X12_thing rdf askf len top isA nr) a0 at0 wr0 → HT g Ty G_6 H → va_S (AF Ty s.heap.size) s.heap H locs → Wm p l e (wsG yX12_sum cX12_sum 5 (some .int)) ({ frames := 8 + 4 * nr, cells := 0, slots := 0, locals := 247 + 93 * nr }) s m [.ref h0, .int a0] below meth c H locs (0) (0) (QwI g Ty s.heap.size (fun r u => u.1 = Ty ∧ PR G u.2 r at0 M (F_X12_sum rdf askf len top isA (F_X12_thing rdf askf len top isA nr) a0 at0 wr0))) 0 0 (AF Ty s.heap.size) (F0 m 6 ls []) := by
    intro n_6
    induction n_6 with
    | zero => intro H locs G_6 pa_6 pw_6 y2_6 ls hPE_6 hp_6 hmo_6 hm; exact absurd hm (Nat.not_lt_zero _)
    | succ n_6 ih_6 =>
      intro H locs G_6 pa_6 pw_6 y2_6 ls hPE_6 hp_6 hmo_6 hm_6 hl hv hH hS
      rw [F_X12_sum_6] at hv
      refine lv_aload_n hx hb dX12_sum_6 rfl (lv_at hl 0 rfl) ?_
      obtain ⟨_, ⟨rfl, t_2, hk_3⟩, o_c_1⟩ := hH h0 _ k_h0
      refine vp_callSi (W.runV (As := []) (rest := []) ⟨hx, hb, hml, hown, hts⟩ (c_X12_fine_p l g Ty G_6 h0 k_h0 rd nn rdf askf len top isA M pa_6 pw_6 hPE_6) (cwV 0 hts (gwV mw_1463 mw_1465 mw_39 mw_88 mw_1466) rfl rfl rfl hv_X12_fine ⟨by show 0 + 1 ≤ 8 + 4 * nr; omega, by show 20 + 0 ≤ 247 + 93 * nr; omega⟩) ⟨PcH_blind, hg_recv hK o_c_1 rfl, PcH_pre hK hH⟩ rfl rfl hl.1 rfl (lv_room (Nat.le_of_ble_eq_true rfl)) dX12_sum_7 ⟨Nat.zero_le _, Nat.zero_le _⟩) (fun x_4 hx_4 => ?_)
      have rx_4 : rgI (0) (1) x_4 := hx_4.1
      try rw [← hx_4.2] at hv
      refine lv_if_eq (tgt := 82) hx hb dX12_sum_10 (by decide) (fun c_5 => ?_) (fun c_5 => ?_)
      · rw [if_pos c_5] at hv
        have r_6 : rgI (0) (0) x_4 := rg_w (rg_eq rl_0 c_5) (by decide) (by decide)
        exact L_82 H locs G_6 pa_6 pw_6 y2_6 ls hPE_6 hp_6 hmo_6 (lv_sub hl [2] rfl) hv hH hS
      · rw [if_neg c_5] at hv
        have r_7 : rgI (1) (1) x_4 := rg_w (rg_neL rx_4 rl_0 c_5) (by decide) (by decide)
        refine lv_aload_n hx hb dX12_sum_13 rfl (lv_at hl 0 rfl) ?_
        refine vp_callSi (W.runV (As := []) (rest := []) ⟨hx, hb, hml, hown, hts⟩ (c_X12_here l g Ty G_6 h0 k_h0 rd nn rdf askf len top isA M pa_6 pw_6 hPE_6) (cwV 0 hts (gwV mw_1467 mw_1469 mw_40 mw_88 mw_1470) rfl rfl rfl hv_X12_here ⟨by show 0 + 1 ≤ 8 + 4 * nr; omega, by show 20 + 0 ≤ 247 + 93 * nr; omega⟩) ⟨PcH_blind, hg_recv hK o_c_1 rfl, PcH_pre hK hH⟩ rfl rfl hl.1 rfl (lv_room (Nat.le_of_ble_eq_true rfl)) dX12_sum_14 ⟨Nat.zero_le _, Nat.zero_le _⟩) (fun x_8 hx_8 => ?_)
        have rx_8 : rgI (-1) (255) x_8 := hx_8.1
        try rw [← hx_8.2] at hv
        refine lv_bipush (v := 43) hx hb dX12_sum_17 (by decide) ?_
        refine lv_icmp_eq (tgt := 31) hx hb dX12_sum_19 (by decide) (fun c_9 => ?_) (fun c_9 => ?_)
        · rw [if_pos c_9] at hv
          have r_10 : rgI (43) (43) x_8 := rg_w (rg_eq rl_43 c_9) (by decide) (by decide)
          refine lv_aload_n hx hb dX12_sum_31 rfl (lv_at hl 0 rfl) ?_
          refine vp_callSi (W.runV (As := []) (rest := []) ⟨hx, hb, hml, hown, hts⟩ (c_X12_here l g Ty G_6 h0 k_h0 rd nn rdf askf len top isA M pa_6 pw_6 hPE_6) (cwV 0 hts (gwV mw_1467 mw_1469 mw_40 mw_88 mw_1470) rfl rfl rfl hv_X12_here ⟨by show 0 + 1 ≤ 8 + 4 * nr; omega, by show 20 + 0 ≤ 247 + 93 * nr; omega⟩) ⟨PcH_blind, hg_recv hK o_c_1 rfl, PcH_pre hK hH⟩ rfl rfl hl.1 rfl (lv_room (Nat.le_of_ble_eq_true rfl)) dX12_sum_32 ⟨Nat.zero_le _, Nat.zero_le _⟩) (fun x_11 hx_11 => ?_)
          have rx_11 : rgI (-1) (255) x_11 := hx_11.1
          try rw [← hx_11.2] at hv
          have q_12 : x_8 = x_11 := (hx_8.2).trans (hx_11.2).symm
          subst q_12
          refine lv_bipush (v := 43) hx hb dX12_sum_35 (by decide) ?_
          refine lv_icmp_ne (tgt := 44) hx hb dX12_sum_37 (by decide) (fun c_13 => ?_) (fun c_13 => ?_)
          · rw [if_neg c_13] at hv
            refine lv_iconst (v := 0) hx hb dX12_sum_44 (by decide) ?_
            refine lv_istore_n (lv' := [(3, .int 0), (0, .ref h0), (1, .int a0), (2, .int y2_6)]) hx hb dX12_sum_45 rfl hl (by decide) rfl (fun ls hl => ?_)
            refine lv_aload_n hx hb dX12_sum_46 rfl (lv_at hl 1 rfl) ?_
            refine lv_dup hx hb dX12_sum_47 rfl ?_
            refine hg_get hx hb hG igX12 hown hK o_c_1 rfl 9 (by decide) (hG _ mw_1293) rfl dX12_sum_48 ?_
            rw [(PE.e109 hPE_6)]
            refine lv_iconst (v := 1) hx hb dX12_sum_51 (by decide) ?_
            refine lv_iadd hx hb dX12_sum_52 ?_
            refine lv_topi (fun x_14 ex_14 => ?_)
            try rw [← ex_14] at hv
            have rx_14 : rgI (1) (81) x_14 := by rw [ex_14]; exact rg_w (rg_add (PE.ra8 hPE_6) rl_1 (by decide) (by decide)) (by decide) (by decide)
            have qx_14 : x_14.toInt = (pa_6 : Int32).toInt + 1 := by rw [ex_14]; exact rg_addE (PE.ra8 hPE_6) rl_1 (by decide) (by decide)
            refine hg_put (ty := .int) hx hb hG igX12 tyX12 tyX12_ok nmX12 hown hK hS o_c_1 (AF.of k_h0) rfl 9 (by decide) (hG _ mw_1293) rfl (by decide +kernel) rfl rfl (Nat.le_of_ble_eq_true rfl) dX12_sum_53 (fun H locs o_c_1 hz oq hS => ?_)
            obtain ⟨G_15, eG_15⟩ : ∃ z : Gh, z = gset G_6 109 x_14 := ⟨_, rfl⟩
            have hH : HT g Ty G_15 H := by rw [eG_15]; exact HT.putN 109 x_14 hH k_h0 ⟨rfl, t_2, hk_3⟩ o_c_1 oq (Or.inr (Or.inr (Or.inr (Or.inr (Or.inr ⟨by decide, t_2⟩)))))
            have ra_19 : rgI 0 M x_14 := pe_up hPE_6 (nh_eq hx_8.2 c_9 (by decide)) qx_14
            have hPE_16 : PE g Ty G_15 rd nn rdf askf len top isA M x_14 pw_6 := PE.atx hPE_6 eG_15 ra_19
            have hp_17 : G_15 = pst G x_14 pw_6 := pst_a hp_6 eG_15
            have hmo_18 : at0.toInt ≤ (x_14 : Int32).toInt := by have q1 := hmo_6; have q2 := qx_14; omega
            clear oq hz
            refine lv_aload_n hx hb dX12_sum_56 rfl (lv_at hl 1 rfl) ?_
            refine lv_iload_n hx hb dX12_sum_57 rfl (lv_at hl 2 rfl) ?_
            obtain ⟨_, ⟨rfl, t_21, hk_22⟩, o_c_20⟩ := hH h0 _ k_h0
            refine va_calli (va_runV (As := [.int a0]) (rest := []) ⟨hx, hb, hml, hown, hts⟩ (c_X12_product l g nr hth Ty G_15 H.size h0 a0 k_h0 rd nn rdf askf len top isA M x_14 pw_6 hPE_16 (by have q0 := (PE.ra8 hPE).2; have q1 := hmz; have q2 := hmo_18; omega)) (cwV 1 hts (gwV mw_1451 mw_1453 mw_36 mw_88 mw_1454) rfl rfl rfl hv_X12_product ⟨by show (7 + 4 * nr) + 1 ≤ 8 + 4 * nr; omega, by show 24 + (223 + 93 * nr) ≤ 247 + 93 * nr; omega⟩) ⟨PcT_blind, hg_recv hK o_c_20 rfl, PcT_pre hK hH⟩ rfl rfl hl.1 rfl (lv_room (Nat.le_of_ble_eq_true rfl)) dX12_sum_58 ⟨Nat.zero_le _, Nat.zero_le _⟩) hS (fun q _ h => AF.mono hS.1 h) (fun q h => AF.mono hS.1 h) (fun x_23 ux_23 t H locs ht hvm hx_23 hB hz hk hS => ?_)
            obtain ⟨eTx_23, eGx_23⟩ := hx_23
            obtain ⟨G_24, eG_24⟩ : ∃ z, z = ux_23.2 := ⟨_, rfl⟩
            rw [← eG_24] at eGx_23
            obtain ⟨hr_k_25, hg_k_25, hm_k_25, hq_k_25⟩ := eGx_23
            obtain ⟨xa_26, exa_26⟩ : ∃ z : Int32, z = (F_X12_product rdf askf len top isA (F_X12_thing rdf askf len top isA nr) a0 x_14 pw_6).2.1 := ⟨_, rfl⟩
            obtain ⟨xw_27, exw_27⟩ : ∃ z : Int32, z = (F_X12_product rdf askf len top isA (F_X12_thing rdf askf len top isA nr) a0 x_14 pw_6).2.2 := ⟨_, rfl⟩
            rw [← exa_26] at hg_k_25 hm_k_25 hq_k_25
            rw [← exw_27] at hg_k_25
            have hPE_28 : PE g Ty G_24 rd nn rdf askf len top isA M xa_26 xw_27 := PE.ps hPE_16 hg_k_25 hq_k_25
            have hp_29 : G_24 = pst G xa_26 xw_27 := pst_pst hg_k_25 hp_17
            have hmo_30 : at0.toInt ≤ (xa_26 : Int32).toInt := Int.le_trans hmo_18 hm_k_25
            have hH : HT g Ty G_24 H := by rw [← ht, ← eTx_23, eG_24]; exact hB
            have hv : (if (0 : Int32) = (0 : Int32) then (F_X12_sum_6 rdf askf len top isA (F_X12_thing rdf askf len top isA nr) n_6 a0 (y2_6 - x_23) xa_26 xw_27) else (F_X12_sum_6 rdf askf len top isA (F_X12_thing rdf askf len top isA nr) n_6 a0 (y2_6 + x_23) xa_26 xw_27)) = F_X12_sum rdf askf len top isA (F_X12_thing rdf askf len top isA nr) a0 at0 wr0 := by have q := bn3_to hr_k_25 exa_26 exw_27 hv; exact q
            refine lv_istore (lv' := [(4, .int x_23), (3, .int 0), (0, .ref h0), (1, .int a0), (2, .int y2_6)]) hx hb dX12_sum_61 hl (by decide) rfl (fun ls hl => ?_)
            refine lv_iload_n hx hb dX12_sum_63 rfl (lv_at hl 1 rfl) ?_
            refine lv_if_eq (tgt := 74) hx hb dX12_sum_64 (by decide) (fun c_31 => ?_) (fun c_31 => ?_)
            · rw [if_pos c_31] at hv
              refine lv_iload_n hx hb dX12_sum_74 rfl (lv_at hl 4 rfl) ?_
              refine lv_iload hx hb dX12_sum_75 (lv_at hl 0 rfl) ?_
              refine lv_isub hx hb dX12_sum_77 ?_
              refine lv_topi (fun x_32 ex_32 => ?_)
              try rw [← ex_32] at hv
              refine lv_istore_n (lv' := [(2, .int x_32), (4, .int x_23), (3, .int 0), (0, .ref h0), (1, .int a0)]) hx hb dX12_sum_78 rfl hl (by decide) rfl (fun ls hl => ?_)
              refine lv_goto (tgt := 6) hx hb dX12_sum_79 (by decide) ?_
              exact ih_6 H locs G_24 xa_26 xw_27 x_32 ls hPE_28 hp_29 hmo_30 (by have q4 := (PE.ra8 hPE_6).2; omega) (lv_sub hl [3, 4, 0] rfl) hv hH hS
            · rw [if_neg c_31] at hv
              exact absurd rfl c_31
          · rw [if_pos c_13] at hv
            have r_33 : rgI (43) (43) x_8 := rg_w (rg_eq rl_43 c_13) (by decide) (by decide)
            refine lv_iconst (v := 1) hx hb dX12_sum_40 (by decide) ?_
            refine lv_goto (tgt := 45) hx hb dX12_sum_41 (by decide) ?_
            refine lv_istore_n (lv' := [(3, .int 1), (0, .ref h0), (1, .int a0), (2, .int y2_6)]) hx hb dX12_sum_45 rfl hl (by decide) rfl (fun ls hl => ?_)
            refine lv_aload_n hx hb dX12_sum_46 rfl (lv_at hl 1 rfl) ?_
            refine lv_dup hx hb dX12_sum_47 rfl ?_
            refine hg_get hx hb hG igX12 hown hK o_c_1 rfl 9 (by decide) (hG _ mw_1293) rfl dX12_sum_48 ?_
            rw [(PE.e109 hPE_6)]
            refine lv_iconst (v := 1) hx hb dX12_sum_51 (by decide) ?_
            refine lv_iadd hx hb dX12_sum_52 ?_
            refine lv_topi (fun x_34 ex_34 => ?_)
            try rw [← ex_34] at hv
            have rx_34 : rgI (1) (81) x_34 := by rw [ex_34]; exact rg_w (rg_add (PE.ra8 hPE_6) rl_1 (by decide) (by decide)) (by decide) (by decide)
            have qx_34 : x_34.toInt = (pa_6 : Int32).toInt + 1 := by rw [ex_34]; exact rg_addE (PE.ra8 hPE_6) rl_1 (by decide) (by decide)
            refine hg_put (ty := .int) hx hb hG igX12 tyX12 tyX12_ok nmX12 hown hK hS o_c_1 (AF.of k_h0) rfl 9 (by decide) (hG _ mw_1293) rfl (by decide +kernel) rfl rfl (Nat.le_of_ble_eq_true rfl) dX12_sum_53 (fun H locs o_c_1 hz oq hS => ?_)
            obtain ⟨G_35, eG_35⟩ : ∃ z : Gh, z = gset G_6 109 x_34 := ⟨_, rfl⟩
            have hH : HT g Ty G_35 H := by rw [eG_35]; exact HT.putN 109 x_34 hH k_h0 ⟨rfl, t_2, hk_3⟩ o_c_1 oq (Or.inr (Or.inr (Or.inr (Or.inr (Or.inr ⟨by decide, t_2⟩)))))
            have ra_39 : rgI 0 M x_34 := pe_up hPE_6 (nh_eq hx_11.2 c_13 (by decide)) qx_34
            have hPE_36 : PE g Ty G_35 rd nn rdf askf len top isA M x_34 pw_6 := PE.atx hPE_6 eG_35 ra_39
            have hp_37 : G_35 = pst G x_34 pw_6 := pst_a hp_6 eG_35
            have hmo_38 : at0.toInt ≤ (x_34 : Int32).toInt := by have q1 := hmo_6; have q2 := qx_34; omega
            clear oq hz
            refine lv_aload_n hx hb dX12_sum_56 rfl (lv_at hl 1 rfl) ?_
            refine lv_iload_n hx hb dX12_sum_57 rfl (lv_at hl 2 rfl) ?_
            obtain ⟨_, ⟨rfl, t_41, hk_42⟩, o_c_40⟩ := hH h0 _ k_h0
            refine va_calli (va_runV (As := [.int a0]) (rest := []) ⟨hx, hb, hml, hown, hts⟩ (c_X12_product l g nr hth Ty G_35 H.size h0 a0 k_h0 rd nn rdf askf len top isA M x_34 pw_6 hPE_36 (by have q0 := (PE.ra8 hPE).2; have q1 := hmz; have q2 := hmo_38; omega)) (cwV 1 hts (gwV mw_1451 mw_1453 mw_36 mw_88 mw_1454) rfl rfl rfl hv_X12_product ⟨by show (7 + 4 * nr) + 1 ≤ 8 + 4 * nr; omega, by show 24 + (223 + 93 * nr) ≤ 247 + 93 * nr; omega⟩) ⟨PcT_blind, hg_recv hK o_c_40 rfl, PcT_pre hK hH⟩ rfl rfl hl.1 rfl (lv_room (Nat.le_of_ble_eq_true rfl)) dX12_sum_58 ⟨Nat.zero_le _, Nat.zero_le _⟩) hS (fun q _ h => AF.mono hS.1 h) (fun q h => AF.mono hS.1 h) (fun x_43 ux_43 t H locs ht hvm hx_43 hB hz hk hS => ?_)
            obtain ⟨eTx_43, eGx_43⟩ := hx_43
            obtain ⟨G_44, eG_44⟩ : ∃ z, z = ux_43.2 := ⟨_, rfl⟩
            rw [← eG_44] at eGx_43
            obtain ⟨hr_k_45, hg_k_45, hm_k_45, hq_k_45⟩ := eGx_43
            obtain ⟨xa_46, exa_46⟩ : ∃ z : Int32, z = (F_X12_product rdf askf len top isA (F_X12_thing rdf askf len top isA nr) a0 x_34 pw_6).2.1 := ⟨_, rfl⟩
            obtain ⟨xw_47, exw_47⟩ : ∃ z : Int32, z = (F_X12_product rdf askf len top isA (F_X12_thing rdf askf len top isA nr) a0 x_34 pw_6).2.2 := ⟨_, rfl⟩
            rw [← exa_46] at hg_k_45 hm_k_45 hq_k_45
            rw [← exw_47] at hg_k_45
            have hPE_48 : PE g Ty G_44 rd nn rdf askf len top isA M xa_46 xw_47 := PE.ps hPE_36 hg_k_45 hq_k_45
            have hp_49 : G_44 = pst G xa_46 xw_47 := pst_pst hg_k_45 hp_37
            have hmo_50 : at0.toInt ≤ (xa_46 : Int32).toInt := Int.le_trans hmo_38 hm_k_45
            have hH : HT g Ty G_44 H := by rw [← ht, ← eTx_43, eG_44]; exact hB
            have hv : (if (1 : Int32) = (0 : Int32) then (F_X12_sum_6 rdf askf len top isA (F_X12_thing rdf askf len top isA nr) n_6 a0 (y2_6 - x_43) xa_46 xw_47) else (F_X12_sum_6 rdf askf len top isA (F_X12_thing rdf askf len top isA nr) n_6 a0 (y2_6 + x_43) xa_46 xw_47)) = F_X12_sum rdf askf len top isA (F_X12_thing rdf askf len top isA nr) a0 at0 wr0 := by have q := bn3_to hr_k_45 exa_46 exw_47 hv; exact q
            refine lv_istore (lv' := [(4, .int x_43), (3, .int 1), (0, .ref h0), (1, .int a0), (2, .int y2_6)]) hx hb dX12_sum_61 hl (by decide) rfl (fun ls hl => ?_)
            refine lv_iload_n hx hb dX12_sum_63 rfl (lv_at hl 1 rfl) ?_
            refine lv_if_eq (tgt := 74) hx hb dX12_sum_64 (by decide) (fun c_51 => ?_) (fun c_51 => ?_)
            · rw [if_pos c_51] at hv
              exact rg_noE rl_1 rl_0 c_51 (by decide)
            · rw [if_neg c_51] at hv
              refine lv_iload_n hx hb dX12_sum_67 rfl (lv_at hl 4 rfl) ?_
              refine lv_iload hx hb dX12_sum_68 (lv_at hl 0 rfl) ?_
              refine lv_iadd hx hb dX12_sum_70 ?_
              refine lv_topi (fun x_52 ex_52 => ?_)
              try rw [← ex_52] at hv
              refine lv_goto (tgt := 78) hx hb dX12_sum_71 (by decide) ?_
              refine lv_istore_n (lv' := [(2, .int x_52), (4, .int x_43), (3, .int 1), (0, .ref h0), (1, .int a0)]) hx hb dX12_sum_78 rfl hl (by decide) rfl (fun ls hl => ?_)
              refine lv_goto (tgt := 6) hx hb dX12_sum_79 (by decide) ?_
              exact ih_6 H locs G_44 xa_46 xw_47 x_52 ls hPE_48 hp_49 hmo_50 (by have q4 := (PE.ra8 hPE_6).2; omega) (lv_sub hl [3, 4, 0] rfl) hv hH hS
        · rw [if_neg c_9] at hv
          refine lv_aload_n hx hb dX12_sum_22 rfl (lv_at hl 0 rfl) ?_
          refine vp_callSi (W.runV (As := []) (rest := []) ⟨hx, hb, hml, hown, hts⟩ (c_X12_here l g Ty G_6 h0 k_h0 rd nn rdf askf len top isA M pa_6 pw_6 hPE_6) (cwV 0 hts (gwV mw_1467 mw_1469 mw_40 mw_88 mw_1470) rfl rfl rfl hv_X12_here ⟨by show 0 + 1 ≤ 8 + 4 * nr; omega, by show 20 + 0 ≤ 247 + 93 * nr; omega⟩) ⟨PcH_blind, hg_recv hK o_c_1 rfl, PcH_pre hK hH⟩ rfl rfl hl.1 rfl (lv_room (Nat.le_of_ble_eq_true rfl)) dX12_sum_23 ⟨Nat.zero_le _, Nat.zero_le _⟩) (fun x_53 hx_53 => ?_)
          have rx_53 : rgI (-1) (255) x_53 := hx_53.1
          try rw [← hx_53.2] at hv
          have q_54 : x_8 = x_53 := (hx_8.2).trans (hx_53.2).symm
          subst q_54
          refine lv_bipush (v := 45) hx hb dX12_sum_26 (by decide) ?_
          refine lv_icmp_ne (tgt := 82) hx hb dX12_sum_28 (by decide) (fun c_55 => ?_) (fun c_55 => ?_)
          · rw [if_neg c_55] at hv
            exact L_82 H locs G_6 pa_6 pw_6 y2_6 ls hPE_6 hp_6 hmo_6 (lv_sub hl [2] rfl) hv hH hS
          · rw [if_pos c_55] at hv
            have r_56 : rgI (45) (45) x_8 := rg_w (rg_eq rl_45 c_55) (by decide) (by decide)
            refine lv_aload_n hx hb dX12_sum_31 rfl (lv_at hl 0 rfl) ?_
            refine vp_callSi (W.runV (As := []) (rest := []) ⟨hx, hb, hml, hown, hts⟩ (c_X12_here l g Ty G_6 h0 k_h0 rd nn rdf askf len top isA M pa_6 pw_6 hPE_6) (cwV 0 hts (gwV mw_1467 mw_1469 mw_40 mw_88 mw_1470) rfl rfl rfl hv_X12_here ⟨by show 0 + 1 ≤ 8 + 4 * nr; omega, by show 20 + 0 ≤ 247 + 93 * nr; omega⟩) ⟨PcH_blind, hg_recv hK o_c_1 rfl, PcH_pre hK hH⟩ rfl rfl hl.1 rfl (lv_room (Nat.le_of_ble_eq_true rfl)) dX12_sum_32 ⟨Nat.zero_le _, Nat.zero_le _⟩) (fun x_57 hx_57 => ?_)
            have rx_57 : rgI (-1) (255) x_57 := hx_57.1
            try rw [← hx_57.2] at hv
            have q_58 : x_8 = x_57 := (hx_8.2).trans (hx_57.2).symm
            subst q_58
            refine lv_bipush (v := 43) hx hb dX12_sum_35 (by decide) ?_
            refine lv_icmp_ne (tgt := 44) hx hb dX12_sum_37 (by decide) (fun c_59 => ?_) (fun c_59 => ?_)
            · rw [if_neg c_59] at hv
              refine lv_iconst (v := 0) hx hb dX12_sum_44 (by decide) ?_
              refine lv_istore_n (lv' := [(3, .int 0), (0, .ref h0), (1, .int a0), (2, .int y2_6)]) hx hb dX12_sum_45 rfl hl (by decide) rfl (fun ls hl => ?_)
              refine lv_aload_n hx hb dX12_sum_46 rfl (lv_at hl 1 rfl) ?_
              refine lv_dup hx hb dX12_sum_47 rfl ?_
              refine hg_get hx hb hG igX12 hown hK o_c_1 rfl 9 (by decide) (hG _ mw_1293) rfl dX12_sum_48 ?_
              rw [(PE.e109 hPE_6)]
              refine lv_iconst (v := 1) hx hb dX12_sum_51 (by decide) ?_
              refine lv_iadd hx hb dX12_sum_52 ?_
              refine lv_topi (fun x_60 ex_60 => ?_)
              try rw [← ex_60] at hv
              have rx_60 : rgI (1) (81) x_60 := by rw [ex_60]; exact rg_w (rg_add (PE.ra8 hPE_6) rl_1 (by decide) (by decide)) (by decide) (by decide)
              have qx_60 : x_60.toInt = (pa_6 : Int32).toInt + 1 := by rw [ex_60]; exact rg_addE (PE.ra8 hPE_6) rl_1 (by decide) (by decide)
              refine hg_put (ty := .int) hx hb hG igX12 tyX12 tyX12_ok nmX12 hown hK hS o_c_1 (AF.of k_h0) rfl 9 (by decide) (hG _ mw_1293) rfl (by decide +kernel) rfl rfl (Nat.le_of_ble_eq_true rfl) dX12_sum_53 (fun H locs o_c_1 hz oq hS => ?_)
              obtain ⟨G_61, eG_61⟩ : ∃ z : Gh, z = gset G_6 109 x_60 := ⟨_, rfl⟩
              have hH : HT g Ty G_61 H := by rw [eG_61]; exact HT.putN 109 x_60 hH k_h0 ⟨rfl, t_2, hk_3⟩ o_c_1 oq (Or.inr (Or.inr (Or.inr (Or.inr (Or.inr ⟨by decide, t_2⟩)))))
              have ra_65 : rgI 0 M x_60 := pe_up hPE_6 (nh_eq hx_53.2 c_55 (by decide)) qx_60
              have hPE_62 : PE g Ty G_61 rd nn rdf askf len top isA M x_60 pw_6 := PE.atx hPE_6 eG_61 ra_65
              have hp_63 : G_61 = pst G x_60 pw_6 := pst_a hp_6 eG_61
              have hmo_64 : at0.toInt ≤ (x_60 : Int32).toInt := by have q1 := hmo_6; have q2 := qx_60; omega
              clear oq hz
              refine lv_aload_n hx hb dX12_sum_56 rfl (lv_at hl 1 rfl) ?_
              refine lv_iload_n hx hb dX12_sum_57 rfl (lv_at hl 2 rfl) ?_
              obtain ⟨_, ⟨rfl, t_67, hk_68⟩, o_c_66⟩ := hH h0 _ k_h0
              refine va_calli (va_runV (As := [.int a0]) (rest := []) ⟨hx, hb, hml, hown, hts⟩ (c_X12_product l g nr hth Ty G_61 H.size h0 a0 k_h0 rd nn rdf askf len top isA M x_60 pw_6 hPE_62 (by have q0 := (PE.ra8 hPE).2; have q1 := hmz; have q2 := hmo_64; omega)) (cwV 1 hts (gwV mw_1451 mw_1453 mw_36 mw_88 mw_1454) rfl rfl rfl hv_X12_product ⟨by show (7 + 4 * nr) + 1 ≤ 8 + 4 * nr; omega, by show 24 + (223 + 93 * nr) ≤ 247 + 93 * nr; omega⟩) ⟨PcT_blind, hg_recv hK o_c_66 rfl, PcT_pre hK hH⟩ rfl rfl hl.1 rfl (lv_room (Nat.le_of_ble_eq_true rfl)) dX12_sum_58 ⟨Nat.zero_le _, Nat.zero_le _⟩) hS (fun q _ h => AF.mono hS.1 h) (fun q h => AF.mono hS.1 h) (fun x_69 ux_69 t H locs ht hvm hx_69 hB hz hk hS => ?_)
              obtain ⟨eTx_69, eGx_69⟩ := hx_69
              obtain ⟨G_70, eG_70⟩ : ∃ z, z = ux_69.2 := ⟨_, rfl⟩
              rw [← eG_70] at eGx_69
              obtain ⟨hr_k_71, hg_k_71, hm_k_71, hq_k_71⟩ := eGx_69
              obtain ⟨xa_72, exa_72⟩ : ∃ z : Int32, z = (F_X12_product rdf askf len top isA (F_X12_thing rdf askf len top isA nr) a0 x_60 pw_6).2.1 := ⟨_, rfl⟩
              obtain ⟨xw_73, exw_73⟩ : ∃ z : Int32, z = (F_X12_product rdf askf len top isA (F_X12_thing rdf askf len top isA nr) a0 x_60 pw_6).2.2 := ⟨_, rfl⟩
              rw [← exa_72] at hg_k_71 hm_k_71 hq_k_71
              rw [← exw_73] at hg_k_71
              have hPE_74 : PE g Ty G_70 rd nn rdf askf len top isA M xa_72 xw_73 := PE.ps hPE_62 hg_k_71 hq_k_71
              have hp_75 : G_70 = pst G xa_72 xw_73 := pst_pst hg_k_71 hp_63
              have hmo_76 : at0.toInt ≤ (xa_72 : Int32).toInt := Int.le_trans hmo_64 hm_k_71
              have hH : HT g Ty G_70 H := by rw [← ht, ← eTx_69, eG_70]; exact hB
              have hv : (if (0 : Int32) = (0 : Int32) then (F_X12_sum_6 rdf askf len top isA (F_X12_thing rdf askf len top isA nr) n_6 a0 (y2_6 - x_69) xa_72 xw_73) else (F_X12_sum_6 rdf askf len top isA (F_X12_thing rdf askf len top isA nr) n_6 a0 (y2_6 + x_69) xa_72 xw_73)) = F_X12_sum rdf askf len top isA (F_X12_thing rdf askf len top isA nr) a0 at0 wr0 := by have q := bn3_to hr_k_71 exa_72 exw_73 hv; exact q
              refine lv_istore (lv' := [(4, .int x_69), (3, .int 0), (0, .ref h0), (1, .int a0), (2, .int y2_6)]) hx hb dX12_sum_61 hl (by decide) rfl (fun ls hl => ?_)
              refine lv_iload_n hx hb dX12_sum_63 rfl (lv_at hl 1 rfl) ?_
              refine lv_if_eq (tgt := 74) hx hb dX12_sum_64 (by decide) (fun c_77 => ?_) (fun c_77 => ?_)
              · rw [if_pos c_77] at hv
                refine lv_iload_n hx hb dX12_sum_74 rfl (lv_at hl 4 rfl) ?_
                refine lv_iload hx hb dX12_sum_75 (lv_at hl 0 rfl) ?_
                refine lv_isub hx hb dX12_sum_77 ?_
                refine lv_topi (fun x_78 ex_78 => ?_)
                try rw [← ex_78] at hv
                refine lv_istore_n (lv' := [(2, .int x_78), (4, .int x_69), (3, .int 0), (0, .ref h0), (1, .int a0)]) hx hb dX12_sum_78 rfl hl (by decide) rfl (fun ls hl => ?_)
                refine lv_goto (tgt := 6) hx hb dX12_sum_79 (by decide) ?_
                exact ih_6 H locs G_70 xa_72 xw_73 x_78 ls hPE_74 hp_75 hmo_76 (by have q4 := (PE.ra8 hPE_6).2; omega) (lv_sub hl [3, 4, 0] rfl) hv hH hS
              · rw [if_neg c_77] at hv
                exact absurd rfl c_77
            · rw [if_pos c_59] at hv
              have r_79 : rgI (43) (43) x_8 := rg_w (rg_eq rl_43 c_59) (by decide) (by decide)
              refine lv_iconst (v := 1) hx hb dX12_sum_40 (by decide) ?_
              refine lv_goto (tgt := 45) hx hb dX12_sum_41 (by decide) ?_
              refine lv_istore_n (lv' := [(3, .int 1), (0, .ref h0), (1, .int a0), (2, .int y2_6)]) hx hb dX12_sum_45 rfl hl (by decide) rfl (fun ls hl => ?_)
              refine lv_aload_n hx hb dX12_sum_46 rfl (lv_at hl 1 rfl) ?_
              refine lv_dup hx hb dX12_sum_47 rfl ?_
              refine hg_get hx hb hG igX12 hown hK o_c_1 rfl 9 (by decide) (hG _ mw_1293) rfl dX12_sum_48 ?_
              rw [(PE.e109 hPE_6)]
              refine lv_iconst (v := 1) hx hb dX12_sum_51 (by decide) ?_
              refine lv_iadd hx hb dX12_sum_52 ?_
              refine lv_topi (fun x_80 ex_80 => ?_)
              try rw [← ex_80] at hv
              have rx_80 : rgI (1) (81) x_80 := by rw [ex_80]; exact rg_w (rg_add (PE.ra8 hPE_6) rl_1 (by decide) (by decide)) (by decide) (by decide)
              have qx_80 : x_80.toInt = (pa_6 : Int32).toInt + 1 := by rw [ex_80]; exact rg_addE (PE.ra8 hPE_6) rl_1 (by decide) (by decide)
              refine hg_put (ty := .int) hx hb hG igX12 tyX12 tyX12_ok nmX12 hown hK hS o_c_1 (AF.of k_h0) rfl 9 (by decide) (hG _ mw_1293) rfl (by decide +kernel) rfl rfl (Nat.le_of_ble_eq_true rfl) dX12_sum_53 (fun H locs o_c_1 hz oq hS => ?_)
              obtain ⟨G_81, eG_81⟩ : ∃ z : Gh, z = gset G_6 109 x_80 := ⟨_, rfl⟩
              have hH : HT g Ty G_81 H := by rw [eG_81]; exact HT.putN 109 x_80 hH k_h0 ⟨rfl, t_2, hk_3⟩ o_c_1 oq (Or.inr (Or.inr (Or.inr (Or.inr (Or.inr ⟨by decide, t_2⟩)))))
              have ra_85 : rgI 0 M x_80 := pe_up hPE_6 (nh_eq hx_57.2 c_59 (by decide)) qx_80
              have hPE_82 : PE g Ty G_81 rd nn rdf askf len top isA M x_80 pw_6 := PE.atx hPE_6 eG_81 ra_85
              have hp_83 : G_81 = pst G x_80 pw_6 := pst_a hp_6 eG_81
              have hmo_84 : at0.toInt ≤ (x_80 : Int32).toInt := by have q1 := hmo_6; have q2 := qx_80; omega
              clear oq hz
              refine lv_aload_n hx hb dX12_sum_56 rfl (lv_at hl 1 rfl) ?_
              refine lv_iload_n hx hb dX12_sum_57 rfl (lv_at hl 2 rfl) ?_
              obtain ⟨_, ⟨rfl, t_87, hk_88⟩, o_c_86⟩ := hH h0 _ k_h0
              refine va_calli (va_runV (As := [.int a0]) (rest := []) ⟨hx, hb, hml, hown, hts⟩ (c_X12_product l g nr hth Ty G_81 H.size h0 a0 k_h0 rd nn rdf askf len top isA M x_80 pw_6 hPE_82 (by have q0 := (PE.ra8 hPE).2; have q1 := hmz; have q2 := hmo_84; omega)) (cwV 1 hts (gwV mw_1451 mw_1453 mw_36 mw_88 mw_1454) rfl rfl rfl hv_X12_product ⟨by show (7 + 4 * nr) + 1 ≤ 8 + 4 * nr; omega, by show 24 + (223 + 93 * nr) ≤ 247 + 93 * nr; omega⟩) ⟨PcT_blind, hg_recv hK o_c_86 rfl, PcT_pre hK hH⟩ rfl rfl hl.1 rfl (lv_room (Nat.le_of_ble_eq_true rfl)) dX12_sum_58 ⟨Nat.zero_le _, Nat.zero_le _⟩) hS (fun q _ h => AF.mono hS.1 h) (fun q h => AF.mono hS.1 h) (fun x_89 ux_89 t H locs ht hvm hx_89 hB hz hk hS => ?_)
              obtain ⟨eTx_89, eGx_89⟩ := hx_89
              obtain ⟨G_90, eG_90⟩ : ∃ z, z = ux_89.2 := ⟨_, rfl⟩
              rw [← eG_90] at eGx_89
              obtain ⟨hr_k_91, hg_k_91, hm_k_91, hq_k_91⟩ := eGx_89
              obtain ⟨xa_92, exa_92⟩ : ∃ z : Int32, z = (F_X12_product rdf askf len top isA (F_X12_thing rdf askf len top isA nr) a0 x_80 pw_6).2.1 := ⟨_, rfl⟩
              obtain ⟨xw_93, exw_93⟩ : ∃ z : Int32, z = (F_X12_product rdf askf len top isA (F_X12_thing rdf askf len top isA nr) a0 x_80 pw_6).2.2 := ⟨_, rfl⟩
              rw [← exa_92] at hg_k_91 hm_k_91 hq_k_91
              rw [← exw_93] at hg_k_91
              have hPE_94 : PE g Ty G_90 rd nn rdf askf len top isA M xa_92 xw_93 := PE.ps hPE_82 hg_k_91 hq_k_91
              have hp_95 : G_90 = pst G xa_92 xw_93 := pst_pst hg_k_91 hp_83
              have hmo_96 : at0.toInt ≤ (xa_92 : Int32).toInt := Int.le_trans hmo_84 hm_k_91
              have hH : HT g Ty G_90 H := by rw [← ht, ← eTx_89, eG_90]; exact hB
              have hv : (if (1 : Int32) = (0 : Int32) then (F_X12_sum_6 rdf askf len top isA (F_X12_thing rdf askf len top isA nr) n_6 a0 (y2_6 - x_89) xa_92 xw_93) else (F_X12_sum_6 rdf askf len top isA (F_X12_thing rdf askf len top isA nr) n_6 a0 (y2_6 + x_89) xa_92 xw_93)) = F_X12_sum rdf askf len top isA (F_X12_thing rdf askf len top isA nr) a0 at0 wr0 := by have q := bn3_to hr_k_91 exa_92 exw_93 hv; exact q
              refine lv_istore (lv' := [(4, .int x_89), (3, .int 1), (0, .ref h0), (1, .int a0), (2, .int y2_6)]) hx hb dX12_sum_61 hl (by decide) rfl (fun ls hl => ?_)
              refine lv_iload_n hx hb dX12_sum_63 rfl (lv_at hl 1 rfl) ?_
              refine lv_if_eq (tgt := 74) hx hb dX12_sum_64 (by decide) (fun c_97 => ?_) (fun c_97 => ?_)
              · rw [if_pos c_97] at hv
                exact rg_noE rl_1 rl_0 c_97 (by decide)
              · rw [if_neg c_97] at hv
                refine lv_iload_n hx hb dX12_sum_67 rfl (lv_at hl 4 rfl) ?_
                refine lv_iload hx hb dX12_sum_68 (lv_at hl 0 rfl) ?_
                refine lv_iadd hx hb dX12_sum_70 ?_
                refine lv_topi (fun x_98 ex_98 => ?_)
                try rw [← ex_98] at hv
                refine lv_goto (tgt := 78) hx hb dX12_sum_71 (by decide) ?_
                refine lv_istore_n (lv' := [(2, .int x_98), (4, .int x_89), (3, .int 1), (0, .ref h0), (1, .int a0)]) hx hb dX12_sum_78 rfl hl (by decide) rfl (fun ls hl => ?_)
                refine lv_goto (tgt := 6) hx hb dX12_sum_79 (by decide) ?_
                exact ih_6 H locs G_90 xa_92 xw_93 x_98 ls hPE_94 hp_95 hmo_96 (by have q4 := (PE.ra8 hPE_6).2; omega) (lv_sub hl [3, 4, 0] rfl) hv hH hS
  refine lv_aload_n hx hb dX12_sum_0 rfl (lv_at hl 0 rfl) ?_
  refine lv_iload_n hx hb dX12_sum_1 rfl (lv_at hl 1 rfl) ?_
  obtain ⟨_, ⟨rfl, t_100, hk_101⟩, o_c_99⟩ := hH h0 _ k_h0
  refine va_calli (va_runV (As := [.int a0]) (rest := []) ⟨hx, hb, hml, hown, hts⟩ (c_X12_product l g nr hth Ty G s.heap.size h0 a0 k_h0 rd nn rdf askf len top isA M at0 wr0 hPE (by have q0 := (PE.ra8 hPE).2; have q1 := hmz; have q2 := (Int.le_refl at0.toInt); omega)) (cwV 1 hts (gwV mw_1451 mw_1453 mw_36 mw_88 mw_1454) rfl rfl rfl hv_X12_product ⟨by show (7 + 4 * nr) + 1 ≤ 8 + 4 * nr; omega, by show 24 + (223 + 93 * nr) ≤ 247 + 93 * nr; omega⟩) ⟨PcT_blind, hg_recv hK o_c_99 rfl, PcT_pre hK hH⟩ rfl rfl hl.1 rfl (lv_room (Nat.le_of_ble_eq_true rfl)) dX12_sum_2 ⟨Nat.zero_le _, Nat.zero_le _⟩) hS (fun q _ h => AF.mono hS.1 h) (fun q h => AF.mono hS.1 h) (fun x_102 ux_102 t H locs ht hvm hx_102 hB hz hk hS => ?_)
  obtain ⟨eTx_102, eGx_102⟩ := hx_102
  obtain ⟨G_103, eG_103⟩ : ∃ z, z = ux_102.2 := ⟨_, rfl⟩
  rw [← eG_103] at eGx_102
  obtain ⟨hr_k_104, hg_k_104, hm_k_104, hq_k_104⟩ := eGx_102
  obtain ⟨xa_105, exa_105⟩ : ∃ z : Int32, z = (F_X12_product rdf askf len top isA (F_X12_thing rdf askf len top isA nr) a0 at0 wr0).2.1 := ⟨_, rfl⟩
  obtain ⟨xw_106, exw_106⟩ : ∃ z : Int32, z = (F_X12_product rdf askf len top isA (F_X12_thing rdf askf len top isA nr) a0 at0 wr0).2.2 := ⟨_, rfl⟩
  rw [← exa_105] at hg_k_104 hm_k_104 hq_k_104
  rw [← exw_106] at hg_k_104
  have hPE_107 : PE g Ty G_103 rd nn rdf askf len top isA M xa_105 xw_106 := PE.ps hPE hg_k_104 hq_k_104
  have hp_108 : G_103 = pst G xa_105 xw_106 := pst_pst hg_k_104 hp0
  have hmo_109 : at0.toInt ≤ (xa_105 : Int32).toInt := Int.le_trans (Int.le_refl at0.toInt) hm_k_104
  have hH : HT g Ty G_103 H := by rw [← ht, ← eTx_102, eG_103]; exact hB
  have hv : (F_X12_sum_6 rdf askf len top isA (F_X12_thing rdf askf len top isA nr) 82 a0 x_102 xa_105 xw_106) = F_X12_sum rdf askf len top isA (F_X12_thing rdf askf len top isA nr) a0 at0 wr0 := by have q := bn3_to hr_k_104 exa_105 exw_106 hv; exact q
  refine lv_istore_n (lv' := [(2, .int x_102), (0, .ref h0), (1, .int a0)]) hx hb dX12_sum_5 rfl hl (by decide) rfl (fun ls hl => ?_)
  exact L_6 82 H locs G_103 xa_105 xw_106 x_102 ls hPE_107 hp_108 hmo_109 (by have q1 := (PE.ra8 hPE_107).1; show (81 - (xa_105 : Int32).toInt).toNat < 82; omega) (lv_sub hl [1, 2, 0] rfl) hv hH hS

set_option maxHeartbeats 4000000 in
set_option maxRecDepth 100000 in
theorem c_X12_held (l : Launch) (g : Gx) (nr : Nat) (hth : TH_X12 l g nr) (Ty : TyM) (G : Gh) (sz : Nat) (h0 : Nat) (a0 : Int32) (k_h0 : Ty h0 = some (22, 0)) (rd nn : Nat) (rdf askf : Nat → Int32) (len top isA : Int32) (M : Int) (at0 wr0 : Int32) (hPE : PE g Ty G rd nn rdf askf len top isA M at0 wr0) (hmz : (81 - at0.toInt).toNat < nr) : Met l yX12_held (wsG yX12_held cX12_held 3 (some .int)) ({ frames := 9 + 4 * nr, cells := 0, slots := 0, locals := 271 + 93 * nr }) (PcT g Ty G sz [.ref h0, .int a0]) (QwI g Ty sz (fun r u => u.1 = Ty ∧ PR G u.2 r at0 M (F_X12_held rdf askf len top isA (F_X12_thing rdf askf len top isA nr) a0 at0 wr0))) 0 0 (AF Ty sz) := by
  refine Met.ofW (cc := cX12_held) (maxL := 3) (ret := (some .int)) (by decide) rfl ?_
  intro p e s m args below meth c s₁ B hml hv
  obtain ⟨rfl, hsz, hK, hH⟩ := hv
  subst hsz
  have hx := B.exec
  have hb := B.bytes
  have hr := B.returns
  have hts := atoms_spec (ws := (wsG yX12_held cX12_held 3 (some .int))) B.pre
  have hG : ∀ w ∈ GW, w.before ([.ref h0, .int a0] : List Value).toArray s = true := fun w h => hts w (List.mem_cons_of_mem _ h)
  have hown : s.vm.findClass RX12 = some m.cls := findClass_of_methodNamed B.named
  have hlocks := B.notSynchronized
  have hl := lv_entry [.ref h0, .int a0] (n := 3) (Nat.le_of_ble_eq_true rfl)
  rw [lg_entry_eq]
  generalize (lg_sl [.ref h0, .int a0] ++ List.replicate (3 - (lg_sl [.ref h0, .int a0]).length) Slot.unset).toArray = ls at hl ⊢
  have hl : lv_has ls 3 [(0, .ref h0), (1, .int a0)] := hl
  have hp0 : G = pst G at0 wr0 := pst_id hPE
  have hv : (bn3 (F_X12_sum rdf askf len top isA (F_X12_thing rdf askf len top isA nr) a0 at0 wr0) (fun bv38 ba38 bw38 => (bn3 (F_X12_passes rdf askf len top isA (60 : Int32) ba38 bw38) (fun bv39 ba39 bw39 => (if bv39 = (0 : Int32) then (bn3 (F_X12_passes rdf askf len top isA (62 : Int32) ba39 bw39) (fun bv40 ba40 bw40 => (if bv40 = (0 : Int32) then (bn3 (F_X12_passes rdf askf len top isA (61 : Int32) ba40 bw40) (fun bv41 ba41 bw41 => (if bv41 = (0 : Int32) then (bv38, ba41, bw41) else (bn3 (F_X12_sum rdf askf len top isA (F_X12_thing rdf askf len top isA nr) a0 ba41 bw41) (fun bv42 ba42 bw42 => (if bv38 = bv42 then ((1 : Int32), ba42, bw42) else ((0 : Int32), ba42, bw42))))))) else (bn3 (F_X12_sum rdf askf len top isA (F_X12_thing rdf askf len top isA nr) a0 ba40 bw40) (fun bv43 ba43 bw43 => (if bv38 ≤ bv43 then ((0 : Int32), ba43, bw43) else ((1 : Int32), ba43, bw43))))))) else (bn3 (F_X12_sum rdf askf len top isA (F_X12_thing rdf askf len top isA nr) a0 ba39 bw39) (fun bv44 ba44 bw44 => (if bv44 ≤ bv38 then ((0 : Int32), ba44, bw44) else ((1 : Int32), ba44, bw44))))))))) = F_X12_held rdf askf len top isA (F_X12_thing rdf askf len top isA nr) a0 at0 wr0 := rfl
  have hS : va_S (AF Ty s.heap.size) s.heap s.heap [] := va_S.rf
  refine lv_aload_n hx hb dX12_held_0 rfl (lv_at hl 0 rfl) ?_
  refine lv_iload_n hx hb dX12_held_1 rfl (lv_at hl 1 rfl) ?_
  obtain ⟨_, ⟨rfl, t_2, hk_3⟩, o_c_1⟩ := hH h0 _ k_h0
  refine va_calli (va_runV (As := [.int a0]) (rest := []) ⟨hx, hb, hml, hown, hts⟩ (c_X12_sum l g nr hth Ty G s.heap.size h0 a0 k_h0 rd nn rdf askf len top isA M at0 wr0 hPE (by have q0 := (PE.ra8 hPE).2; have q1 := hmz; have q2 := (Int.le_refl at0.toInt); omega)) (cwV 1 hts (gwV mw_1447 mw_1449 mw_35 mw_88 mw_1450) rfl rfl rfl hv_X12_sum ⟨by show (8 + 4 * nr) + 1 ≤ 9 + 4 * nr; omega, by show 24 + (247 + 93 * nr) ≤ 271 + 93 * nr; omega⟩) ⟨PcT_blind, hg_recv hK o_c_1 rfl, PcT_pre hK hH⟩ rfl rfl hl.1 rfl (lv_room (Nat.le_of_ble_eq_true rfl)) dX12_held_2 ⟨Nat.zero_le _, Nat.zero_le _⟩) hS (fun q _ h => AF.mono hS.1 h) (fun q h => AF.mono hS.1 h) (fun x_4 ux_4 t H locs ht hvm hx_4 hB hz hk hS => ?_)
  obtain ⟨eTx_4, eGx_4⟩ := hx_4
  obtain ⟨G_5, eG_5⟩ : ∃ z, z = ux_4.2 := ⟨_, rfl⟩
  rw [← eG_5] at eGx_4
  obtain ⟨hr_k_6, hg_k_6, hm_k_6, hq_k_6⟩ := eGx_4
  obtain ⟨xa_7, exa_7⟩ : ∃ z : Int32, z = (F_X12_sum rdf askf len top isA (F_X12_thing rdf askf len top isA nr) a0 at0 wr0).2.1 := ⟨_, rfl⟩
  obtain ⟨xw_8, exw_8⟩ : ∃ z : Int32, z = (F_X12_sum rdf askf len top isA (F_X12_thing rdf askf len top isA nr) a0 at0 wr0).2.2 := ⟨_, rfl⟩
  rw [← exa_7] at hg_k_6 hm_k_6 hq_k_6
  rw [← exw_8] at hg_k_6
  have hPE_9 : PE g Ty G_5 rd nn rdf askf len top isA M xa_7 xw_8 := PE.ps hPE hg_k_6 hq_k_6
  have hp_10 : G_5 = pst G xa_7 xw_8 := pst_pst hg_k_6 hp0
  have hmo_11 : at0.toInt ≤ (xa_7 : Int32).toInt := Int.le_trans (Int.le_refl at0.toInt) hm_k_6
  have hH : HT g Ty G_5 H := by rw [← ht, ← eTx_4, eG_5]; exact hB
  have hv : (bn3 (F_X12_passes rdf askf len top isA (60 : Int32) xa_7 xw_8) (fun bv23 ba23 bw23 => (if bv23 = (0 : Int32) then (bn3 (F_X12_passes rdf askf len top isA (62 : Int32) ba23 bw23) (fun bv24 ba24 bw24 => (if bv24 = (0 : Int32) then (bn3 (F_X12_passes rdf askf len top isA (61 : Int32) ba24 bw24) (fun bv25 ba25 bw25 => (if bv25 = (0 : Int32) then (x_4, ba25, bw25) else (bn3 (F_X12_sum rdf askf len top isA (F_X12_thing rdf askf len top isA nr) a0 ba25 bw25) (fun bv26 ba26 bw26 => (if x_4 = bv26 then ((1 : Int32), ba26, bw26) else ((0 : Int32), ba26, bw26))))))) else (bn3 (F_X12_sum rdf askf len top isA (F_X12_thing rdf askf len top isA nr) a0 ba24 bw24) (fun bv27 ba27 bw27 => (if x_4 ≤ bv27 then ((0 : Int32), ba27, bw27) else ((1 : Int32), ba27, bw27))))))) else (bn3 (F_X12_sum rdf askf len top isA (F_X12_thing rdf askf len top isA nr) a0 ba23 bw23) (fun bv28 ba28 bw28 => (if bv28 ≤ x_4 then ((0 : Int32), ba28, bw28) else ((1 : Int32), ba28, bw28))))))) = F_X12_held rdf askf len top isA (F_X12_thing rdf askf len top isA nr) a0 at0 wr0 := by have q := bn3_to hr_k_6 exa_7 exw_8 hv; exact q
  refine lv_istore_n (lv' := [(2, .int x_4), (0, .ref h0), (1, .int a0)]) hx hb dX12_held_5 rfl hl (by decide) rfl (fun ls hl => ?_)
  refine lv_aload_n hx hb dX12_held_6 rfl (lv_at hl 1 rfl) ?_
  refine lv_bipush (v := 60) hx hb dX12_held_7 (by decide) ?_
  obtain ⟨_, ⟨rfl, t_13, hk_14⟩, o_c_12⟩ := hH h0 _ k_h0
  refine va_calli (va_runV (As := [.int 60]) (rest := []) ⟨hx, hb, hml, hown, hts⟩ (c_X12_passes l g Ty G_5 H.size h0 60 k_h0 (rg_w rl_60 (by decide) (by decide)) rd nn rdf askf len top isA M xa_7 xw_8 hPE_9) (cwV 1 hts (gwV mw_1459 mw_1461 mw_38 mw_88 mw_1462) rfl rfl rfl hv_X12_passes ⟨by show 1 + 1 ≤ 9 + 4 * nr; omega, by show 21 + 20 ≤ 271 + 93 * nr; omega⟩) ⟨PcT_blind, hg_recv hK o_c_12 rfl, PcT_pre hK hH⟩ rfl rfl hl.1 rfl (lv_room (Nat.le_of_ble_eq_true rfl)) dX12_held_9 ⟨Nat.zero_le _, Nat.zero_le _⟩) hS (fun q _ h => AF.mono hS.1 h) (fun q h => AF.mono hS.1 h) (fun x_15 ux_15 t H locs ht hvm hx_15 hB hz hk hS => ?_)
  obtain ⟨hx_15, fx_15⟩ := hx_15
  obtain ⟨eTx_15, eGx_15⟩ := fx_15
  obtain ⟨G_16, eG_16⟩ : ∃ z, z = ux_15.2 := ⟨_, rfl⟩
  rw [← eG_16] at eGx_15
  obtain ⟨hr_k_17, hg_k_17, hm_k_17, hq_k_17⟩ := eGx_15
  obtain ⟨xa_18, exa_18⟩ : ∃ z : Int32, z = (F_X12_passes rdf askf len top isA (60 : Int32) xa_7 xw_8).2.1 := ⟨_, rfl⟩
  obtain ⟨xw_19, exw_19⟩ : ∃ z : Int32, z = (F_X12_passes rdf askf len top isA (60 : Int32) xa_7 xw_8).2.2 := ⟨_, rfl⟩
  rw [← exa_18] at hg_k_17 hm_k_17 hq_k_17
  rw [← exw_19] at hg_k_17
  rw [← exa_18] at hx_15
  have hPE_20 : PE g Ty G_16 rd nn rdf askf len top isA M xa_18 xw_19 := PE.ps hPE_9 hg_k_17 hq_k_17
  have hp_21 : G_16 = pst G xa_18 xw_19 := pst_pst hg_k_17 hp_10
  have hmo_22 : at0.toInt ≤ (xa_18 : Int32).toInt := Int.le_trans hmo_11 hm_k_17
  have hH : HT g Ty G_16 H := by rw [← ht, ← eTx_15, eG_16]; exact hB
  have rx_15 : rgI (0) (1) x_15 := hx_15.1
  have hv : (if x_15 = (0 : Int32) then (bn3 (F_X12_passes rdf askf len top isA (62 : Int32) xa_18 xw_19) (fun bv29 ba29 bw29 => (if bv29 = (0 : Int32) then (bn3 (F_X12_passes rdf askf len top isA (61 : Int32) ba29 bw29) (fun bv30 ba30 bw30 => (if bv30 = (0 : Int32) then (x_4, ba30, bw30) else (bn3 (F_X12_sum rdf askf len top isA (F_X12_thing rdf askf len top isA nr) a0 ba30 bw30) (fun bv31 ba31 bw31 => (if x_4 = bv31 then ((1 : Int32), ba31, bw31) else ((0 : Int32), ba31, bw31))))))) else (bn3 (F_X12_sum rdf askf len top isA (F_X12_thing rdf askf len top isA nr) a0 ba29 bw29) (fun bv32 ba32 bw32 => (if x_4 ≤ bv32 then ((0 : Int32), ba32, bw32) else ((1 : Int32), ba32, bw32))))))) else (bn3 (F_X12_sum rdf askf len top isA (F_X12_thing rdf askf len top isA nr) a0 xa_18 xw_19) (fun bv33 ba33 bw33 => (if bv33 ≤ x_4 then ((0 : Int32), ba33, bw33) else ((1 : Int32), ba33, bw33))))) = F_X12_held rdf askf len top isA (F_X12_thing rdf askf len top isA nr) a0 at0 wr0 := by have q := bn3_to hr_k_17 exa_18 exw_19 hv; exact q
  refine lv_if_eq (tgt := 30) hx hb dX12_held_12 (by decide) (fun c_23 => ?_) (fun c_23 => ?_)
  · rw [if_pos c_23] at hv
    have r_24 : rgI (0) (0) x_15 := rg_w (rg_eq rl_0 c_23) (by decide) (by decide)
    refine lv_aload_n hx hb dX12_held_30 rfl (lv_at hl 1 rfl) ?_
    refine lv_bipush (v := 62) hx hb dX12_held_31 (by decide) ?_
    obtain ⟨_, ⟨rfl, t_26, hk_27⟩, o_c_25⟩ := hH h0 _ k_h0
    refine va_calli (va_runV (As := [.int 62]) (rest := []) ⟨hx, hb, hml, hown, hts⟩ (c_X12_passes l g Ty G_16 H.size h0 62 k_h0 (rg_w rl_62 (by decide) (by decide)) rd nn rdf askf len top isA M xa_18 xw_19 hPE_20) (cwV 1 hts (gwV mw_1459 mw_1461 mw_38 mw_88 mw_1462) rfl rfl rfl hv_X12_passes ⟨by show 1 + 1 ≤ 9 + 4 * nr; omega, by show 21 + 20 ≤ 271 + 93 * nr; omega⟩) ⟨PcT_blind, hg_recv hK o_c_25 rfl, PcT_pre hK hH⟩ rfl rfl hl.1 rfl (lv_room (Nat.le_of_ble_eq_true rfl)) dX12_held_33 ⟨Nat.zero_le _, Nat.zero_le _⟩) hS (fun q _ h => AF.mono hS.1 h) (fun q h => AF.mono hS.1 h) (fun x_28 ux_28 t H locs ht hvm hx_28 hB hz hk hS => ?_)
    obtain ⟨hx_28, fx_28⟩ := hx_28
    obtain ⟨eTx_28, eGx_28⟩ := fx_28
    obtain ⟨G_29, eG_29⟩ : ∃ z, z = ux_28.2 := ⟨_, rfl⟩
    rw [← eG_29] at eGx_28
    obtain ⟨hr_k_30, hg_k_30, hm_k_30, hq_k_30⟩ := eGx_28
    obtain ⟨xa_31, exa_31⟩ : ∃ z : Int32, z = (F_X12_passes rdf askf len top isA (62 : Int32) xa_18 xw_19).2.1 := ⟨_, rfl⟩
    obtain ⟨xw_32, exw_32⟩ : ∃ z : Int32, z = (F_X12_passes rdf askf len top isA (62 : Int32) xa_18 xw_19).2.2 := ⟨_, rfl⟩
    rw [← exa_31] at hg_k_30 hm_k_30 hq_k_30
    rw [← exw_32] at hg_k_30
    rw [← exa_31] at hx_28
    have hPE_33 : PE g Ty G_29 rd nn rdf askf len top isA M xa_31 xw_32 := PE.ps hPE_20 hg_k_30 hq_k_30
    have hp_34 : G_29 = pst G xa_31 xw_32 := pst_pst hg_k_30 hp_21
    have hmo_35 : at0.toInt ≤ (xa_31 : Int32).toInt := Int.le_trans hmo_22 hm_k_30
    have hH : HT g Ty G_29 H := by rw [← ht, ← eTx_28, eG_29]; exact hB
    have rx_28 : rgI (0) (1) x_28 := hx_28.1
    have hv : (if x_28 = (0 : Int32) then (bn3 (F_X12_passes rdf askf len top isA (61 : Int32) xa_31 xw_32) (fun bv34 ba34 bw34 => (if bv34 = (0 : Int32) then (x_4, ba34, bw34) else (bn3 (F_X12_sum rdf askf len top isA (F_X12_thing rdf askf len top isA nr) a0 ba34 bw34) (fun bv35 ba35 bw35 => (if x_4 = bv35 then ((1 : Int32), ba35, bw35) else ((0 : Int32), ba35, bw35))))))) else (bn3 (F_X12_sum rdf askf len top isA (F_X12_thing rdf askf len top isA nr) a0 xa_31 xw_32) (fun bv36 ba36 bw36 => (if x_4 ≤ bv36 then ((0 : Int32), ba36, bw36) else ((1 : Int32), ba36, bw36))))) = F_X12_held rdf askf len top isA (F_X12_thing rdf askf len top isA nr) a0 at0 wr0 := by have q := bn3_to hr_k_30 exa_31 exw_32 hv; exact q
    refine lv_if_eq (tgt := 54) hx hb dX12_held_36 (by decide) (fun c_36 => ?_) (fun c_36 => ?_)
    · rw [if_pos c_36] at hv
      have r_37 : rgI (0) (0) x_28 := rg_w (rg_eq rl_0 c_36) (by decide) (by decide)
      refine lv_aload_n hx hb dX12_held_54 rfl (lv_at hl 1 rfl) ?_
      refine lv_bipush (v := 61) hx hb dX12_held_55 (by decide) ?_
      obtain ⟨_, ⟨rfl, t_39, hk_40⟩, o_c_38⟩ := hH h0 _ k_h0
      refine va_calli (va_runV (As := [.int 61]) (rest := []) ⟨hx, hb, hml, hown, hts⟩ (c_X12_passes l g Ty G_29 H.size h0 61 k_h0 (rg_w rl_61 (by decide) (by decide)) rd nn rdf askf len top isA M xa_31 xw_32 hPE_33) (cwV 1 hts (gwV mw_1459 mw_1461 mw_38 mw_88 mw_1462) rfl rfl rfl hv_X12_passes ⟨by show 1 + 1 ≤ 9 + 4 * nr; omega, by show 21 + 20 ≤ 271 + 93 * nr; omega⟩) ⟨PcT_blind, hg_recv hK o_c_38 rfl, PcT_pre hK hH⟩ rfl rfl hl.1 rfl (lv_room (Nat.le_of_ble_eq_true rfl)) dX12_held_57 ⟨Nat.zero_le _, Nat.zero_le _⟩) hS (fun q _ h => AF.mono hS.1 h) (fun q h => AF.mono hS.1 h) (fun x_41 ux_41 t H locs ht hvm hx_41 hB hz hk hS => ?_)
      obtain ⟨hx_41, fx_41⟩ := hx_41
      obtain ⟨eTx_41, eGx_41⟩ := fx_41
      obtain ⟨G_42, eG_42⟩ : ∃ z, z = ux_41.2 := ⟨_, rfl⟩
      rw [← eG_42] at eGx_41
      obtain ⟨hr_k_43, hg_k_43, hm_k_43, hq_k_43⟩ := eGx_41
      obtain ⟨xa_44, exa_44⟩ : ∃ z : Int32, z = (F_X12_passes rdf askf len top isA (61 : Int32) xa_31 xw_32).2.1 := ⟨_, rfl⟩
      obtain ⟨xw_45, exw_45⟩ : ∃ z : Int32, z = (F_X12_passes rdf askf len top isA (61 : Int32) xa_31 xw_32).2.2 := ⟨_, rfl⟩
      rw [← exa_44] at hg_k_43 hm_k_43 hq_k_43
      rw [← exw_45] at hg_k_43
      rw [← exa_44] at hx_41
      have hPE_46 : PE g Ty G_42 rd nn rdf askf len top isA M xa_44 xw_45 := PE.ps hPE_33 hg_k_43 hq_k_43
      have hp_47 : G_42 = pst G xa_44 xw_45 := pst_pst hg_k_43 hp_34
      have hmo_48 : at0.toInt ≤ (xa_44 : Int32).toInt := Int.le_trans hmo_35 hm_k_43
      have hH : HT g Ty G_42 H := by rw [← ht, ← eTx_41, eG_42]; exact hB
      have rx_41 : rgI (0) (1) x_41 := hx_41.1
      have hv : (if x_41 = (0 : Int32) then (x_4, xa_44, xw_45) else (bn3 (F_X12_sum rdf askf len top isA (F_X12_thing rdf askf len top isA nr) a0 xa_44 xw_45) (fun bv37 ba37 bw37 => (if x_4 = bv37 then ((1 : Int32), ba37, bw37) else ((0 : Int32), ba37, bw37))))) = F_X12_held rdf askf len top isA (F_X12_thing rdf askf len top isA nr) a0 at0 wr0 := by have q := bn3_to hr_k_43 exa_44 exw_45 hv; exact q
      refine lv_if_eq (tgt := 78) hx hb dX12_held_60 (by decide) (fun c_49 => ?_) (fun c_49 => ?_)
      · rw [if_pos c_49] at hv
        have r_50 : rgI (0) (0) x_41 := rg_w (rg_eq rl_0 c_49) (by decide) (by decide)
        refine lv_iload_n hx hb dX12_held_78 rfl (lv_at hl 0 rfl) ?_
        exact W.iret hx hb hr (fun t ht hWm => ⟨⟨x_4, (Ty, G_42), rfl, ⟨rfl, PR.mk hv hp_47 hmo_48 (PE.ra hPE_46)⟩, by show HT g Ty G_42 t.heap; rw [ht]; exact hH⟩, hS.F ht⟩) hS.2.2 dX12_held_79
      · rw [if_neg c_49] at hv
        have hps_51 := (hx_41.2).resolve_left c_49
        have r_52 : rgI (1) (1) x_41 := rg_w (rg_neL rx_41 rl_0 c_49) (by decide) (by decide)
        refine lv_iload_n hx hb dX12_held_63 rfl (lv_at hl 0 rfl) ?_
        refine lv_aload_n hx hb dX12_held_64 rfl (lv_at hl 1 rfl) ?_
        refine lv_iload_n hx hb dX12_held_65 rfl (lv_at hl 2 rfl) ?_
        obtain ⟨_, ⟨rfl, t_54, hk_55⟩, o_c_53⟩ := hH h0 _ k_h0
        refine va_calli (va_runV (As := [.int a0]) (rest := [.int x_4]) ⟨hx, hb, hml, hown, hts⟩ (c_X12_sum l g nr hth Ty G_42 H.size h0 a0 k_h0 rd nn rdf askf len top isA M xa_44 xw_45 hPE_46 (by have q0 := (PE.ra8 hPE).2; have q1 := hmz; have q2 := hmo_48; have q3 := hps_51; omega)) (cwV 1 hts (gwV mw_1447 mw_1449 mw_35 mw_88 mw_1450) rfl rfl rfl hv_X12_sum ⟨by show (8 + 4 * nr) + 1 ≤ 9 + 4 * nr; omega, by show 24 + (247 + 93 * nr) ≤ 271 + 93 * nr; omega⟩) ⟨PcT_blind, hg_recv hK o_c_53 rfl, PcT_pre hK hH⟩ rfl rfl hl.1 rfl (lv_room (Nat.le_of_ble_eq_true rfl)) dX12_held_66 ⟨Nat.zero_le _, Nat.zero_le _⟩) hS (fun q _ h => AF.mono hS.1 h) (fun q h => AF.mono hS.1 h) (fun x_56 ux_56 t H locs ht hvm hx_56 hB hz hk hS => ?_)
        obtain ⟨eTx_56, eGx_56⟩ := hx_56
        obtain ⟨G_57, eG_57⟩ : ∃ z, z = ux_56.2 := ⟨_, rfl⟩
        rw [← eG_57] at eGx_56
        obtain ⟨hr_k_58, hg_k_58, hm_k_58, hq_k_58⟩ := eGx_56
        obtain ⟨xa_59, exa_59⟩ : ∃ z : Int32, z = (F_X12_sum rdf askf len top isA (F_X12_thing rdf askf len top isA nr) a0 xa_44 xw_45).2.1 := ⟨_, rfl⟩
        obtain ⟨xw_60, exw_60⟩ : ∃ z : Int32, z = (F_X12_sum rdf askf len top isA (F_X12_thing rdf askf len top isA nr) a0 xa_44 xw_45).2.2 := ⟨_, rfl⟩
        rw [← exa_59] at hg_k_58 hm_k_58 hq_k_58
        rw [← exw_60] at hg_k_58
        have hPE_61 : PE g Ty G_57 rd nn rdf askf len top isA M xa_59 xw_60 := PE.ps hPE_46 hg_k_58 hq_k_58
        have hp_62 : G_57 = pst G xa_59 xw_60 := pst_pst hg_k_58 hp_47
        have hmo_63 : at0.toInt ≤ (xa_59 : Int32).toInt := Int.le_trans hmo_48 hm_k_58
        have hps_64 := Int.lt_of_lt_of_le hps_51 hm_k_58
        have hH : HT g Ty G_57 H := by rw [← ht, ← eTx_56, eG_57]; exact hB
        have hv : (if x_4 = x_56 then ((1 : Int32), xa_59, xw_60) else ((0 : Int32), xa_59, xw_60)) = F_X12_held rdf askf len top isA (F_X12_thing rdf askf len top isA nr) a0 at0 wr0 := by have q := bn3_to hr_k_58 exa_59 exw_60 hv; exact q
        refine lv_icmp_ne (tgt := 76) hx hb dX12_held_69 (by decide) (fun c_65 => ?_) (fun c_65 => ?_)
        · rw [if_neg c_65] at hv
          refine lv_iconst (v := 0) hx hb dX12_held_76 (by decide) ?_
          exact W.iret hx hb hr (fun t ht hWm => ⟨⟨0, (Ty, G_57), rfl, ⟨rfl, PR.mk hv hp_62 hmo_63 (PE.ra hPE_61)⟩, by show HT g Ty G_57 t.heap; rw [ht]; exact hH⟩, hS.F ht⟩) hS.2.2 dX12_held_77
        · rw [if_pos c_65] at hv
          refine lv_iconst (v := 1) hx hb dX12_held_72 (by decide) ?_
          refine lv_goto (tgt := 77) hx hb dX12_held_73 (by decide) ?_
          exact W.iret hx hb hr (fun t ht hWm => ⟨⟨1, (Ty, G_57), rfl, ⟨rfl, PR.mk hv hp_62 hmo_63 (PE.ra hPE_61)⟩, by show HT g Ty G_57 t.heap; rw [ht]; exact hH⟩, hS.F ht⟩) hS.2.2 dX12_held_77
    · rw [if_neg c_36] at hv
      have hps_66 := (hx_28.2).resolve_left c_36
      have r_67 : rgI (1) (1) x_28 := rg_w (rg_neL rx_28 rl_0 c_36) (by decide) (by decide)
      refine lv_iload_n hx hb dX12_held_39 rfl (lv_at hl 0 rfl) ?_
      refine lv_aload_n hx hb dX12_held_40 rfl (lv_at hl 1 rfl) ?_
      refine lv_iload_n hx hb dX12_held_41 rfl (lv_at hl 2 rfl) ?_
      obtain ⟨_, ⟨rfl, t_69, hk_70⟩, o_c_68⟩ := hH h0 _ k_h0
      refine va_calli (va_runV (As := [.int a0]) (rest := [.int x_4]) ⟨hx, hb, hml, hown, hts⟩ (c_X12_sum l g nr hth Ty G_29 H.size h0 a0 k_h0 rd nn rdf askf len top isA M xa_31 xw_32 hPE_33 (by have q0 := (PE.ra8 hPE).2; have q1 := hmz; have q2 := hmo_35; have q3 := hps_66; omega)) (cwV 1 hts (gwV mw_1447 mw_1449 mw_35 mw_88 mw_1450) rfl rfl rfl hv_X12_sum ⟨by show (8 + 4 * nr) + 1 ≤ 9 + 4 * nr; omega, by show 24 + (247 + 93 * nr) ≤ 271 + 93 * nr; omega⟩) ⟨PcT_blind, hg_recv hK o_c_68 rfl, PcT_pre hK hH⟩ rfl rfl hl.1 rfl (lv_room (Nat.le_of_ble_eq_true rfl)) dX12_held_42 ⟨Nat.zero_le _, Nat.zero_le _⟩) hS (fun q _ h => AF.mono hS.1 h) (fun q h => AF.mono hS.1 h) (fun x_71 ux_71 t H locs ht hvm hx_71 hB hz hk hS => ?_)
      obtain ⟨eTx_71, eGx_71⟩ := hx_71
      obtain ⟨G_72, eG_72⟩ : ∃ z, z = ux_71.2 := ⟨_, rfl⟩
      rw [← eG_72] at eGx_71
      obtain ⟨hr_k_73, hg_k_73, hm_k_73, hq_k_73⟩ := eGx_71
      obtain ⟨xa_74, exa_74⟩ : ∃ z : Int32, z = (F_X12_sum rdf askf len top isA (F_X12_thing rdf askf len top isA nr) a0 xa_31 xw_32).2.1 := ⟨_, rfl⟩
      obtain ⟨xw_75, exw_75⟩ : ∃ z : Int32, z = (F_X12_sum rdf askf len top isA (F_X12_thing rdf askf len top isA nr) a0 xa_31 xw_32).2.2 := ⟨_, rfl⟩
      rw [← exa_74] at hg_k_73 hm_k_73 hq_k_73
      rw [← exw_75] at hg_k_73
      have hPE_76 : PE g Ty G_72 rd nn rdf askf len top isA M xa_74 xw_75 := PE.ps hPE_33 hg_k_73 hq_k_73
      have hp_77 : G_72 = pst G xa_74 xw_75 := pst_pst hg_k_73 hp_34
      have hmo_78 : at0.toInt ≤ (xa_74 : Int32).toInt := Int.le_trans hmo_35 hm_k_73
      have hps_79 := Int.lt_of_lt_of_le hps_66 hm_k_73
      have hH : HT g Ty G_72 H := by rw [← ht, ← eTx_71, eG_72]; exact hB
      have hv : (if x_4 ≤ x_71 then ((0 : Int32), xa_74, xw_75) else ((1 : Int32), xa_74, xw_75)) = F_X12_held rdf askf len top isA (F_X12_thing rdf askf len top isA nr) a0 at0 wr0 := by have q := bn3_to hr_k_73 exa_74 exw_75 hv; exact q
      refine lv_icmp_le (tgt := 52) hx hb dX12_held_45 (by decide) (fun c_80 => ?_) (fun c_80 => ?_)
      · rw [if_pos c_80] at hv
        refine lv_iconst (v := 0) hx hb dX12_held_52 (by decide) ?_
        exact W.iret hx hb hr (fun t ht hWm => ⟨⟨0, (Ty, G_72), rfl, ⟨rfl, PR.mk hv hp_77 hmo_78 (PE.ra hPE_76)⟩, by show HT g Ty G_72 t.heap; rw [ht]; exact hH⟩, hS.F ht⟩) hS.2.2 dX12_held_53
      · rw [if_neg c_80] at hv
        have r_81 : rgI (-2147483648) (2147483646) x_71 := rg_w (rg_ltL (rg_top x_71) (rg_top x_4) (nle_lt c_80)) (by decide) (by decide)
        have r_82 : rgI (-2147483647) (2147483647) x_4 := rg_w (rg_ltR (rg_top x_71) (rg_top x_4) (nle_lt c_80)) (by decide) (by decide)
        refine lv_iconst (v := 1) hx hb dX12_held_48 (by decide) ?_
        refine lv_goto (tgt := 53) hx hb dX12_held_49 (by decide) ?_
        exact W.iret hx hb hr (fun t ht hWm => ⟨⟨1, (Ty, G_72), rfl, ⟨rfl, PR.mk hv hp_77 hmo_78 (PE.ra hPE_76)⟩, by show HT g Ty G_72 t.heap; rw [ht]; exact hH⟩, hS.F ht⟩) hS.2.2 dX12_held_53
  · rw [if_neg c_23] at hv
    have hps_83 := (hx_15.2).resolve_left c_23
    have r_84 : rgI (1) (1) x_15 := rg_w (rg_neL rx_15 rl_0 c_23) (by decide) (by decide)
    refine lv_iload_n hx hb dX12_held_15 rfl (lv_at hl 0 rfl) ?_
    refine lv_aload_n hx hb dX12_held_16 rfl (lv_at hl 1 rfl) ?_
    refine lv_iload_n hx hb dX12_held_17 rfl (lv_at hl 2 rfl) ?_
    obtain ⟨_, ⟨rfl, t_86, hk_87⟩, o_c_85⟩ := hH h0 _ k_h0
    refine va_calli (va_runV (As := [.int a0]) (rest := [.int x_4]) ⟨hx, hb, hml, hown, hts⟩ (c_X12_sum l g nr hth Ty G_16 H.size h0 a0 k_h0 rd nn rdf askf len top isA M xa_18 xw_19 hPE_20 (by have q0 := (PE.ra8 hPE).2; have q1 := hmz; have q2 := hmo_22; have q3 := hps_83; omega)) (cwV 1 hts (gwV mw_1447 mw_1449 mw_35 mw_88 mw_1450) rfl rfl rfl hv_X12_sum ⟨by show (8 + 4 * nr) + 1 ≤ 9 + 4 * nr; omega, by show 24 + (247 + 93 * nr) ≤ 271 + 93 * nr; omega⟩) ⟨PcT_blind, hg_recv hK o_c_85 rfl, PcT_pre hK hH⟩ rfl rfl hl.1 rfl (lv_room (Nat.le_of_ble_eq_true rfl)) dX12_held_18 ⟨Nat.zero_le _, Nat.zero_le _⟩) hS (fun q _ h => AF.mono hS.1 h) (fun q h => AF.mono hS.1 h) (fun x_88 ux_88 t H locs ht hvm hx_88 hB hz hk hS => ?_)
    obtain ⟨eTx_88, eGx_88⟩ := hx_88
    obtain ⟨G_89, eG_89⟩ : ∃ z, z = ux_88.2 := ⟨_, rfl⟩
    rw [← eG_89] at eGx_88
    obtain ⟨hr_k_90, hg_k_90, hm_k_90, hq_k_90⟩ := eGx_88
    obtain ⟨xa_91, exa_91⟩ : ∃ z : Int32, z = (F_X12_sum rdf askf len top isA (F_X12_thing rdf askf len top isA nr) a0 xa_18 xw_19).2.1 := ⟨_, rfl⟩
    obtain ⟨xw_92, exw_92⟩ : ∃ z : Int32, z = (F_X12_sum rdf askf len top isA (F_X12_thing rdf askf len top isA nr) a0 xa_18 xw_19).2.2 := ⟨_, rfl⟩
    rw [← exa_91] at hg_k_90 hm_k_90 hq_k_90
    rw [← exw_92] at hg_k_90
    have hPE_93 : PE g Ty G_89 rd nn rdf askf len top isA M xa_91 xw_92 := PE.ps hPE_20 hg_k_90 hq_k_90
    have hp_94 : G_89 = pst G xa_91 xw_92 := pst_pst hg_k_90 hp_21
    have hmo_95 : at0.toInt ≤ (xa_91 : Int32).toInt := Int.le_trans hmo_22 hm_k_90
    have hps_96 := Int.lt_of_lt_of_le hps_83 hm_k_90
    have hH : HT g Ty G_89 H := by rw [← ht, ← eTx_88, eG_89]; exact hB
    have hv : (if x_88 ≤ x_4 then ((0 : Int32), xa_91, xw_92) else ((1 : Int32), xa_91, xw_92)) = F_X12_held rdf askf len top isA (F_X12_thing rdf askf len top isA nr) a0 at0 wr0 := by have q := bn3_to hr_k_90 exa_91 exw_92 hv; exact q
    refine lv_icmp_ge (tgt := 28) hx hb dX12_held_21 (by decide) (fun c_97 => ?_) (fun c_97 => ?_)
    · rw [if_pos c_97] at hv
      refine lv_iconst (v := 0) hx hb dX12_held_28 (by decide) ?_
      exact W.iret hx hb hr (fun t ht hWm => ⟨⟨0, (Ty, G_89), rfl, ⟨rfl, PR.mk hv hp_94 hmo_95 (PE.ra hPE_93)⟩, by show HT g Ty G_89 t.heap; rw [ht]; exact hH⟩, hS.F ht⟩) hS.2.2 dX12_held_29
    · rw [if_neg c_97] at hv
      have r_98 : rgI (-2147483648) (2147483646) x_4 := rg_w (rg_ltL (rg_top x_4) (rg_top x_88) (nle_lt c_97)) (by decide) (by decide)
      have r_99 : rgI (-2147483647) (2147483647) x_88 := rg_w (rg_ltR (rg_top x_4) (rg_top x_88) (nle_lt c_97)) (by decide) (by decide)
      refine lv_iconst (v := 1) hx hb dX12_held_24 (by decide) ?_
      refine lv_goto (tgt := 29) hx hb dX12_held_25 (by decide) ?_
      exact W.iret hx hb hr (fun t ht hWm => ⟨⟨1, (Ty, G_89), rfl, ⟨rfl, PR.mk hv hp_94 hmo_95 (PE.ra hPE_93)⟩, by show HT g Ty G_89 t.heap; rw [ht]; exact hH⟩, hS.F ht⟩) hS.2.2 dX12_held_29

set_option maxHeartbeats 4000000 in
set_option maxRecDepth 100000 in
theorem c_X12_thing_s (l : Launch) (g : Gx) (nr : Nat) (hth : TH_X12 l g nr) (Ty : TyM) (G : Gh) (sz : Nat) (h0 : Nat) (a0 : Int32) (k_h0 : Ty h0 = some (22, 0)) (rd nn : Nat) (rdf askf : Nat → Int32) (len top isA : Int32) (M : Int) (at0 wr0 : Int32) (hPE : PE g Ty G rd nn rdf askf len top isA M at0 wr0) (hmz : (81 - at0.toInt).toNat < nr + 1) : Met l yX12_thing (wsG yX12_thing cX12_thing 4 (some .int)) ({ frames := 6 + 4 * (nr + 1), cells := 0, slots := 0, locals := 200 + 93 * (nr + 1) }) (PcT g Ty G sz [.ref h0, .int a0]) (QwI g Ty sz (fun r u => u.1 = Ty ∧ PR G u.2 r at0 M (F_X12_thing rdf askf len top isA (nr + 1) a0 at0 wr0))) 0 0 (AF Ty sz) := by
  refine Met.ofW (cc := cX12_thing) (maxL := 4) (ret := (some .int)) (by decide) rfl ?_
  intro p e s m args below meth c s₁ B hml hv
  obtain ⟨rfl, hsz, hK, hH⟩ := hv
  subst hsz
  have hx := B.exec
  have hb := B.bytes
  have hr := B.returns
  have hts := atoms_spec (ws := (wsG yX12_thing cX12_thing 4 (some .int))) B.pre
  have hG : ∀ w ∈ GW, w.before ([.ref h0, .int a0] : List Value).toArray s = true := fun w h => hts w (List.mem_cons_of_mem _ h)
  have hown : s.vm.findClass RX12 = some m.cls := findClass_of_methodNamed B.named
  have hlocks := B.notSynchronized
  have hl := lv_entry [.ref h0, .int a0] (n := 4) (Nat.le_of_ble_eq_true rfl)
  rw [lg_entry_eq]
  generalize (lg_sl [.ref h0, .int a0] ++ List.replicate (4 - (lg_sl [.ref h0, .int a0]).length) Slot.unset).toArray = ls at hl ⊢
  have hl : lv_has ls 4 [(0, .ref h0), (1, .int a0)] := hl
  have hp0 : G = pst G at0 wr0 := pst_id hPE
  have hv : (bn3 (F_X12_passes rdf askf len top isA (45 : Int32) at0 wr0) (fun bv25 ba25 bw25 => (if bv25 = (0 : Int32) then (if (F_X12_fine rdf askf len top isA  ba25 bw25) = (0 : Int32) then ((0 : Int32), ba25, bw25) else (if (F_X12_here rdf askf len top isA  ba25 bw25) = (40 : Int32) then (if (4 : Int32) ≤ a0 then (if (F_X12_in (F_X12_here rdf askf len top isA  ba25 bw25) (48 : Int32) (57 : Int32)) = (0 : Int32) then (if (F_X12_letterOf (F_X12_here rdf askf len top isA  ba25 bw25)) = (-1 : Int32) then (bn3 (F_X12_fault rdf askf len top isA ba25 ba25 bw25) (fun _ ba28 bw28 => ((0 : Int32), ba28, bw28))) else (if isA = (0 : Int32) then ((0 : Int32), (ba25 + (1 : Int32)), bw25) else ((askf (Int32.toNatClampNeg (F_X12_letterOf (F_X12_here rdf askf len top isA  ba25 bw25)))), (ba25 + (1 : Int32)), bw25))) else (bn3 (F_X12_number rdf askf len top isA (3 : Int32) ba25 bw25) (fun bv29 ba29 bw29 => (bv29, ba29, bw29)))) else (bn3 (F_X12_held rdf askf len top isA (F_X12_thing rdf askf len top isA nr) (a0 + (1 : Int32)) (ba25 + (1 : Int32)) bw25) (fun bv30 ba30 bw30 => (bn3 (F_X12_need rdf askf len top isA (41 : Int32) ba30 bw30) (fun _ ba31 bw31 => (bv30, ba31, bw31)))))) else (if (F_X12_in (F_X12_here rdf askf len top isA  ba25 bw25) (48 : Int32) (57 : Int32)) = (0 : Int32) then (if (F_X12_letterOf (F_X12_here rdf askf len top isA  ba25 bw25)) = (-1 : Int32) then (bn3 (F_X12_fault rdf askf len top isA ba25 ba25 bw25) (fun _ ba26 bw26 => ((0 : Int32), ba26, bw26))) else (if isA = (0 : Int32) then ((0 : Int32), (ba25 + (1 : Int32)), bw25) else ((askf (Int32.toNatClampNeg (F_X12_letterOf (F_X12_here rdf askf len top isA  ba25 bw25)))), (ba25 + (1 : Int32)), bw25))) else (bn3 (F_X12_number rdf askf len top isA (3 : Int32) ba25 bw25) (fun bv27 ba27 bw27 => (bv27, ba27, bw27)))))) else (bn3 (F_X12_thing rdf askf len top isA nr a0 ba25 bw25) (fun bv32 ba32 bw32 => ((-bv32), ba32, bw32)))))) = F_X12_thing rdf askf len top isA (nr + 1) a0 at0 wr0 := rfl
  have hS : va_S (AF Ty s.heap.size) s.heap s.heap [] := va_S.rf
  refine lv_aload_n hx hb dX12_thing_0 rfl (lv_at hl 0 rfl) ?_
  refine lv_bipush (v := 45) hx hb dX12_thing_1 (by decide) ?_
  obtain ⟨_, ⟨rfl, t_2, hk_3⟩, o_c_1⟩ := hH h0 _ k_h0
  refine va_calli (va_runV (As := [.int 45]) (rest := []) ⟨hx, hb, hml, hown, hts⟩ (c_X12_passes l g Ty G s.heap.size h0 45 k_h0 (rg_w rl_45 (by decide) (by decide)) rd nn rdf askf len top isA M at0 wr0 hPE) (cwV 1 hts (gwV mw_1459 mw_1461 mw_38 mw_88 mw_1462) rfl rfl rfl hv_X12_passes ⟨by show 1 + 1 ≤ 6 + 4 * (nr + 1); omega, by show 21 + 20 ≤ 200 + 93 * (nr + 1); omega⟩) ⟨PcT_blind, hg_recv hK o_c_1 rfl, PcT_pre hK hH⟩ rfl rfl hl.1 rfl (lv_room (Nat.le_of_ble_eq_true rfl)) dX12_thing_3 ⟨Nat.zero_le _, Nat.zero_le _⟩) hS (fun q _ h => AF.mono hS.1 h) (fun q h => AF.mono hS.1 h) (fun x_4 ux_4 t H locs ht hvm hx_4 hB hz hk hS => ?_)
  obtain ⟨hx_4, fx_4⟩ := hx_4
  obtain ⟨eTx_4, eGx_4⟩ := fx_4
  obtain ⟨G_5, eG_5⟩ : ∃ z, z = ux_4.2 := ⟨_, rfl⟩
  rw [← eG_5] at eGx_4
  obtain ⟨hr_k_6, hg_k_6, hm_k_6, hq_k_6⟩ := eGx_4
  obtain ⟨xa_7, exa_7⟩ : ∃ z : Int32, z = (F_X12_passes rdf askf len top isA (45 : Int32) at0 wr0).2.1 := ⟨_, rfl⟩
  obtain ⟨xw_8, exw_8⟩ : ∃ z : Int32, z = (F_X12_passes rdf askf len top isA (45 : Int32) at0 wr0).2.2 := ⟨_, rfl⟩
  rw [← exa_7] at hg_k_6 hm_k_6 hq_k_6
  rw [← exw_8] at hg_k_6
  rw [← exa_7] at hx_4
  have hPE_9 : PE g Ty G_5 rd nn rdf askf len top isA M xa_7 xw_8 := PE.ps hPE hg_k_6 hq_k_6
  have hp_10 : G_5 = pst G xa_7 xw_8 := pst_pst hg_k_6 hp0
  have hmo_11 : at0.toInt ≤ (xa_7 : Int32).toInt := Int.le_trans (Int.le_refl at0.toInt) hm_k_6
  have hH : HT g Ty G_5 H := by rw [← ht, ← eTx_4, eG_5]; exact hB
  have rx_4 : rgI (0) (1) x_4 := hx_4.1
  have hv : (if x_4 = (0 : Int32) then (if (F_X12_fine rdf askf len top isA  xa_7 xw_8) = (0 : Int32) then ((0 : Int32), xa_7, xw_8) else (if (F_X12_here rdf askf len top isA  xa_7 xw_8) = (40 : Int32) then (if (4 : Int32) ≤ a0 then (if (F_X12_in (F_X12_here rdf askf len top isA  xa_7 xw_8) (48 : Int32) (57 : Int32)) = (0 : Int32) then (if (F_X12_letterOf (F_X12_here rdf askf len top isA  xa_7 xw_8)) = (-1 : Int32) then (bn3 (F_X12_fault rdf askf len top isA xa_7 xa_7 xw_8) (fun _ ba19 bw19 => ((0 : Int32), ba19, bw19))) else (if isA = (0 : Int32) then ((0 : Int32), (xa_7 + (1 : Int32)), xw_8) else ((askf (Int32.toNatClampNeg (F_X12_letterOf (F_X12_here rdf askf len top isA  xa_7 xw_8)))), (xa_7 + (1 : Int32)), xw_8))) else (bn3 (F_X12_number rdf askf len top isA (3 : Int32) xa_7 xw_8) (fun bv20 ba20 bw20 => (bv20, ba20, bw20)))) else (bn3 (F_X12_held rdf askf len top isA (F_X12_thing rdf askf len top isA nr) (a0 + (1 : Int32)) (xa_7 + (1 : Int32)) xw_8) (fun bv21 ba21 bw21 => (bn3 (F_X12_need rdf askf len top isA (41 : Int32) ba21 bw21) (fun _ ba22 bw22 => (bv21, ba22, bw22)))))) else (if (F_X12_in (F_X12_here rdf askf len top isA  xa_7 xw_8) (48 : Int32) (57 : Int32)) = (0 : Int32) then (if (F_X12_letterOf (F_X12_here rdf askf len top isA  xa_7 xw_8)) = (-1 : Int32) then (bn3 (F_X12_fault rdf askf len top isA xa_7 xa_7 xw_8) (fun _ ba17 bw17 => ((0 : Int32), ba17, bw17))) else (if isA = (0 : Int32) then ((0 : Int32), (xa_7 + (1 : Int32)), xw_8) else ((askf (Int32.toNatClampNeg (F_X12_letterOf (F_X12_here rdf askf len top isA  xa_7 xw_8)))), (xa_7 + (1 : Int32)), xw_8))) else (bn3 (F_X12_number rdf askf len top isA (3 : Int32) xa_7 xw_8) (fun bv18 ba18 bw18 => (bv18, ba18, bw18)))))) else (bn3 (F_X12_thing rdf askf len top isA nr a0 xa_7 xw_8) (fun bv23 ba23 bw23 => ((-bv23), ba23, bw23)))) = F_X12_thing rdf askf len top isA (nr + 1) a0 at0 wr0 := by have q := bn3_to hr_k_6 exa_7 exw_8 hv; exact q
  refine lv_if_eq (tgt := 16) hx hb dX12_thing_6 (by decide) (fun c_12 => ?_) (fun c_12 => ?_)
  · rw [if_pos c_12] at hv
    have r_13 : rgI (0) (0) x_4 := rg_w (rg_eq rl_0 c_12) (by decide) (by decide)
    refine lv_aload_n hx hb dX12_thing_16 rfl (lv_at hl 0 rfl) ?_
    obtain ⟨_, ⟨rfl, t_15, hk_16⟩, o_c_14⟩ := hH h0 _ k_h0
    refine vp_callSi (W.runV (As := []) (rest := []) ⟨hx, hb, hml, hown, hts⟩ (c_X12_fine_p l g Ty G_5 h0 k_h0 rd nn rdf askf len top isA M xa_7 xw_8 hPE_9) (cwV 0 hts (gwV mw_1463 mw_1465 mw_39 mw_88 mw_1466) rfl rfl rfl hv_X12_fine ⟨by show 0 + 1 ≤ 6 + 4 * (nr + 1); omega, by show 20 + 0 ≤ 200 + 93 * (nr + 1); omega⟩) ⟨PcH_blind, hg_recv hK o_c_14 rfl, PcH_pre hK hH⟩ rfl rfl hl.1 rfl (lv_room (Nat.le_of_ble_eq_true rfl)) dX12_thing_17 ⟨Nat.zero_le _, Nat.zero_le _⟩) (fun x_17 hx_17 => ?_)
    have rx_17 : rgI (0) (1) x_17 := hx_17.1
    try rw [← hx_17.2] at hv
    refine lv_if_ne (tgt := 25) hx hb dX12_thing_20 (by decide) (fun c_18 => ?_) (fun c_18 => ?_)
    · rw [if_neg c_18] at hv
      have r_19 : rgI (1) (1) x_17 := rg_w (rg_neL rx_17 rl_0 c_18) (by decide) (by decide)
      refine lv_aload_n hx hb dX12_thing_25 rfl (lv_at hl 0 rfl) ?_
      refine vp_callSi (W.runV (As := []) (rest := []) ⟨hx, hb, hml, hown, hts⟩ (c_X12_here l g Ty G_5 h0 k_h0 rd nn rdf askf len top isA M xa_7 xw_8 hPE_9) (cwV 0 hts (gwV mw_1467 mw_1469 mw_40 mw_88 mw_1470) rfl rfl rfl hv_X12_here ⟨by show 0 + 1 ≤ 6 + 4 * (nr + 1); omega, by show 20 + 0 ≤ 200 + 93 * (nr + 1); omega⟩) ⟨PcH_blind, hg_recv hK o_c_14 rfl, PcH_pre hK hH⟩ rfl rfl hl.1 rfl (lv_room (Nat.le_of_ble_eq_true rfl)) dX12_thing_26 ⟨Nat.zero_le _, Nat.zero_le _⟩) (fun x_20 hx_20 => ?_)
      have rx_20 : rgI (-1) (255) x_20 := hx_20.1
      try rw [← hx_20.2] at hv
      refine lv_istore_n (lv' := [(2, .int x_20), (0, .ref h0), (1, .int a0)]) hx hb dX12_thing_29 rfl hl (by decide) rfl (fun ls hl => ?_)
      refine lv_iload_n hx hb dX12_thing_30 rfl (lv_at hl 0 rfl) ?_
      refine lv_bipush (v := 40) hx hb dX12_thing_31 (by decide) ?_
      refine lv_icmp_ne (tgt := 67) hx hb dX12_thing_33 (by decide) (fun c_21 => ?_) (fun c_21 => ?_)
      · rw [if_neg c_21] at hv
        refine lv_iload_n hx hb dX12_thing_67 rfl (lv_at hl 0 rfl) ?_
        refine lv_bipush (v := 48) hx hb dX12_thing_68 (by decide) ?_
        refine lv_bipush (v := 57) hx hb dX12_thing_70 (by decide) ?_
        refine vp_callSi (W.runS (As := [.int x_20, .int 48, .int 57]) (rest := []) ⟨hx, hb, hml, hown, hts⟩ (c_X12_in l g Ty G_5 x_20 48 57 ) (cwSx 3 hts hG (gwC mw_1426) mw_88 mw_1424 mw_1425 rfl rfl rfl hd_X12_in ⟨Nat.le_of_ble_eq_true rfl, Nat.le_of_ble_eq_true rfl⟩) ⟨PcH_blind, PcH_pre hK hH⟩ rfl rfl hl.1 rfl (lv_room (Nat.le_of_ble_eq_true rfl)) dX12_thing_72 ⟨Nat.zero_le _, Nat.zero_le _⟩) (fun x_22 hx_22 => ?_)
        have rx_22 : rgI (0) (1) x_22 := hx_22.1
        try rw [← hx_22.2.2] at hv
        refine lv_if_eq (tgt := 84) hx hb dX12_thing_75 (by decide) (fun c_23 => ?_) (fun c_23 => ?_)
        · rw [if_pos c_23] at hv
          have r_24 : rgI (0) (0) x_22 := rg_w (rg_eq rl_0 c_23) (by decide) (by decide)
          refine lv_iload_n hx hb dX12_thing_84 rfl (lv_at hl 0 rfl) ?_
          refine vp_callSi (W.runS (As := [.int x_20]) (rest := []) ⟨hx, hb, hml, hown, hts⟩ (c_X12_letterOf l g Ty G_5 x_20 ) (cwSx 1 hts hG (gwC mw_1489) mw_88 mw_1487 mw_1488 rfl rfl rfl hd_X12_letterOf ⟨Nat.le_of_ble_eq_true rfl, Nat.le_of_ble_eq_true rfl⟩) ⟨PcH_blind, PcH_pre hK hH⟩ rfl rfl hl.1 rfl (lv_room (Nat.le_of_ble_eq_true rfl)) dX12_thing_85 ⟨Nat.zero_le _, Nat.zero_le _⟩) (fun x_25 hx_25 => ?_)
          have rx_25 : rgI (-1) (6) x_25 := hx_25.1
          try rw [← hx_25.2] at hv
          refine lv_iconst (v := (-1)) hx hb dX12_thing_88 (by decide) ?_
          refine lv_icmp_ne (tgt := 102) hx hb dX12_thing_89 (by decide) (fun c_26 => ?_) (fun c_26 => ?_)
          · rw [if_neg c_26] at hv
            have r_27 : rgI (0) (6) x_25 := rg_w (rg_neL rx_25 rl_m1 c_26) (by decide) (by decide)
            refine lv_aload_n hx hb dX12_thing_102 rfl (lv_at hl 1 rfl) ?_
            refine lv_dup hx hb dX12_thing_103 rfl ?_
            refine hg_get hx hb hG igX12 hown hK o_c_14 rfl 9 (by decide) (hG _ mw_1293) rfl dX12_thing_104 ?_
            rw [(PE.e109 hPE_9)]
            refine lv_iconst (v := 1) hx hb dX12_thing_107 (by decide) ?_
            refine lv_iadd hx hb dX12_thing_108 ?_
            refine lv_topi (fun x_28 ex_28 => ?_)
            try rw [← ex_28] at hv
            have rx_28 : rgI (1) (81) x_28 := by rw [ex_28]; exact rg_w (rg_add (PE.ra8 hPE_9) rl_1 (by decide) (by decide)) (by decide) (by decide)
            have qx_28 : x_28.toInt = (xa_7 : Int32).toInt + 1 := by rw [ex_28]; exact rg_addE (PE.ra8 hPE_9) rl_1 (by decide) (by decide)
            refine hg_put (ty := .int) hx hb hG igX12 tyX12 tyX12_ok nmX12 hown hK hS o_c_14 (AF.of k_h0) rfl 9 (by decide) (hG _ mw_1293) rfl (by decide +kernel) rfl rfl (Nat.le_of_ble_eq_true rfl) dX12_thing_109 (fun H locs o_c_14 hz oq hS => ?_)
            obtain ⟨G_29, eG_29⟩ : ∃ z : Gh, z = gset G_5 109 x_28 := ⟨_, rfl⟩
            have hH : HT g Ty G_29 H := by rw [eG_29]; exact HT.putN 109 x_28 hH k_h0 ⟨rfl, t_15, hk_16⟩ o_c_14 oq (Or.inr (Or.inr (Or.inr (Or.inr (Or.inr ⟨by decide, t_15⟩)))))
            have ra_33 : rgI 0 M x_28 := pe_up hPE_9 (nh_let hx_25.2 c_26 hx_20.2) qx_28
            have hPE_30 : PE g Ty G_29 rd nn rdf askf len top isA M x_28 xw_8 := PE.atx hPE_9 eG_29 ra_33
            have hp_31 : G_29 = pst G x_28 xw_8 := pst_a hp_10 eG_29
            have hmo_32 : at0.toInt ≤ (x_28 : Int32).toInt := by have q1 := hmo_11; have q2 := qx_28; omega
            clear oq hz
            refine lv_aload_n hx hb dX12_thing_112 rfl (lv_at hl 1 rfl) ?_
            obtain ⟨_, ⟨rfl, t_35, hk_36⟩, o_c_34⟩ := hH h0 _ k_h0
            refine hg_get hx hb hG igX12 hown hK o_c_34 rfl 14 (by decide) (hG _ mw_1298) rfl dX12_thing_113 ?_
            rw [(PE.e114 hPE_30)]
            refine lv_if_eq (tgt := 131) hx hb dX12_thing_116 (by decide) (fun c_37 => ?_) (fun c_37 => ?_)
            · rw [if_pos c_37] at hv
              have r_38 : rgI (0) (0) isA := rg_w (rg_eq rl_0 c_37) (by decide) (by decide)
              refine lv_iconst (v := 0) hx hb dX12_thing_131 (by decide) ?_
              exact W.iret hx hb hr (fun t ht hWm => ⟨⟨0, (Ty, G_29), rfl, ⟨rfl, PR.mk hv hp_31 hmo_32 (PE.ra hPE_30)⟩, by show HT g Ty G_29 t.heap; rw [ht]; exact hH⟩, hS.F ht⟩) hS.2.2 dX12_thing_132
            · rw [if_neg c_37] at hv
              refine lv_aload_n hx hb dX12_thing_119 rfl (lv_at hl 1 rfl) ?_
              refine hg_get hx hb hG igX12 hown hK o_c_34 rfl 15 (by decide) (hG _ mw_1299) rfl dX12_thing_120 ?_
              refine lv_iload_n hx hb dX12_thing_123 rfl (lv_at hl 0 rfl) ?_
              refine vp_callSi (W.runS (As := [.int x_20]) (rest := [.ref (g.2.2 115)]) ⟨hx, hb, hml, hown, hts⟩ (c_X12_letterOf l g Ty G_29 x_20 ) (cwSx 1 hts hG (gwC mw_1489) mw_88 mw_1487 mw_1488 rfl rfl rfl hd_X12_letterOf ⟨Nat.le_of_ble_eq_true rfl, Nat.le_of_ble_eq_true rfl⟩) ⟨PcH_blind, PcH_pre hK hH⟩ rfl rfl hl.1 rfl (lv_room (Nat.le_of_ble_eq_true rfl)) dX12_thing_124 ⟨Nat.zero_le _, Nat.zero_le _⟩) (fun x_39 hx_39 => ?_)
              have rx_39 : rgI (-1) (6) x_39 := hx_39.1
              try rw [← hx_39.2] at hv
              have q_40 : x_25 = x_39 := (hx_25.2).trans (hx_39.2).symm
              subst q_40
              obtain ⟨_, rfl, o_c_41⟩ := hH (g.2.2 115) _ hk_36.2.2.2.1
              have o_c_41 : va_at g.1 vwCl ((g.2.2 115), .inl (g.2.1 1, 7, .inl (G_29.2.1 (g.2.2 115)))) H := o_c_41
              have rz_42 : rgI 0 6 x_25 := let_rg hx_39.2 hx_25.2 c_26 rx_39
              refine hg_iald hx hb hK o_c_41 (rg_in (n := 7) rz_42 (by decide) (by decide)) dX12_thing_127 ?_
              rw [hPE_30.2.2.2.1 _ (ix_lt rz_42 (by decide) (by decide))]
              refine lv_topi (fun x_43 ex_43 => ?_)
              try rw [← ex_43] at hv
              refine lv_goto (tgt := 132) hx hb dX12_thing_128 (by decide) ?_
              exact W.iret hx hb hr (fun t ht hWm => ⟨⟨x_43, (Ty, G_29), rfl, ⟨rfl, PR.mk hv hp_31 hmo_32 (PE.ra hPE_30)⟩, by show HT g Ty G_29 t.heap; rw [ht]; exact hH⟩, hS.F ht⟩) hS.2.2 dX12_thing_132
          · rw [if_pos c_26] at hv
            have r_44 : rgI (-1) (-1) x_25 := rg_w (rg_eq rl_m1 c_26) (by decide) (by decide)
            refine lv_aload_n hx hb dX12_thing_92 rfl (lv_at hl 1 rfl) ?_
            refine lv_aload_n hx hb dX12_thing_93 rfl (lv_at hl 1 rfl) ?_
            refine hg_get hx hb hG igX12 hown hK o_c_14 rfl 9 (by decide) (hG _ mw_1293) rfl dX12_thing_94 ?_
            rw [(PE.e109 hPE_9)]
            refine va_callv (va_runV (As := [.int xa_7]) (rest := []) ⟨hx, hb, hml, hown, hts⟩ (c_X12_fault_p l g Ty G_5 H.size h0 xa_7 k_h0 rd nn rdf askf len top isA M xa_7 xw_8 hPE_9) (cwV 1 hts (gwV mw_1475 mw_1477 mw_42 mw_88 mw_1478) rfl rfl rfl hv_X12_fault ⟨by show 1 + 1 ≤ 6 + 4 * (nr + 1); omega, by show 21 + 20 ≤ 200 + 93 * (nr + 1); omega⟩) ⟨PcT_blind, hg_recv hK o_c_14 rfl, PcT_pre hK hH⟩ rfl rfl hl.1 rfl (lv_room (Nat.le_of_ble_eq_true rfl)) dX12_thing_97 ⟨Nat.zero_le _, Nat.zero_le _⟩) hS (fun q _ h => AF.mono hS.1 h) (fun q h => AF.mono hS.1 h) (fun ux_45 t H locs ht hvm hx_45 hB hz hk hS => ?_)
            obtain ⟨eTx_45, eGx_45⟩ := hx_45
            obtain ⟨G_46, eG_46⟩ : ∃ z, z = ux_45.2 := ⟨_, rfl⟩
            rw [← eG_46] at eGx_45
            obtain ⟨hg_k_47, hm_k_47, hq_k_47⟩ := eGx_45
            obtain ⟨xa_48, exa_48⟩ : ∃ z : Int32, z = (F_X12_fault rdf askf len top isA xa_7 xa_7 xw_8).2.1 := ⟨_, rfl⟩
            obtain ⟨xw_49, exw_49⟩ : ∃ z : Int32, z = (F_X12_fault rdf askf len top isA xa_7 xa_7 xw_8).2.2 := ⟨_, rfl⟩
            rw [← exa_48] at hg_k_47 hm_k_47 hq_k_47
            rw [← exw_49] at hg_k_47
            have hPE_50 : PE g Ty G_46 rd nn rdf askf len top isA M xa_48 xw_49 := PE.ps hPE_9 hg_k_47 hq_k_47
            have hp_51 : G_46 = pst G xa_48 xw_49 := pst_pst hg_k_47 hp_10
            have hmo_52 : at0.toInt ≤ (xa_48 : Int32).toInt := Int.le_trans hmo_11 hm_k_47
            have hH : HT g Ty G_46 H := by rw [← ht, ← eTx_45, eG_46]; exact hB
            have hv : ((0 : Int32), xa_48, xw_49) = F_X12_thing rdf askf len top isA (nr + 1) a0 at0 wr0 := by have q := bn3_tov exa_48 exw_49 hv; exact q
            refine lv_iconst (v := 0) hx hb dX12_thing_100 (by decide) ?_
            exact W.iret hx hb hr (fun t ht hWm => ⟨⟨0, (Ty, G_46), rfl, ⟨rfl, PR.mk hv hp_51 hmo_52 (PE.ra hPE_50)⟩, by show HT g Ty G_46 t.heap; rw [ht]; exact hH⟩, hS.F ht⟩) hS.2.2 dX12_thing_101
        · rw [if_neg c_23] at hv
          have r_53 : rgI (1) (1) x_22 := rg_w (rg_neL rx_22 rl_0 c_23) (by decide) (by decide)
          have r_54 : rgI (48) (57) x_20 := rg_w (in_rng hx_22.2.1 c_23 rl_48 rl_57) (by decide) (by decide)
          refine lv_aload_n hx hb dX12_thing_78 rfl (lv_at hl 1 rfl) ?_
          refine lv_iconst (v := 3) hx hb dX12_thing_79 (by decide) ?_
          refine va_calli (va_runV (As := [.int 3]) (rest := []) ⟨hx, hb, hml, hown, hts⟩ (c_X12_number l g Ty G_5 H.size h0 3 k_h0 (rg_w rl_3 (by decide) (by decide)) rd nn rdf askf len top isA M xa_7 xw_8 hPE_9) (cwV 1 hts (gwV mw_1479 mw_1481 mw_43 mw_88 mw_1482) rfl rfl rfl hv_X12_number ⟨by show 3 + 1 ≤ 6 + 4 * (nr + 1); omega, by show 23 + 63 ≤ 200 + 93 * (nr + 1); omega⟩) ⟨PcT_blind, hg_recv hK o_c_14 rfl, PcT_pre hK hH⟩ rfl rfl hl.1 rfl (lv_room (Nat.le_of_ble_eq_true rfl)) dX12_thing_80 ⟨Nat.zero_le _, Nat.zero_le _⟩) hS (fun q _ h => AF.mono hS.1 h) (fun q h => AF.mono hS.1 h) (fun x_55 ux_55 t H locs ht hvm hx_55 hB hz hk hS => ?_)
          obtain ⟨eTx_55, eGx_55⟩ := hx_55
          obtain ⟨G_56, eG_56⟩ : ∃ z, z = ux_55.2 := ⟨_, rfl⟩
          rw [← eG_56] at eGx_55
          obtain ⟨hr_k_57, hg_k_57, hm_k_57, hq_k_57⟩ := eGx_55
          obtain ⟨xa_58, exa_58⟩ : ∃ z : Int32, z = (F_X12_number rdf askf len top isA (3 : Int32) xa_7 xw_8).2.1 := ⟨_, rfl⟩
          obtain ⟨xw_59, exw_59⟩ : ∃ z : Int32, z = (F_X12_number rdf askf len top isA (3 : Int32) xa_7 xw_8).2.2 := ⟨_, rfl⟩
          rw [← exa_58] at hg_k_57 hm_k_57 hq_k_57
          rw [← exw_59] at hg_k_57
          have hPE_60 : PE g Ty G_56 rd nn rdf askf len top isA M xa_58 xw_59 := PE.ps hPE_9 hg_k_57 hq_k_57
          have hp_61 : G_56 = pst G xa_58 xw_59 := pst_pst hg_k_57 hp_10
          have hmo_62 : at0.toInt ≤ (xa_58 : Int32).toInt := Int.le_trans hmo_11 hm_k_57
          have hH : HT g Ty G_56 H := by rw [← ht, ← eTx_55, eG_56]; exact hB
          have hv : (x_55, xa_58, xw_59) = F_X12_thing rdf askf len top isA (nr + 1) a0 at0 wr0 := by have q := bn3_to hr_k_57 exa_58 exw_59 hv; exact q
          exact W.iret hx hb hr (fun t ht hWm => ⟨⟨x_55, (Ty, G_56), rfl, ⟨rfl, PR.mk hv hp_61 hmo_62 (PE.ra hPE_60)⟩, by show HT g Ty G_56 t.heap; rw [ht]; exact hH⟩, hS.F ht⟩) hS.2.2 dX12_thing_83
      · rw [if_pos c_21] at hv
        have r_63 : rgI (40) (40) x_20 := rg_w (rg_eq rl_40 c_21) (by decide) (by decide)
        refine lv_iload_n hx hb dX12_thing_36 rfl (lv_at hl 2 rfl) ?_
        refine lv_iconst (v := 4) hx hb dX12_thing_37 (by decide) ?_
        refine lv_icmp_ge (tgt := 67) hx hb dX12_thing_38 (by decide) (fun c_64 => ?_) (fun c_64 => ?_)
        · rw [if_pos c_64] at hv
          have r_65 : rgI (4) (2147483647) a0 := rg_w (rg_leR rl_4 (rg_top a0) c_64) (by decide) (by decide)
          refine lv_iload_n hx hb dX12_thing_67 rfl (lv_at hl 0 rfl) ?_
          refine lv_bipush (v := 48) hx hb dX12_thing_68 (by decide) ?_
          refine lv_bipush (v := 57) hx hb dX12_thing_70 (by decide) ?_
          refine vp_callSi (W.runS (As := [.int x_20, .int 48, .int 57]) (rest := []) ⟨hx, hb, hml, hown, hts⟩ (c_X12_in l g Ty G_5 x_20 48 57 ) (cwSx 3 hts hG (gwC mw_1426) mw_88 mw_1424 mw_1425 rfl rfl rfl hd_X12_in ⟨Nat.le_of_ble_eq_true rfl, Nat.le_of_ble_eq_true rfl⟩) ⟨PcH_blind, PcH_pre hK hH⟩ rfl rfl hl.1 rfl (lv_room (Nat.le_of_ble_eq_true rfl)) dX12_thing_72 ⟨Nat.zero_le _, Nat.zero_le _⟩) (fun x_66 hx_66 => ?_)
          have rx_66 : rgI (0) (1) x_66 := hx_66.1
          try rw [← hx_66.2.2] at hv
          refine lv_if_eq (tgt := 84) hx hb dX12_thing_75 (by decide) (fun c_67 => ?_) (fun c_67 => ?_)
          · rw [if_pos c_67] at hv
            have r_68 : rgI (0) (0) x_66 := rg_w (rg_eq rl_0 c_67) (by decide) (by decide)
            refine lv_iload_n hx hb dX12_thing_84 rfl (lv_at hl 0 rfl) ?_
            refine vp_callSi (W.runS (As := [.int x_20]) (rest := []) ⟨hx, hb, hml, hown, hts⟩ (c_X12_letterOf l g Ty G_5 x_20 ) (cwSx 1 hts hG (gwC mw_1489) mw_88 mw_1487 mw_1488 rfl rfl rfl hd_X12_letterOf ⟨Nat.le_of_ble_eq_true rfl, Nat.le_of_ble_eq_true rfl⟩) ⟨PcH_blind, PcH_pre hK hH⟩ rfl rfl hl.1 rfl (lv_room (Nat.le_of_ble_eq_true rfl)) dX12_thing_85 ⟨Nat.zero_le _, Nat.zero_le _⟩) (fun x_69 hx_69 => ?_)
            have rx_69 : rgI (-1) (6) x_69 := hx_69.1
            try rw [← hx_69.2] at hv
            refine lv_iconst (v := (-1)) hx hb dX12_thing_88 (by decide) ?_
            refine lv_icmp_ne (tgt := 102) hx hb dX12_thing_89 (by decide) (fun c_70 => ?_) (fun c_70 => ?_)
            · rw [if_neg c_70] at hv
              have r_71 : rgI (0) (6) x_69 := rg_w (rg_neL rx_69 rl_m1 c_70) (by decide) (by decide)
              refine lv_aload_n hx hb dX12_thing_102 rfl (lv_at hl 1 rfl) ?_
              refine lv_dup hx hb dX12_thing_103 rfl ?_
              refine hg_get hx hb hG igX12 hown hK o_c_14 rfl 9 (by decide) (hG _ mw_1293) rfl dX12_thing_104 ?_
              rw [(PE.e109 hPE_9)]
              refine lv_iconst (v := 1) hx hb dX12_thing_107 (by decide) ?_
              refine lv_iadd hx hb dX12_thing_108 ?_
              refine lv_topi (fun x_72 ex_72 => ?_)
              try rw [← ex_72] at hv
              have rx_72 : rgI (1) (81) x_72 := by rw [ex_72]; exact rg_w (rg_add (PE.ra8 hPE_9) rl_1 (by decide) (by decide)) (by decide) (by decide)
              have qx_72 : x_72.toInt = (xa_7 : Int32).toInt + 1 := by rw [ex_72]; exact rg_addE (PE.ra8 hPE_9) rl_1 (by decide) (by decide)
              refine hg_put (ty := .int) hx hb hG igX12 tyX12 tyX12_ok nmX12 hown hK hS o_c_14 (AF.of k_h0) rfl 9 (by decide) (hG _ mw_1293) rfl (by decide +kernel) rfl rfl (Nat.le_of_ble_eq_true rfl) dX12_thing_109 (fun H locs o_c_14 hz oq hS => ?_)
              obtain ⟨G_73, eG_73⟩ : ∃ z : Gh, z = gset G_5 109 x_72 := ⟨_, rfl⟩
              have hH : HT g Ty G_73 H := by rw [eG_73]; exact HT.putN 109 x_72 hH k_h0 ⟨rfl, t_15, hk_16⟩ o_c_14 oq (Or.inr (Or.inr (Or.inr (Or.inr (Or.inr ⟨by decide, t_15⟩)))))
              have ra_77 : rgI 0 M x_72 := pe_up hPE_9 (nh_let hx_69.2 c_70 hx_20.2) qx_72
              have hPE_74 : PE g Ty G_73 rd nn rdf askf len top isA M x_72 xw_8 := PE.atx hPE_9 eG_73 ra_77
              have hp_75 : G_73 = pst G x_72 xw_8 := pst_a hp_10 eG_73
              have hmo_76 : at0.toInt ≤ (x_72 : Int32).toInt := by have q1 := hmo_11; have q2 := qx_72; omega
              clear oq hz
              refine lv_aload_n hx hb dX12_thing_112 rfl (lv_at hl 1 rfl) ?_
              obtain ⟨_, ⟨rfl, t_79, hk_80⟩, o_c_78⟩ := hH h0 _ k_h0
              refine hg_get hx hb hG igX12 hown hK o_c_78 rfl 14 (by decide) (hG _ mw_1298) rfl dX12_thing_113 ?_
              rw [(PE.e114 hPE_74)]
              refine lv_if_eq (tgt := 131) hx hb dX12_thing_116 (by decide) (fun c_81 => ?_) (fun c_81 => ?_)
              · rw [if_pos c_81] at hv
                have r_82 : rgI (0) (0) isA := rg_w (rg_eq rl_0 c_81) (by decide) (by decide)
                refine lv_iconst (v := 0) hx hb dX12_thing_131 (by decide) ?_
                exact W.iret hx hb hr (fun t ht hWm => ⟨⟨0, (Ty, G_73), rfl, ⟨rfl, PR.mk hv hp_75 hmo_76 (PE.ra hPE_74)⟩, by show HT g Ty G_73 t.heap; rw [ht]; exact hH⟩, hS.F ht⟩) hS.2.2 dX12_thing_132
              · rw [if_neg c_81] at hv
                refine lv_aload_n hx hb dX12_thing_119 rfl (lv_at hl 1 rfl) ?_
                refine hg_get hx hb hG igX12 hown hK o_c_78 rfl 15 (by decide) (hG _ mw_1299) rfl dX12_thing_120 ?_
                refine lv_iload_n hx hb dX12_thing_123 rfl (lv_at hl 0 rfl) ?_
                refine vp_callSi (W.runS (As := [.int x_20]) (rest := [.ref (g.2.2 115)]) ⟨hx, hb, hml, hown, hts⟩ (c_X12_letterOf l g Ty G_73 x_20 ) (cwSx 1 hts hG (gwC mw_1489) mw_88 mw_1487 mw_1488 rfl rfl rfl hd_X12_letterOf ⟨Nat.le_of_ble_eq_true rfl, Nat.le_of_ble_eq_true rfl⟩) ⟨PcH_blind, PcH_pre hK hH⟩ rfl rfl hl.1 rfl (lv_room (Nat.le_of_ble_eq_true rfl)) dX12_thing_124 ⟨Nat.zero_le _, Nat.zero_le _⟩) (fun x_83 hx_83 => ?_)
                have rx_83 : rgI (-1) (6) x_83 := hx_83.1
                try rw [← hx_83.2] at hv
                have q_84 : x_69 = x_83 := (hx_69.2).trans (hx_83.2).symm
                subst q_84
                obtain ⟨_, rfl, o_c_85⟩ := hH (g.2.2 115) _ hk_80.2.2.2.1
                have o_c_85 : va_at g.1 vwCl ((g.2.2 115), .inl (g.2.1 1, 7, .inl (G_73.2.1 (g.2.2 115)))) H := o_c_85
                have rz_86 : rgI 0 6 x_69 := let_rg hx_83.2 hx_69.2 c_70 rx_83
                refine hg_iald hx hb hK o_c_85 (rg_in (n := 7) rz_86 (by decide) (by decide)) dX12_thing_127 ?_
                rw [hPE_74.2.2.2.1 _ (ix_lt rz_86 (by decide) (by decide))]
                refine lv_topi (fun x_87 ex_87 => ?_)
                try rw [← ex_87] at hv
                refine lv_goto (tgt := 132) hx hb dX12_thing_128 (by decide) ?_
                exact W.iret hx hb hr (fun t ht hWm => ⟨⟨x_87, (Ty, G_73), rfl, ⟨rfl, PR.mk hv hp_75 hmo_76 (PE.ra hPE_74)⟩, by show HT g Ty G_73 t.heap; rw [ht]; exact hH⟩, hS.F ht⟩) hS.2.2 dX12_thing_132
            · rw [if_pos c_70] at hv
              have r_88 : rgI (-1) (-1) x_69 := rg_w (rg_eq rl_m1 c_70) (by decide) (by decide)
              refine lv_aload_n hx hb dX12_thing_92 rfl (lv_at hl 1 rfl) ?_
              refine lv_aload_n hx hb dX12_thing_93 rfl (lv_at hl 1 rfl) ?_
              refine hg_get hx hb hG igX12 hown hK o_c_14 rfl 9 (by decide) (hG _ mw_1293) rfl dX12_thing_94 ?_
              rw [(PE.e109 hPE_9)]
              refine va_callv (va_runV (As := [.int xa_7]) (rest := []) ⟨hx, hb, hml, hown, hts⟩ (c_X12_fault_p l g Ty G_5 H.size h0 xa_7 k_h0 rd nn rdf askf len top isA M xa_7 xw_8 hPE_9) (cwV 1 hts (gwV mw_1475 mw_1477 mw_42 mw_88 mw_1478) rfl rfl rfl hv_X12_fault ⟨by show 1 + 1 ≤ 6 + 4 * (nr + 1); omega, by show 21 + 20 ≤ 200 + 93 * (nr + 1); omega⟩) ⟨PcT_blind, hg_recv hK o_c_14 rfl, PcT_pre hK hH⟩ rfl rfl hl.1 rfl (lv_room (Nat.le_of_ble_eq_true rfl)) dX12_thing_97 ⟨Nat.zero_le _, Nat.zero_le _⟩) hS (fun q _ h => AF.mono hS.1 h) (fun q h => AF.mono hS.1 h) (fun ux_89 t H locs ht hvm hx_89 hB hz hk hS => ?_)
              obtain ⟨eTx_89, eGx_89⟩ := hx_89
              obtain ⟨G_90, eG_90⟩ : ∃ z, z = ux_89.2 := ⟨_, rfl⟩
              rw [← eG_90] at eGx_89
              obtain ⟨hg_k_91, hm_k_91, hq_k_91⟩ := eGx_89
              obtain ⟨xa_92, exa_92⟩ : ∃ z : Int32, z = (F_X12_fault rdf askf len top isA xa_7 xa_7 xw_8).2.1 := ⟨_, rfl⟩
              obtain ⟨xw_93, exw_93⟩ : ∃ z : Int32, z = (F_X12_fault rdf askf len top isA xa_7 xa_7 xw_8).2.2 := ⟨_, rfl⟩
              rw [← exa_92] at hg_k_91 hm_k_91 hq_k_91
              rw [← exw_93] at hg_k_91
              have hPE_94 : PE g Ty G_90 rd nn rdf askf len top isA M xa_92 xw_93 := PE.ps hPE_9 hg_k_91 hq_k_91
              have hp_95 : G_90 = pst G xa_92 xw_93 := pst_pst hg_k_91 hp_10
              have hmo_96 : at0.toInt ≤ (xa_92 : Int32).toInt := Int.le_trans hmo_11 hm_k_91
              have hH : HT g Ty G_90 H := by rw [← ht, ← eTx_89, eG_90]; exact hB
              have hv : ((0 : Int32), xa_92, xw_93) = F_X12_thing rdf askf len top isA (nr + 1) a0 at0 wr0 := by have q := bn3_tov exa_92 exw_93 hv; exact q
              refine lv_iconst (v := 0) hx hb dX12_thing_100 (by decide) ?_
              exact W.iret hx hb hr (fun t ht hWm => ⟨⟨0, (Ty, G_90), rfl, ⟨rfl, PR.mk hv hp_95 hmo_96 (PE.ra hPE_94)⟩, by show HT g Ty G_90 t.heap; rw [ht]; exact hH⟩, hS.F ht⟩) hS.2.2 dX12_thing_101
          · rw [if_neg c_67] at hv
            have r_97 : rgI (1) (1) x_66 := rg_w (rg_neL rx_66 rl_0 c_67) (by decide) (by decide)
            exact rg_clash (in_rng hx_66.2.1 c_67 rl_48 rl_57) (r_63) (by decide)
        · rw [if_neg c_64] at hv
          have r_98 : rgI (-2147483648) (3) a0 := rg_w (rg_ltL (rg_top a0) rl_4 (nle_lt c_64)) (by decide) (by decide)
          refine lv_aload_n hx hb dX12_thing_41 rfl (lv_at hl 1 rfl) ?_
          refine lv_dup hx hb dX12_thing_42 rfl ?_
          refine hg_get hx hb hG igX12 hown hK o_c_14 rfl 9 (by decide) (hG _ mw_1293) rfl dX12_thing_43 ?_
          rw [(PE.e109 hPE_9)]
          refine lv_iconst (v := 1) hx hb dX12_thing_46 (by decide) ?_
          refine lv_iadd hx hb dX12_thing_47 ?_
          refine lv_topi (fun x_99 ex_99 => ?_)
          try rw [← ex_99] at hv
          have rx_99 : rgI (1) (81) x_99 := by rw [ex_99]; exact rg_w (rg_add (PE.ra8 hPE_9) rl_1 (by decide) (by decide)) (by decide) (by decide)
          have qx_99 : x_99.toInt = (xa_7 : Int32).toInt + 1 := by rw [ex_99]; exact rg_addE (PE.ra8 hPE_9) rl_1 (by decide) (by decide)
          refine hg_put (ty := .int) hx hb hG igX12 tyX12 tyX12_ok nmX12 hown hK hS o_c_14 (AF.of k_h0) rfl 9 (by decide) (hG _ mw_1293) rfl (by decide +kernel) rfl rfl (Nat.le_of_ble_eq_true rfl) dX12_thing_48 (fun H locs o_c_14 hz oq hS => ?_)
          obtain ⟨G_100, eG_100⟩ : ∃ z : Gh, z = gset G_5 109 x_99 := ⟨_, rfl⟩
          have hH : HT g Ty G_100 H := by rw [eG_100]; exact HT.putN 109 x_99 hH k_h0 ⟨rfl, t_15, hk_16⟩ o_c_14 oq (Or.inr (Or.inr (Or.inr (Or.inr (Or.inr ⟨by decide, t_15⟩)))))
          have ra_104 : rgI 0 M x_99 := pe_up hPE_9 (nh_eq hx_20.2 c_21 (by decide)) qx_99
          have hPE_101 : PE g Ty G_100 rd nn rdf askf len top isA M x_99 xw_8 := PE.atx hPE_9 eG_100 ra_104
          have hp_102 : G_100 = pst G x_99 xw_8 := pst_a hp_10 eG_100
          have hmo_103 : at0.toInt ≤ (x_99 : Int32).toInt := by have q1 := hmo_11; have q2 := qx_99; omega
          clear oq hz
          refine lv_aload_n hx hb dX12_thing_51 rfl (lv_at hl 1 rfl) ?_
          refine lv_iload_n hx hb dX12_thing_52 rfl (lv_at hl 2 rfl) ?_
          refine lv_iconst (v := 1) hx hb dX12_thing_53 (by decide) ?_
          refine lv_iadd hx hb dX12_thing_54 ?_
          refine lv_topi (fun x_105 ex_105 => ?_)
          try rw [← ex_105] at hv
          have rx_105 : rgI (-2147483647) (4) x_105 := by rw [ex_105]; exact rg_w (rg_add r_98 rl_1 (by decide) (by decide)) (by decide) (by decide)
          have qx_105 : x_105.toInt = (a0 : Int32).toInt + 1 := by rw [ex_105]; exact rg_addE r_98 rl_1 (by decide) (by decide)
          obtain ⟨_, ⟨rfl, t_107, hk_108⟩, o_c_106⟩ := hH h0 _ k_h0
          refine va_calli (va_runV (As := [.int x_105]) (rest := []) ⟨hx, hb, hml, hown, hts⟩ (c_X12_held l g nr hth Ty G_100 H.size h0 x_105 k_h0 rd nn rdf askf len top isA M x_99 xw_8 hPE_101 (by have q0 := (PE.ra8 hPE).2; have q1 := hmz; have q2 := hmo_103; omega)) (cwV 1 hts (gwV mw_1443 mw_1445 mw_34 mw_88 mw_1446) rfl rfl rfl hv_X12_held ⟨by show (9 + 4 * nr) + 1 ≤ 6 + 4 * (nr + 1); omega, by show 22 + (271 + 93 * nr) ≤ 200 + 93 * (nr + 1); omega⟩) ⟨PcT_blind, hg_recv hK o_c_106 rfl, PcT_pre hK hH⟩ rfl rfl hl.1 rfl (lv_room (Nat.le_of_ble_eq_true rfl)) dX12_thing_55 ⟨Nat.zero_le _, Nat.zero_le _⟩) hS (fun q _ h => AF.mono hS.1 h) (fun q h => AF.mono hS.1 h) (fun x_109 ux_109 t H locs ht hvm hx_109 hB hz hk hS => ?_)
          obtain ⟨eTx_109, eGx_109⟩ := hx_109
          obtain ⟨G_110, eG_110⟩ : ∃ z, z = ux_109.2 := ⟨_, rfl⟩
          rw [← eG_110] at eGx_109
          obtain ⟨hr_k_111, hg_k_111, hm_k_111, hq_k_111⟩ := eGx_109
          obtain ⟨xa_112, exa_112⟩ : ∃ z : Int32, z = (F_X12_held rdf askf len top isA (F_X12_thing rdf askf len top isA nr) x_105 x_99 xw_8).2.1 := ⟨_, rfl⟩
          obtain ⟨xw_113, exw_113⟩ : ∃ z : Int32, z = (F_X12_held rdf askf len top isA (F_X12_thing rdf askf len top isA nr) x_105 x_99 xw_8).2.2 := ⟨_, rfl⟩
          rw [← exa_112] at hg_k_111 hm_k_111 hq_k_111
          rw [← exw_113] at hg_k_111
          have hPE_114 : PE g Ty G_110 rd nn rdf askf len top isA M xa_112 xw_113 := PE.ps hPE_101 hg_k_111 hq_k_111
          have hp_115 : G_110 = pst G xa_112 xw_113 := pst_pst hg_k_111 hp_102
          have hmo_116 : at0.toInt ≤ (xa_112 : Int32).toInt := Int.le_trans hmo_103 hm_k_111
          have hH : HT g Ty G_110 H := by rw [← ht, ← eTx_109, eG_110]; exact hB
          have hv : (bn3 (F_X12_need rdf askf len top isA (41 : Int32) xa_112 xw_113) (fun _ ba24 bw24 => (x_109, ba24, bw24))) = F_X12_thing rdf askf len top isA (nr + 1) a0 at0 wr0 := by have q := bn3_to hr_k_111 exa_112 exw_113 hv; exact q
          refine lv_istore_n (lv' := [(3, .int x_109), (2, .int x_20), (0, .ref h0), (1, .int a0)]) hx hb dX12_thing_58 rfl hl (by decide) rfl (fun ls hl => ?_)
          refine lv_aload_n hx hb dX12_thing_59 rfl (lv_at hl 2 rfl) ?_
          refine lv_bipush (v := 41) hx hb dX12_thing_60 (by decide) ?_
          obtain ⟨_, ⟨rfl, t_118, hk_119⟩, o_c_117⟩ := hH h0 _ k_h0
          refine va_callv (va_runV (As := [.int 41]) (rest := []) ⟨hx, hb, hml, hown, hts⟩ (c_X12_need l g Ty G_110 H.size h0 41 k_h0 (rg_w rl_41 (by decide) (by decide)) rd nn rdf askf len top isA M xa_112 xw_113 hPE_114) (cwV 1 hts (gwV mw_1471 mw_1473 mw_41 mw_88 mw_1474) rfl rfl rfl hv_X12_need ⟨by show 2 + 1 ≤ 6 + 4 * (nr + 1); omega, by show 21 + 41 ≤ 200 + 93 * (nr + 1); omega⟩) ⟨PcT_blind, hg_recv hK o_c_117 rfl, PcT_pre hK hH⟩ rfl rfl hl.1 rfl (lv_room (Nat.le_of_ble_eq_true rfl)) dX12_thing_62 ⟨Nat.zero_le _, Nat.zero_le _⟩) hS (fun q _ h => AF.mono hS.1 h) (fun q h => AF.mono hS.1 h) (fun ux_120 t H locs ht hvm hx_120 hB hz hk hS => ?_)
          obtain ⟨eTx_120, eGx_120⟩ := hx_120
          obtain ⟨G_121, eG_121⟩ : ∃ z, z = ux_120.2 := ⟨_, rfl⟩
          rw [← eG_121] at eGx_120
          obtain ⟨hg_k_122, hm_k_122, hq_k_122⟩ := eGx_120
          obtain ⟨xa_123, exa_123⟩ : ∃ z : Int32, z = (F_X12_need rdf askf len top isA (41 : Int32) xa_112 xw_113).2.1 := ⟨_, rfl⟩
          obtain ⟨xw_124, exw_124⟩ : ∃ z : Int32, z = (F_X12_need rdf askf len top isA (41 : Int32) xa_112 xw_113).2.2 := ⟨_, rfl⟩
          rw [← exa_123] at hg_k_122 hm_k_122 hq_k_122
          rw [← exw_124] at hg_k_122
          have hPE_125 : PE g Ty G_121 rd nn rdf askf len top isA M xa_123 xw_124 := PE.ps hPE_114 hg_k_122 hq_k_122
          have hp_126 : G_121 = pst G xa_123 xw_124 := pst_pst hg_k_122 hp_115
          have hmo_127 : at0.toInt ≤ (xa_123 : Int32).toInt := Int.le_trans hmo_116 hm_k_122
          have hH : HT g Ty G_121 H := by rw [← ht, ← eTx_120, eG_121]; exact hB
          have hv : (x_109, xa_123, xw_124) = F_X12_thing rdf askf len top isA (nr + 1) a0 at0 wr0 := by have q := bn3_tov exa_123 exw_124 hv; exact q
          refine lv_iload_n hx hb dX12_thing_65 rfl (lv_at hl 0 rfl) ?_
          exact W.iret hx hb hr (fun t ht hWm => ⟨⟨x_109, (Ty, G_121), rfl, ⟨rfl, PR.mk hv hp_126 hmo_127 (PE.ra hPE_125)⟩, by show HT g Ty G_121 t.heap; rw [ht]; exact hH⟩, hS.F ht⟩) hS.2.2 dX12_thing_66
    · rw [if_pos c_18] at hv
      have r_128 : rgI (0) (0) x_17 := rg_w (rg_eq rl_0 c_18) (by decide) (by decide)
      refine lv_iconst (v := 0) hx hb dX12_thing_23 (by decide) ?_
      exact W.iret hx hb hr (fun t ht hWm => ⟨⟨0, (Ty, G_5), rfl, ⟨rfl, PR.mk hv hp_10 hmo_11 (PE.ra hPE_9)⟩, by show HT g Ty G_5 t.heap; rw [ht]; exact hH⟩, hS.F ht⟩) hS.2.2 dX12_thing_24
  · rw [if_neg c_12] at hv
    have hps_129 := (hx_4.2).resolve_left c_12
    have r_130 : rgI (1) (1) x_4 := rg_w (rg_neL rx_4 rl_0 c_12) (by decide) (by decide)
    refine lv_aload_n hx hb dX12_thing_9 rfl (lv_at hl 0 rfl) ?_
    refine lv_iload_n hx hb dX12_thing_10 rfl (lv_at hl 1 rfl) ?_
    obtain ⟨_, ⟨rfl, t_132, hk_133⟩, o_c_131⟩ := hH h0 _ k_h0
    refine va_calli (va_runV (As := [.int a0]) (rest := []) ⟨hx, hb, hml, hown, hts⟩ (hth Ty G_5 H.size h0 a0 k_h0 rd nn rdf askf len top isA M xa_7 xw_8 hPE_9 (by have q0 := (PE.ra8 hPE).2; have q1 := hmz; have q2 := hmo_11; have q3 := hps_129; omega)) (cwV 1 hts (gwV mw_1455 mw_1457 mw_37 mw_88 mw_1458) rfl rfl rfl hv_X12_thing ⟨by show (6 + 4 * nr) + 1 ≤ 6 + 4 * (nr + 1); omega, by show 23 + (200 + 93 * nr) ≤ 200 + 93 * (nr + 1); omega⟩) ⟨PcT_blind, hg_recv hK o_c_131 rfl, PcT_pre hK hH⟩ rfl rfl hl.1 rfl (lv_room (Nat.le_of_ble_eq_true rfl)) dX12_thing_11 ⟨Nat.zero_le _, Nat.zero_le _⟩) hS (fun q _ h => AF.mono hS.1 h) (fun q h => AF.mono hS.1 h) (fun x_134 ux_134 t H locs ht hvm hx_134 hB hz hk hS => ?_)
    obtain ⟨eTx_134, eGx_134⟩ := hx_134
    obtain ⟨G_135, eG_135⟩ : ∃ z, z = ux_134.2 := ⟨_, rfl⟩
    rw [← eG_135] at eGx_134
    obtain ⟨hr_k_136, hg_k_136, hm_k_136, hq_k_136⟩ := eGx_134
    obtain ⟨xa_137, exa_137⟩ : ∃ z : Int32, z = (F_X12_thing rdf askf len top isA nr a0 xa_7 xw_8).2.1 := ⟨_, rfl⟩
    obtain ⟨xw_138, exw_138⟩ : ∃ z : Int32, z = (F_X12_thing rdf askf len top isA nr a0 xa_7 xw_8).2.2 := ⟨_, rfl⟩
    rw [← exa_137] at hg_k_136 hm_k_136 hq_k_136
    rw [← exw_138] at hg_k_136
    have hPE_139 : PE g Ty G_135 rd nn rdf askf len top isA M xa_137 xw_138 := PE.ps hPE_9 hg_k_136 hq_k_136
    have hp_140 : G_135 = pst G xa_137 xw_138 := pst_pst hg_k_136 hp_10
    have hmo_141 : at0.toInt ≤ (xa_137 : Int32).toInt := Int.le_trans hmo_11 hm_k_136
    have hps_142 := Int.lt_of_lt_of_le hps_129 hm_k_136
    have hH : HT g Ty G_135 H := by rw [← ht, ← eTx_134, eG_135]; exact hB
    have hv : ((-x_134), xa_137, xw_138) = F_X12_thing rdf askf len top isA (nr + 1) a0 at0 wr0 := by have q := bn3_to hr_k_136 exa_137 exw_138 hv; exact q
    refine lv_ineg hx hb dX12_thing_14 ?_
    refine lv_topi (fun x_143 ex_143 => ?_)
    try rw [← ex_143] at hv
    exact W.iret hx hb hr (fun t ht hWm => ⟨⟨x_143, (Ty, G_135), rfl, ⟨rfl, PR.mk hv hp_140 hmo_141 (PE.ra hPE_139)⟩, by show HT g Ty G_135 t.heap; rw [ht]; exact hH⟩, hS.F ht⟩) hS.2.2 dX12_thing_15

theorem c_X12_thing (l : Launch) (g : Gx) : ∀ nr, TH_X12 l g nr := by
  intro nr
  induction nr with
  | zero => intro Ty G sz h0 a0 k_h0 rd nn rdf askf len top isA M at0 wr0 hPE hmz; exact absurd hmz (Nat.not_lt_zero _)
  | succ nr ih => intro Ty G sz h0 a0 k_h0 rd nn rdf askf len top isA M at0 wr0 hPE hmz; exact c_X12_thing_s l g nr ih Ty G sz h0 a0 k_h0 rd nn rdf askf len top isA M at0 wr0 hPE hmz
