/-! ===== reading paths and days ===== -/
theorem pst109 {G G1 : Gh} {a w : Int32} (h : G1 = pst G a w) : G1.1 109 = a := by rw [h]; unfold pst; rw [gs_ne (by decide), gs_eq]
theorem pst110 {G G1 : Gh} {a w : Int32} (h : G1 = pst G a w) : G1.1 110 = w := by rw [h]; unfold pst; rw [gs_eq]
/-- nothing was wrong, or it was at a place -/
def WR (w : Int32) : Prop := w = -1 ∨ 0 ≤ w.toInt
theorem one_is {rdf askf : Nat → Int32} {len top isA c n a w : Int32} {s : Int32 × Int32 × Int32} (e : s = F_X12_oneOf rdf askf len top isA c n a w) (ha : rgI 0 80 a) : s.2.1.toInt ≤ a.toInt + 1 ∧ a.toInt ≤ s.2.1.toInt ∧ (s.2.2 = -1 → s.2.1.toInt = a.toInt + 1 ∧ w = -1) ∧ (WR w → WR s.2.2) := by
  have h1 := ha.1; have h2 := ha.2
  have e1 : (a + 1).toInt = a.toInt + 1 := ti_add (y := 1) (by show _ ≤ a.toInt + 1; omega) (by show a.toInt + 1 ≤ _; omega)
  have na : ¬ a = -1 := nh_pos ha (by decide)
  have hf : ∀ x y, F_X12_fine rdf askf len top isA x y = if y = -1 then 1 else 0 := fun x y => rfl
  subst e
  unfold F_X12_oneOf
  by_cases c1 : w = -1
  · rw [hf, if_pos c1, if_neg (by decide)]
    by_cases c2 : F_X12_in (F_X12_here rdf askf len top isA a w) c (c + n - 1) = 0
    · rw [if_pos c2]
      unfold F_X12_fault bn3
      rw [hf, if_pos c1, if_neg (by decide)]
      exact ⟨by show a.toInt ≤ _; omega, Int.le_refl _, fun q => absurd q na, fun _ => Or.inr h1⟩
    · rw [if_neg c2]
      exact ⟨by show (a + 1).toInt ≤ _; omega, by show _ ≤ (a + 1).toInt; omega, fun _ => ⟨e1, c1⟩, fun h => h⟩
  · rw [hf, if_neg c1, if_pos rfl]
    exact ⟨by show a.toInt ≤ _; omega, Int.le_refl _, fun q => absurd q c1, fun h => h⟩
theorem flt_is {rdf askf : Nat → Int32} {len top isA p a w : Int32} {s : Int32 × Int32 × Int32} (e : s = F_X12_fault rdf askf len top isA p a w) (hp : rgI 0 80 p) : s.2.1 = a ∧ ¬ s.2.2 = -1 ∧ (WR w → WR s.2.2) := by
  have hf : ∀ x y, F_X12_fine rdf askf len top isA x y = if y = -1 then 1 else 0 := fun x y => rfl
  subst e
  unfold F_X12_fault
  by_cases c1 : w = -1
  · rw [hf, if_pos c1, if_neg (by decide)]
    exact ⟨rfl, nh_pos hp (by decide), fun _ => Or.inr hp.1⟩
  · rw [hf, if_neg c1, if_pos rfl]
    exact ⟨rfl, c1, fun h => h⟩
theorem pas_is {rdf askf : Nat → Int32} {len top isA c a w : Int32} {s : Int32 × Int32 × Int32} (e : s = F_X12_passes rdf askf len top isA c a w) (ha : rgI 0 80 a) : s.2.2 = w ∧ (s.1 = 0 ∧ s.2.1 = a ∨ ¬ s.1 = 0 ∧ s.2.1.toInt = a.toInt + 1 ∧ w = -1) := by
  have h1 := ha.1; have h2 := ha.2
  have e1 : (a + 1).toInt = a.toInt + 1 := ti_add (y := 1) (by show _ ≤ a.toInt + 1; omega) (by show a.toInt + 1 ≤ _; omega)
  have hf : ∀ x y, F_X12_fine rdf askf len top isA x y = if y = -1 then 1 else 0 := fun x y => rfl
  subst e
  unfold F_X12_passes
  by_cases c1 : w = -1
  · rw [hf, if_pos c1, if_neg (by decide)]
    by_cases c2 : F_X12_here rdf askf len top isA a w = c
    · rw [if_pos c2]; exact ⟨rfl, Or.inr ⟨by show ¬ (1 : Int32) = 0; decide, e1, c1⟩⟩
    · rw [if_neg c2]; exact ⟨rfl, Or.inl ⟨rfl, rfl⟩⟩
  · rw [hf, if_neg c1, if_pos rfl]; exact ⟨rfl, Or.inl ⟨rfl, rfl⟩⟩
theorem wsr_is {rdf askf : Nat → Int32} {len top isA a w : Int32} {s : Int32 × Int32 × Int32} (e : s = F_X12_wasRight rdf askf len top isA a w) (ha : rgI 0 80 a) : s.2.1 = a ∧ (WR w → WR s.2.2) ∧ (¬ s.1 = 0 → w = -1 ∧ s.2.2 = -1) ∧ (s.1 = 0 → ¬ s.2.2 = -1) := by
  have hf : ∀ x y, F_X12_fine rdf askf len top isA x y = if y = -1 then 1 else 0 := fun x y => rfl
  subst e
  unfold F_X12_wasRight
  by_cases c : len ≤ a
  · rw [if_pos c]
    refine ⟨rfl, fun h => h, fun h => ?_, fun h => ?_⟩
    · by_cases q : w = -1
      · exact ⟨q, q⟩
      · exact absurd (by rw [hf, if_neg q]) h
    · show ¬ w = -1
      intro q
      have h : F_X12_fine rdf askf len top isA a w = 0 := h
      rw [hf, if_pos q] at h
      exact absurd h (by decide)
  · rw [if_neg c]
    obtain ⟨f1, f2, f3⟩ := flt_is (rdf := rdf) (askf := askf) (len := len) (top := top) (isA := isA) (p := a) (a := a) (w := w) rfl ha
    unfold bn3
    refine ⟨f1, f3, fun h => absurd ?_ h, fun _ => f2⟩
    show F_X12_fine rdf askf len top isA (F_X12_fault rdf askf len top isA a a w).2.1 (F_X12_fault rdf askf len top isA a a w).2.2 = 0
    rw [hf, if_neg f2]
theorem fin_1 {rdf askf : Nat → Int32} {len top isA a w x : Int32} (e : x = F_X12_fine rdf askf len top isA a w) (h : ¬ x = 0) : w = -1 := by
  have hf : F_X12_fine rdf askf len top isA a w = if w = -1 then 1 else 0 := rfl
  by_cases q : w = -1
  · exact q
  · rw [e, hf, if_neg q] at h; exact absurd rfl h
theorem fin_0 {rdf askf : Nat → Int32} {len top isA a w x : Int32} (e : x = F_X12_fine rdf askf len top isA a w) (h : x = 0) : ¬ w = -1 := fun q => by
  have hf : F_X12_fine rdf askf len top isA a w = if w = -1 then 1 else 0 := rfl
  rw [e, hf, if_pos q] at h; exact absurd h (by decide)
/-- a path among the letters: it ends -/
def PSt (L : Nat → Int32) (lm : Int) (x : Int32) : Prop := 0 ≤ x.toInt ∧ ∃ e : Nat, x.toInt < (e : Int) ∧ (e : Int) < lm ∧ e < 160 ∧ L e = 4
theorem PSt.up {L L' : Nat → Int32} {lm lm' : Int} {x : Int32} (h : PSt L lm x) (hl : lm ≤ lm') (e : ∀ j : Nat, (j : Int) < lm → L' j = L j) : PSt L' lm' x := by
  obtain ⟨a, k, b, c, d, f⟩ := h
  exact ⟨a, k, b, by omega, d, by rw [e k c]; exact f⟩
def AOK (L A : Nat → Int32) (lm : Int) (k : Nat) : Prop := PSt L lm (A (k + 1)) ∧ (A k = 109 ∨ A k = 117 ∨ A k = 107 ∨ PSt L lm (A (k + 2)))
theorem AOK.up {L L' A A' : Nat → Int32} {lm lm' : Int} {k : Nat} (h : AOK L A lm k) (hl : lm ≤ lm') (e : ∀ j : Nat, (j : Int) < lm → L' j = L j) (ea : A' k = A k ∧ A' (k + 1) = A (k + 1) ∧ A' (k + 2) = A (k + 2)) : AOK L' A' lm' k := by
  obtain ⟨a, b⟩ := h
  unfold AOK
  rw [ea.1, ea.2.1, ea.2.2]
  exact ⟨a.up hl e, b.imp (fun z => z) (fun b => b.imp (fun z => z) (fun b => b.imp (fun z => z) (fun b => b.up hl e)))⟩
/-- on the way through the letters of a path -/
def RP7 (L cur : Nat → Int32) (lm0 lm at0 a : Int32) : Prop := (∀ j : Nat, (j : Int) < lm0.toInt → cur j = L j) ∧ lm0.toInt ≤ lm.toInt ∧ lm.toInt + at0.toInt ≤ lm0.toInt + a.toInt
def RPE (L cur : Nat → Int32) (lm0 lm at0 a w : Int32) : Prop := (∀ j : Nat, (j : Int) < lm0.toInt → cur j = L j) ∧ lm0.toInt < lm.toInt ∧ lm.toInt + at0.toInt ≤ lm0.toInt + a.toInt + 1 ∧ (w = -1 → lm.toInt + at0.toInt ≤ lm0.toInt + a.toInt)
theorem rp_ix {L cur : Nat → Int32} {lm0 lm at0 a : Int32} (h : RP7 L cur lm0 lm at0 a) (h0 : 0 ≤ lm0.toInt) (hl : lm0.toInt ≤ at0.toInt + 1) (ha : rgI 0 80 a) : rgI 0 81 lm := by
  obtain ⟨-, b, c⟩ := h
  have := ha.2
  exact ⟨by omega, by omega⟩
theorem rp_s {L cur cur1 : Nat → Int32} {lm0 lm lm1 at0 a a1 w1 v : Int32} (h : RP7 L cur lm0 lm at0 a) (h0 : 0 ≤ lm0.toInt) (hl : lm0.toInt ≤ at0.toInt + 1) (ha : rgI 0 80 a) (e : cur1 = upd cur lm.toNatClampNeg v) (e1 : lm1 = lm + 1) (ho : a1.toInt ≤ a.toInt + 1 ∧ a.toInt ≤ a1.toInt ∧ (w1 = -1 → a1.toInt = a.toInt + 1)) : RPE L cur1 lm0 lm1 at0 a1 w1 := by
  have hr := rp_ix h h0 hl ha
  have r1 := hr.1; have r2 := hr.2
  obtain ⟨a', b, c⟩ := h
  have q : lm1.toInt = lm.toInt + 1 := by rw [e1]; exact ti_add (y := 1) (by show _ ≤ lm.toInt + 1; omega) (by show lm.toInt + 1 ≤ _; omega)
  have hn := cl_nat r1
  refine ⟨fun j hj => by rw [e, upd_ne (by omega)]; exact a' j hj, by omega, by omega, fun w => ?_⟩
  have := ho.2.2 w
  omega
theorem RPE.b {L cur : Nat → Int32} {lm0 lm at0 a w : Int32} (h : RPE L cur lm0 lm at0 a w) (hw : w = -1) : RP7 L cur lm0 lm at0 a := ⟨h.1, Int.le_of_lt h.2.1, h.2.2.2 hw⟩
theorem RPE.ix {L cur : Nat → Int32} {lm0 lm at0 a w : Int32} (h : RPE L cur lm0 lm at0 a w) (h0 : 0 ≤ lm0.toInt) (hl : lm0.toInt ≤ at0.toInt + 1) (ha : rgI 0 80 a) : rgI 1 82 lm := by
  obtain ⟨-, b, c, -⟩ := h
  have := ha.2
  exact ⟨by omega, by omega⟩
/-- what readPath leaves -/
def RPO (L L' : Nat → Int32) (lm0 lm at0 a w : Int32) : Prop := (∀ j : Nat, (j : Int) < lm0.toInt → L' j = L j) ∧ PSt L' lm.toInt lm0 ∧ lm0.toInt < lm.toInt ∧ lm.toInt + at0.toInt ≤ lm0.toInt + a.toInt + 2 ∧ (w = -1 → lm.toInt + at0.toInt ≤ lm0.toInt + a.toInt + 1)
theorem rp_e {L cur cur1 : Nat → Int32} {lm0 lm lm1 at0 a w : Int32} (h : RPE L cur lm0 lm at0 a w) (h0 : 0 ≤ lm0.toInt) (hl : lm0.toInt ≤ at0.toInt + 1) (ha : rgI 0 80 a) (e : cur1 = upd cur lm.toNatClampNeg (vp_nar .byte 4)) (e1 : lm1 = lm + 1) : RPO L cur1 lm0 lm1 at0 a w := by
  have hr := h.ix h0 hl ha
  have r1 := hr.1; have r2 := hr.2
  obtain ⟨a', b, c, d⟩ := h
  have q : lm1.toInt = lm.toInt + 1 := by rw [e1]; exact ti_add (y := 1) (by show _ ≤ lm.toInt + 1; omega) (by show lm.toInt + 1 ≤ _; omega)
  have hn := cl_nat (x := lm) (by omega)
  refine ⟨fun j hj => by rw [e, upd_ne (by omega)]; exact a' j hj, ⟨h0, lm.toNatClampNeg, by omega, by omega, by omega, by rw [e, upd_eq]; rfl⟩, by omega, by omega, fun w => ?_⟩
  have := d w
  omega
/-- on the way of a path -/
theorem gp_ix {L : Nat → Int32} {x n i : Int32} {e : Nat} (hx : 0 ≤ x.toInt) (h : x.toInt + n.toInt ≤ (e : Int)) (he : e < 160) (hn : 1 ≤ n.toInt) (ei : i = x + n) : rgI 0 159 i ∧ i.toInt = x.toInt + n.toInt := by
  have q : i.toInt = x.toInt + n.toInt := by rw [ei]; exact ti_add (by omega) (by omega)
  exact ⟨⟨by omega, by omega⟩, q⟩
theorem gp_s {L : Nat → Int32} {x n n1 i v : Int32} {e : Nat} (hx : 0 ≤ x.toInt) (h : x.toInt + n.toInt ≤ (e : Int)) (he : e < 160) (hL : L e = 4) (hn : 1 ≤ n.toInt) (ei : i = x + n) (ev : v = L i.toNatClampNeg) (c : ¬ v = 4) (e1 : n1 = n + 1) : x.toInt + n1.toInt ≤ (e : Int) ∧ 1 ≤ n1.toInt ∧ n1.toInt = n.toInt + 1 := by
  obtain ⟨r, q⟩ := gp_ix (L := L) hx h he hn ei
  have q1 : n1.toInt = n.toInt + 1 := by rw [e1]; exact ti_add (y := 1) (by show _ ≤ n.toInt + 1; omega) (by show n.toInt + 1 ≤ _; omega)
  have : x.toInt + n.toInt ≠ (e : Int) := fun z => c (by
    have : i.toNatClampNeg = e := cl_of (by omega)
    rw [ev, this]; exact hL)
  exact ⟨by omega, by omega, q1⟩
theorem at_thr {f : Nat → Int32} {m d k : Int32} (hm : thr f m) (e : k = F_X12_atOf f m d) (c : ¬ k = 24) : thr f k := by
  obtain ⟨a, b, -⟩ := atOf_is e c
  exact ⟨rg_w a (by decide) (by decide), by rw [b]; exact thr_ne hm⟩
theorem thr_0 {f : Nat → Int32} {ρ : Nat → Nat} (h : P1 f ρ) : thr f 0 := ⟨⟨by decide, by decide⟩, by show ¬ f 0 = -1; rw [h.1]; decide⟩
theorem one_pr {G0 G1 : Gh} {rdf askf : Nat → Int32} {len top isA c n a w r : Int32} {M : Int} (h : PR G0 G1 r a M (F_X12_oneOf rdf askf len top isA c n a w)) (ha : rgI 0 80 a) : (G1.1 109).toInt ≤ a.toInt + 1 ∧ a.toInt ≤ (G1.1 109).toInt ∧ (G1.1 110 = -1 → (G1.1 109).toInt = a.toInt + 1 ∧ w = -1) ∧ (WR w → WR (G1.1 110)) := by
  rw [pst109 h.2.1, pst110 h.2.1]; exact one_is rfl ha
theorem flt_pr {G0 G1 : Gh} {rdf askf : Nat → Int32} {len top isA p a w : Int32} {M : Int} (h : PRv G0 G1 a M (F_X12_fault rdf askf len top isA p a w)) (hp : rgI 0 80 p) : G1.1 109 = a ∧ ¬ G1.1 110 = -1 ∧ (WR w → WR (G1.1 110)) := by
  rw [pst109 h.1, pst110 h.1]; exact flt_is rfl hp
theorem pas_pr {G0 G1 : Gh} {rdf askf : Nat → Int32} {len top isA c a w r : Int32} {M : Int} (h : PR G0 G1 r a M (F_X12_passes rdf askf len top isA c a w)) (ha : rgI 0 80 a) : G1.1 110 = w ∧ (r = 0 ∧ G1.1 109 = a ∨ ¬ r = 0 ∧ (G1.1 109).toInt = a.toInt + 1 ∧ w = -1) := by
  rw [pst109 h.2.1, pst110 h.2.1, h.1]; exact pas_is rfl ha
theorem wsr_pr {G0 G1 : Gh} {rdf askf : Nat → Int32} {len top isA a w r : Int32} {M : Int} (h : PR G0 G1 r a M (F_X12_wasRight rdf askf len top isA a w)) (ha : rgI 0 80 a) : G1.1 109 = a ∧ (WR w → WR (G1.1 110)) ∧ (¬ r = 0 → w = -1 ∧ G1.1 110 = -1) ∧ (r = 0 → ¬ G1.1 110 = -1) := by
  rw [pst109 h.2.1, pst110 h.2.1, h.1]; exact wsr_is rfl ha
