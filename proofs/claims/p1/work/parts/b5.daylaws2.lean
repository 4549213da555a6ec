/-! ===== a day ===== -/
def DY (L A : Nat → Int32) (n lm a w : Int32) : Prop := 0 ≤ n.toInt ∧ n.toInt ≤ 81 ∧ (w = -1 → n.toInt ≤ a.toInt ∧ 0 ≤ lm.toInt ∧ lm.toInt ≤ a.toInt ∧ ∀ i : Nat, (i : Int) < n.toInt → AOK L A lm.toInt (4 * i))
theorem DY_0 {L A : Nat → Int32} {lm a w : Int32} (hl : lm.toInt = 0) (ha : 0 ≤ a.toInt) : DY L A 0 lm a w := ⟨by decide, by decide, fun _ => ⟨by show (0 : Int) ≤ _; omega, by omega, by omega, fun i hi => absurd hi (by show ¬ (i : Int) < 0; omega)⟩⟩
theorem dy_n {L A : Nat → Int32} {n lm a w k : Int32} (h : DY L A n lm a w) (hw : w = -1) (hl : a < k) (hk : rgI 0 80 k) : rgI 0 79 n := by
  have := (h.2.2 hw).1; have := fz_lt.mp hl; have := hk.2; have := h.1
  exact ⟨by omega, by omega⟩
theorem m4 {n z : Int32} (hn : rgI 0 79 n) (ez : z = 4 * n) : z.toNatClampNeg = 4 * n.toNatClampNeg := by
  have a := hn.1; have b := hn.2
  have c := cl_nat a
  exact cl_of (by rw [ez, ti_mul (x := 4) (by show _ ≤ 4 * n.toInt; omega) (by show 4 * n.toInt ≤ _; omega)]; show 4 * n.toInt = _; omega)
theorem dy_s {L L' A A' : Nat → Int32} {n n1 lm lm' a a' w w' z : Int32} (h : DY L A n lm a w) (hw : w = -1) (r : RAO L L' A A' lm lm' a a' w' z.toNatClampNeg) (hn : rgI 0 79 n) (ez : z = 4 * n) (e1 : n1.toInt = n.toInt + 1) : DY L' A' n1 lm' a' w' := by
  obtain ⟨h1, h2, h3⟩ := h
  obtain ⟨b1, b2, b3, b4⟩ := h3 hw
  obtain ⟨r1, r2, r3, r4, r5, r6, r7, r8⟩ := r
  have hz := m4 hn ez
  have hnn := cl_nat hn.1
  have := hn.2
  rw [hz] at r3 r8
  refine ⟨by omega, by omega, fun q => ?_⟩
  obtain ⟨s1, s2, s3⟩ := r8 q
  refine ⟨by omega, by omega, s2, fun i hi => ?_⟩
  by_cases c : i = n.toNatClampNeg
  · rw [c]; exact s3
  · exact (b4 i (by omega)).up r1 r2 ⟨r3 _ (Or.inl (by omega)), r3 _ (Or.inl (by omega)), r3 _ (Or.inl (by omega))⟩
def dyM (a w : Int32) : Nat := if w = -1 then 82 - a.toInt.toNat else 0
theorem dy_d {L L' A A' : Nat → Int32} {lm lm' a a' w w' : Int32} {k n : Nat} (r : RAO L L' A A' lm lm' a a' w' k) (hw : w = -1) (ha : rgI 0 80 a) (hm : dyM a w < n + 1) : dyM a' w' < n := by
  have h1 := ha.1; have h2 := ha.2
  unfold dyM at hm ⊢
  rw [if_pos hw] at hm
  split
  · rename_i q
    have := (r.2.2.2.2.2.2.2 q).1
    have := r.2.2.2.2.1.2
    omega
  · omega
theorem aok_4 {L A : Nat → Int32} {lm : Int} {n d z : Int32} (h : ∀ i : Nat, (i : Int) < n.toInt → AOK L A lm (4 * i)) (hd : rgI 0 79 d) (c : d.toInt < n.toInt) (ez : z = 4 * d) : AOK L A lm z.toNatClampNeg := by
  rw [m4 hd ez]; exact h _ (by rw [cl_nat hd.1]; exact c)
