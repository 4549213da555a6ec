def F_X5_farthest (a0 : Int32) : Int32 := (a0 / (5 : Int32))
set_option maxHeartbeats 4000000 in
set_option maxRecDepth 100000 in
theorem c_X5_farthest_x (l : Launch) (g : Gx) (Ty : TyM) (G : Gh) (a0 : Int32) : Met l yX5_farthest (wsG yX5_farthest cX5_farthest 1 (some .int)) ({ frames := 0, cells := 0, slots := 0, locals := 0 }) (PcH g Ty G [.int a0]) (vp_Si (fun r => r = F_X5_farthest a0)) 0 0 (fun _ => False) := by
  refine Met.ofW (cc := cX5_farthest) (maxL := 1) (ret := (some .int)) (by decide) rfl ?_
  intro p e s m args below meth c s₁ B hml hv
  obtain ⟨rfl, hK, hH⟩ := hv
  have hx := B.exec
  have hb := B.bytes
  have hr := B.returns
  have hts := atoms_spec (ws := (wsG yX5_farthest cX5_farthest 1 (some .int))) B.pre
  have hG : ∀ w ∈ GW, w.before ([.int a0] : List Value).toArray s = true := fun w h => hts w (List.mem_cons_of_mem _ h)
  have hown : s.vm.findClass RX5 = some m.cls := findClass_of_methodNamed B.named
  have hlocks := B.notSynchronized
  have hl := lv_entry [.int a0] (n := 1) (Nat.le_of_ble_eq_true rfl)
  rw [lg_entry_eq]
  generalize (lg_sl [.int a0] ++ List.replicate (1 - (lg_sl [.int a0]).length) Slot.unset).toArray = ls at hl ⊢
  have hl : lv_has ls 1 [(0, .int a0)] := hl
  have hv : (a0 / (5 : Int32)) = F_X5_farthest a0 := rfl
  refine lv_iload_n hx hb dX5_farthest_0 rfl (lv_at hl 0 rfl) ?_
  refine lv_iconst (v := 5) hx hb dX5_farthest_1 (by decide) ?_
  refine lv_idiv hx hb dX5_farthest_2 (by decide) ?_
  refine lv_topi (fun x_1 ex_1 => ?_)
  try rw [← ex_1] at hv
  exact W.iret hx hb hr (fun t ht hW => ⟨x_1, rfl, hv, ht⟩) (fun q h => by cases h) dX5_farthest_3

def F_X5_fewest (a0 : Int32) : Int32 := (jrem a0 (5 : Int32))
set_option maxHeartbeats 4000000 in
set_option maxRecDepth 100000 in
theorem c_X5_fewest_x (l : Launch) (g : Gx) (Ty : TyM) (G : Gh) (a0 : Int32) : Met l yX5_fewest (wsG yX5_fewest cX5_fewest 1 (some .int)) ({ frames := 0, cells := 0, slots := 0, locals := 0 }) (PcH g Ty G [.int a0]) (vp_Si (fun r => r = F_X5_fewest a0)) 0 0 (fun _ => False) := by
  refine Met.ofW (cc := cX5_fewest) (maxL := 1) (ret := (some .int)) (by decide) rfl ?_
  intro p e s m args below meth c s₁ B hml hv
  obtain ⟨rfl, hK, hH⟩ := hv
  have hx := B.exec
  have hb := B.bytes
  have hr := B.returns
  have hts := atoms_spec (ws := (wsG yX5_fewest cX5_fewest 1 (some .int))) B.pre
  have hG : ∀ w ∈ GW, w.before ([.int a0] : List Value).toArray s = true := fun w h => hts w (List.mem_cons_of_mem _ h)
  have hown : s.vm.findClass RX5 = some m.cls := findClass_of_methodNamed B.named
  have hlocks := B.notSynchronized
  have hl := lv_entry [.int a0] (n := 1) (Nat.le_of_ble_eq_true rfl)
  rw [lg_entry_eq]
  generalize (lg_sl [.int a0] ++ List.replicate (1 - (lg_sl [.int a0]).length) Slot.unset).toArray = ls at hl ⊢
  have hl : lv_has ls 1 [(0, .int a0)] := hl
  have hv : (jrem a0 (5 : Int32)) = F_X5_fewest a0 := rfl
  refine lv_iload_n hx hb dX5_fewest_0 rfl (lv_at hl 0 rfl) ?_
  refine lv_iconst (v := 5) hx hb dX5_fewest_1 (by decide) ?_
  refine lv_irem hx hb dX5_fewest_2 (by decide) ?_
  refine lv_topi (fun x_1 ex_1 => ?_)
  try rw [← ex_1] at hv
  try rw [show jrem a0 5 = x_1 from ex_1.symm] at hv
  exact W.iret hx hb hr (fun t ht hW => ⟨x_1, rfl, hv, ht⟩) (fun q h => by cases h) dX5_fewest_3

/-! ===== laws that fit what was seen ===== -/
/-- whether a copy comes by law x to one n steps off that is parent of k -/
def cnd (n k x : Int32) : Bool := !decide (x / (5 : Int32) < n) && !decide (k < jrem x (5 : Int32))
theorem comes_cnd {x n k : Int32} : F_X12_comesBy x n k = if cnd n k x then 1 else 0 := by
  unfold F_X12_comesBy cnd
  by_cases a : x / (5 : Int32) < n
  · simp [a]
  · by_cases b : k < jrem x (5 : Int32)
    · simp [a, b]
    · simp [a, b]
def brN (n k : Int32) : Nat → Nat
  | 0 => 0
  | j + 1 => brN n k j + (if cnd n k (nI j) then 2 ^ j else 0)
theorem brN_lt (n k : Int32) : ∀ j, brN n k j < 2 ^ j
  | 0 => by show 0 < 1; decide
  | j + 1 => by
    have h := brN_lt n k j
    have e : brN n k (j + 1) = brN n k j + (if cnd n k (nI j) then 2 ^ j else 0) := rfl
    have p : 2 ^ (j + 1) = 2 ^ j + 2 ^ j := by rw [Nat.pow_succ]; omega
    rw [e, p]
    split <;> omega
theorem brN_tb (n k : Int32) : ∀ i j, (brN n k i).testBit j = (decide (j < i) && cnd n k (nI j))
  | 0, j => by simp [brN]
  | i + 1, j => by
    have hl := brN_lt n k i
    have ih := brN_tb n k i j
    have e : brN n k (i + 1) = brN n k i + (if cnd n k (nI i) then 2 ^ i else 0) := rfl
    rcases Nat.lt_trichotomy j i with h | h | h
    · have d1 : decide (j < i + 1) = true := decide_eq_true (by omega)
      have d2 : decide (j < i) = true := decide_eq_true h
      rw [d1, Bool.true_and, e]
      rw [d2, Bool.true_and] at ih
      split
      · rw [Nat.add_comm, Nat.testBit_two_pow_add_gt h]; exact ih
      · rw [Nat.add_zero]; exact ih
    · subst h
      have d1 : decide (j < j + 1) = true := decide_eq_true (by omega)
      rw [d1, Bool.true_and, e]
      have hz : (brN n k j).testBit j = false := Nat.testBit_lt_two_pow hl
      by_cases c : cnd n k (nI j) = true
      · rw [if_pos c, Nat.add_comm, Nat.testBit_two_pow_add_eq, hz, c]; rfl
      · rw [if_neg c, Nat.add_zero, hz]
        exact (Bool.eq_false_iff.mpr c).symm
    · have d1 : decide (j < i + 1) = false := decide_eq_false (by omega)
      rw [d1, Bool.false_and]
      have hl2 := brN_lt n k (i + 1)
      exact Nat.testBit_lt_two_pow (Nat.lt_of_lt_of_le hl2 (Nat.pow_le_pow_right (by decide) (by omega)))
def cmN (N K A : Nat → Int32) (i : Nat) : Nat := if A i = 1 then brN (N i) (K i) 35 else 34359738367 ^^^ brN (N i) (K i) 35
def ftN (N K A : Nat → Int32) : Nat → Nat
  | 0 => 34359738367
  | i + 1 => ftN N K A i &&& cmN N K A i
def alB (p : Nat → Bool) : Nat → Bool
  | 0 => true
  | i + 1 => alB p i && p i
theorem alB_t {p : Nat → Bool} : ∀ m, (∀ i, i < m → p i = true) → alB p m = true
  | 0, _ => rfl
  | m + 1, h => by unfold alB; rw [alB_t m (fun i hi => h i (by omega)), h m (by omega)]; rfl
theorem alB_f {p : Nat → Bool} {i : Nat} : ∀ m, i < m → p i = false → alB p m = false
  | 0, h, _ => absurd h (by omega)
  | m + 1, h, q => by
    unfold alB
    by_cases e : i = m
    · subst e; rw [q, Bool.and_false]
    · rw [alB_f m (by omega) q, Bool.false_and]
section FTs
variable {N K A : Nat → Int32}
theorem ftN_le : ∀ m, ftN N K A m ≤ 34359738367
  | 0 => Nat.le_refl _
  | m + 1 => Nat.le_trans Nat.and_le_left (ftN_le m)
theorem cm_tb {j : Nat} (i : Nat) : (cmN N K A i).testBit j = (decide (j < 35) && (cnd (N i) (K i) (nI j) == decide (A i = 1))) := by
  unfold cmN
  have e : (34359738367 : Nat).testBit j = decide (j < 35) := Nat.testBit_two_pow_sub_one 35 j
  by_cases c : A i = 1
  · rw [if_pos c, brN_tb, decide_eq_true c]
    cases cnd (N i) (K i) (nI j) <;> rfl
  · rw [if_neg c, Nat.testBit_xor, brN_tb, e, decide_eq_false c]
    cases cnd (N i) (K i) (nI j) <;> cases decide (j < 35) <;> rfl
theorem ftN_tb {j : Nat} : ∀ m, (ftN N K A m).testBit j = (decide (j < 35) && alB (fun i => cnd (N i) (K i) (nI j) == decide (A i = 1)) m)
  | 0 => by
    show (34359738367 : Nat).testBit j = _
    rw [show (34359738367 : Nat).testBit j = decide (j < 35) from Nat.testBit_two_pow_sub_one 35 j]
    show _ = (decide (j < 35) && true)
    rw [Bool.and_true]
  | m + 1 => by
    show (ftN N K A m &&& cmN N K A m).testBit j = (decide (j < 35) && (alB (fun i => cnd (N i) (K i) (nI j) == decide (A i = 1)) m && (cnd (N m) (K m) (nI j) == decide (A m = 1))))
    rw [Nat.testBit_and, ftN_tb m, cm_tb m]
    cases decide (j < 35) <;> simp
theorem cm_lt (i : Nat) : cmN N K A i < 2 ^ 64 := by
  have h := brN_lt (N i) (K i) 35
  unfold cmN
  split
  · exact Nat.lt_trans h (by decide)
  · exact Nat.lt_trans (Nat.xor_lt_two_pow (show 34359738367 < 2 ^ 35 by decide) h) (by decide)
theorem cl_suc {x y : Int32} (h : x.toInt = y.toInt + 1) (h0 : 0 ≤ y.toInt) : x.toNatClampNeg = y.toNatClampNeg + 1 := cl_of (by have := cl_nat h0; omega)
theorem shl1 {y : Int32} (h : rgI 0 34 y) : (1 : Int64) <<< (y.toInt64 &&& 63) = lN (2 ^ y.toNatClampNeg) := by
  have e := nI_tn h (by decide)
  have hk := cl_nat (x := y) h.1
  have h2 := h.2
  have w := wb_shl 1 (k := y.toNatClampNeg) (by omega)
  rw [e, Nat.one_mul] at w
  exact w
theorem br_0 {n k y : Int32} (h : rgI 0 34 y) (c : y / (5 : Int32) < n ∨ k < jrem y (5 : Int32)) : brN n k (y.toNatClampNeg + 1) = brN n k y.toNatClampNeg := by
  have e := nI_tn h (by decide)
  have q : cnd n k y = false := by
    unfold cnd
    rcases c with c | c
    · simp [c]
    · simp [c]
  show brN n k y.toNatClampNeg + (if cnd n k (nI y.toNatClampNeg) then 2 ^ y.toNatClampNeg else 0) = _
  rw [e, q]
  rfl
theorem br_1 {n k y : Int32} {s u v : Int64} (h : rgI 0 34 y) (c1 : ¬ y / (5 : Int32) < n) (c2 : ¬ k < jrem y (5 : Int32)) (hs : s = lN (brN n k y.toNatClampNeg)) (hu : u = (1 : Int64) <<< (y.toInt64 &&& 63)) (hv : v = s ||| u) : v = lN (brN n k (y.toNatClampNeg + 1)) := by
  have e := nI_tn h (by decide)
  have hk := cl_nat (x := y) h.1
  have h2 := h.2
  have q : cnd n k y = true := by unfold cnd; simp [c1, c2]
  have lt := brN_lt n k y.toNatClampNeg
  have b1 := wb_lt2 (show y.toNatClampNeg < 64 by omega)
  have hb : brN n k (y.toNatClampNeg + 1) = brN n k y.toNatClampNeg + 2 ^ y.toNatClampNeg := by
    show brN n k y.toNatClampNeg + (if cnd n k (nI y.toNatClampNeg) then 2 ^ y.toNatClampNeg else 0) = _
    rw [e, q]
    rfl
  have ho := Nat.two_pow_add_eq_or_of_lt lt 1
  rw [Nat.mul_one] at ho
  rw [hv, hs, hu, shl1 h, wb_or (by omega) b1, hb, Nat.or_comm, ← ho, Nat.add_comm]
theorem cm_not {b : Nat} (hb : b < 34359738368) : (lN 34359738367 &&& (lN b ^^^ (-1))) = lN (34359738367 ^^^ b) := by
  have ha : (-1 : Int64).toBitVec = BitVec.allOnes 64 := by decide
  apply wb_inj
  rw [Int64.toBitVec_and, Int64.toBitVec_xor, wb_tb, wb_tb, wb_tb, ha]
  apply BitVec.eq_of_getLsbD_eq
  intro i hi
  rw [BitVec.getLsbD_and, BitVec.getLsbD_xor, BitVec.getLsbD_allOnes, BitVec.getLsbD_ofNat, BitVec.getLsbD_ofNat, BitVec.getLsbD_ofNat, Nat.testBit_xor, decide_eq_true hi]
  rw [show (34359738367 : Nat).testBit i = decide (i < 35) from Nat.testBit_two_pow_sub_one 35 i]
  by_cases c : i < 35
  · rw [decide_eq_true c]
    cases b.testBit i <;> rfl
  · have hz : b.testBit i = false := Nat.testBit_lt_two_pow (Nat.lt_of_lt_of_le hb (show 2 ^ 35 ≤ 2 ^ i from Nat.pow_le_pow_right (by decide) (by omega)))
    rw [decide_eq_false c, hz]
    rfl
/-- the reference's own reckoning -/
def isL (N K A : Nat → Int32) : Nat → Int32 → Int32 → Int32 → Int32
  | 0, _, _, _ => 0
  | k + 1, law, m, i => if m ≤ i then 1 else if F_X12_comesBy law (N i.toNatClampNeg) (K i.toNatClampNeg) = (if A i.toNatClampNeg = 1 then 1 else 0) then isL N K A k law m (i + 1) else 0
def lwC (f : Int32 → Int32) : Nat → Int32 → Int32 → Int32
  | 0, _, n => n
  | k + 1, x, n => if (35 : Int32) ≤ x then n else lwC f k (x + 1) (if f x = 0 then n else n + 1)
section ISs
variable {k : Nat} {law m i T : Int32}
theorem isL_s : isL N K A (k + 1) law m i = if m ≤ i then 1 else if F_X12_comesBy law (N i.toNatClampNeg) (K i.toNatClampNeg) = (if A i.toNatClampNeg = 1 then 1 else 0) then isL N K A k law m (i + 1) else 0 := rfl
theorem isL_e (h : isL N K A (k + 1) law m i = T) (c : m ≤ i) : 1 = T := by rw [isL_s, if_pos c] at h; exact h
theorem isL_n (h : isL N K A (k + 1) law m i = T) (c : ¬ m ≤ i) (q : F_X12_comesBy law (N i.toNatClampNeg) (K i.toNatClampNeg) = (if A i.toNatClampNeg = 1 then 1 else 0)) : isL N K A k law m (i + 1) = T := by rw [isL_s, if_neg c, if_pos q] at h; exact h
theorem isL_0 (h : isL N K A (k + 1) law m i = T) (c : ¬ m ≤ i) (q : ¬ F_X12_comesBy law (N i.toNatClampNeg) (K i.toNatClampNeg) = (if A i.toNatClampNeg = 1 then 1 else 0)) : 0 = T := by rw [isL_s, if_neg c, if_neg q] at h; exact h
end ISs
section LWCs
variable {f : Int32 → Int32} {k : Nat} {x n T : Int32}
theorem lwC_s : lwC f (k + 1) x n = if (35 : Int32) ≤ x then n else lwC f k (x + 1) (if f x = 0 then n else n + 1) := rfl
theorem lwC_e (h : lwC f (k + 1) x n = T) (c : (35 : Int32) ≤ x) : n = T := by rw [lwC_s, if_pos c] at h; exact h
theorem lwC_0 (h : lwC f (k + 1) x n = T) (c : ¬ (35 : Int32) ≤ x) (z : f x = 0) : lwC f k (x + 1) n = T := by rw [lwC_s, if_neg c, if_pos z] at h; exact h
theorem lwC_1 (h : lwC f (k + 1) x n = T) (c : ¬ (35 : Int32) ≤ x) (z : ¬ f x = 0) : lwC f k (x + 1) (n + 1) = T := by rw [lwC_s, if_neg c, if_neg z] at h; exact h
theorem lwC_ct (q : Nat → Bool) (hq : ∀ j, j < 35 → (q j = true ↔ ¬ f (nI j) = 0)) : ∀ d j, j + d = 35 → lwC f (d + 1) (nI j) (nI (ct q j)) = nI (ct q 35)
  | 0, j, h => by
    have e : j = 35 := by omega
    subst e
    rw [lwC_s, if_pos (by decide)]
  | d + 1, j, h => by
    have hj : j < 35 := by omega
    have c : ¬ (35 : Int32) ≤ nI j := fun w => by
      have w := fz_le.mp w
      rw [nI_toInt (by omega)] at w
      have z : (35 : Int32).toInt = 35 := rfl
      omega
    have e : ct q (j + 1) = ct q j + (if q j then 1 else 0) := rfl
    have ih := lwC_ct q hq d (j + 1) (by omega)
    rw [lwC_s, if_neg c, nI_1]
    by_cases z : f (nI j) = 0
    · have b : ¬ q j = true := fun w => (hq j hj).mp w z
      rw [if_pos z]
      rw [e, if_neg b, Nat.add_zero] at ih
      exact ih
    · have b : q j = true := (hq j hj).mpr z
      rw [if_neg z, nI_1]
      rw [e, if_pos b] at ih
      exact ih
end LWCs
/-- the reference's reckoning: whether all that was seen fits -/
theorem isL_is {law m : Int32} (hm : rgI 0 10 m) : ∀ (k : Nat) (i : Int32), rgI 0 10 i → (m.toInt - i.toInt).toNat < k → (isL N K A k law m i = 0 ↔ ∃ t : Nat, i.toNatClampNeg ≤ t ∧ t < m.toNatClampNeg ∧ (cnd (N t) (K t) law == decide (A t = 1)) = false)
  | 0, i, _, h => absurd h (by omega)
  | k + 1, i, hi, h => by
    have em := cl_nat (x := m) hm.1
    have ei := cl_nat (x := i) hi.1
    have h2 := hm.2
    rw [isL_s]
    by_cases c : m ≤ i
    · have c2 := fz_le.mp c
      rw [if_pos c]
      exact ⟨fun w => absurd w (by decide), fun ⟨t, a, b, _⟩ => by omega⟩
    · have c2 := mt fz_le.mpr c
      rw [if_neg c, comes_cnd]
      have one : ¬ (1 : Int32) = 0 := by decide
      have zer : ¬ (0 : Int32) = 1 := by decide
      have ih := isL_is (law := law) hm k (i + 1)
      have ei1 : (i + 1).toInt = i.toInt + 1 := rg_addE hi (show rgI 1 1 (1 : Int32) from ⟨by decide, by decide⟩) (by decide) (by decide)
      have et := cl_suc ei1 hi.1
      have ih := ih ⟨by have := hi.1; omega, by omega⟩ (by omega)
      rw [et] at ih
      by_cases b : (cnd (N i.toNatClampNeg) (K i.toNatClampNeg) law == decide (A i.toNatClampNeg = 1)) = true
      · have q : ((if cnd (N i.toNatClampNeg) (K i.toNatClampNeg) law = true then (1 : Int32) else 0) = (if A i.toNatClampNeg = 1 then 1 else 0)) := by
          by_cases d : A i.toNatClampNeg = 1
          · rw [decide_eq_true d] at b
            have : cnd (N i.toNatClampNeg) (K i.toNatClampNeg) law = true := by simpa using b
            rw [if_pos this, if_pos d]
          · rw [decide_eq_false d] at b
            have : ¬ cnd (N i.toNatClampNeg) (K i.toNatClampNeg) law = true := by simpa using b
            rw [if_neg this, if_neg d]
        rw [if_pos q]
        refine ih.trans ⟨fun ⟨t, a1, a2, a3⟩ => ⟨t, by omega, a2, a3⟩, fun ⟨t, a1, a2, a3⟩ => ⟨t, ?_, a2, a3⟩⟩
        by_cases e : t = i.toNatClampNeg
        · rw [e, b] at a3; exact absurd a3 (by decide)
        · omega
      · have q : ¬ ((if cnd (N i.toNatClampNeg) (K i.toNatClampNeg) law = true then (1 : Int32) else 0) = (if A i.toNatClampNeg = 1 then 1 else 0)) := by
          by_cases d : A i.toNatClampNeg = 1
          · rw [decide_eq_true d] at b
            have : ¬ cnd (N i.toNatClampNeg) (K i.toNatClampNeg) law = true := by simpa using b
            rw [if_neg this, if_pos d]; exact zer
          · rw [decide_eq_false d] at b
            have : cnd (N i.toNatClampNeg) (K i.toNatClampNeg) law = true := by simpa using b
            rw [if_pos this, if_neg d]; exact one
        rw [if_neg q]
        exact ⟨fun _ => ⟨i.toNatClampNeg, Nat.le_refl _, by omega, Bool.eq_false_iff.mpr b⟩, fun _ => rfl⟩
/-- a law fits by the reference's reckoning just where its bit is set -/
theorem fit_bit {m : Int32} (hm : rgI 0 10 m) {j : Nat} (hj : j < 35) : (ftN N K A m.toNatClampNeg).testBit j = true ↔ ¬ isL N K A 11 (nI j) m 0 = 0 := by
  have h2 := hm.2
  rw [isL_is hm 11 0 ⟨by decide, by decide⟩ (by have : (0 : Int32).toInt = 0 := rfl; omega), ftN_tb, decide_eq_true hj, Bool.true_and]
  constructor
  · rintro h ⟨t, -, a2, a3⟩
    rw [alB_f _ a2 a3] at h
    exact absurd h (by decide)
  · intro h
    refine alB_t _ (fun i hi => ?_)
    cases c : (cnd (N i) (K i) (nI j) == decide (A i = 1)) with
    | true => rfl
    | false => exact absurd ⟨i, Nat.zero_le _, hi, c⟩ h
theorem ct_40 {n : Nat} (h : n ≤ 34359738367) : ct (fun i => n.testBit i) 40 = ct (fun i => n.testBit i) 35 := by
  have z : ∀ i, 35 ≤ i → n.testBit i = false := fun i hi => Nat.testBit_lt_two_pow (Nat.lt_of_le_of_lt h (Nat.lt_of_lt_of_le (show 34359738367 < 2 ^ 35 by decide) (Nat.pow_le_pow_right (by decide) hi)))
  show ct (fun i => n.testBit i) 35 + (if n.testBit 35 = true then 1 else 0) + (if n.testBit 36 = true then 1 else 0) + (if n.testBit 37 = true then 1 else 0) + (if n.testBit 38 = true then 1 else 0) + (if n.testBit 39 = true then 1 else 0) = _
  rw [z 35 (by decide), z 36 (by decide), z 37 (by decide), z 38 (by decide), z 39 (by decide)]
  rfl
/-- both sides count the same laws -/
theorem laws_eq {m : Int32} (hm : rgI 0 10 m) : nI (cL (ftN N K A m.toNatClampNeg)) = lwC (fun x => isL N K A 11 x m 0) 36 0 0 := by
  have hle := ftN_le (N := N) (K := K) (A := A) m.toNatClampNeg
  have w := lwC_ct (f := fun x => isL N K A 11 x m 0) (fun j => (ftN N K A m.toNatClampNeg).testBit j) (fun j hj => fit_bit hm hj) 35 0 rfl
  rw [cL_ct (by omega), ct_40 hle, ← w]
  rfl
end FTs
set_option maxHeartbeats 4000000 in
set_option maxRecDepth 100000 in
theorem c_X5_bringing_x (l : Launch) (g : Gx) (Ty : TyM) (G : Gh) (a0 : Int32) (a1 : Int32) : Met l yX5_bringing (wsG yX5_bringing cX5_bringing 5 (some .long)) ({ frames := 1, cells := 0, slots := 0, locals := 20 }) (PcH g Ty G [.int a0, .int a1]) (vp_Sl (fun r => r = lN (brN a0 a1 35))) 0 0 (fun _ => False) := by
  refine Met.ofW (cc := cX5_bringing) (maxL := 5) (ret := (some .long)) (by decide) rfl ?_
  intro p e s m args below meth c s₁ B hml hv
  obtain ⟨rfl, hK, hH⟩ := hv
  have hx := B.exec
  have hb := B.bytes
  have hr := B.returns
  have hts := atoms_spec (ws := (wsG yX5_bringing cX5_bringing 5 (some .long))) B.pre
  have hG : ∀ w ∈ GW, w.before ([.int a0, .int a1] : List Value).toArray s = true := fun w h => hts w (List.mem_cons_of_mem _ h)
  have hown : s.vm.findClass RX5 = some m.cls := findClass_of_methodNamed B.named
  have hlocks := B.notSynchronized
  have hl := lv_entry [.int a0, .int a1] (n := 5) (Nat.le_of_ble_eq_true rfl)
  rw [lg_entry_eq]
  generalize (lg_sl [.int a0, .int a1] ++ List.replicate (5 - (lg_sl [.int a0, .int a1]).length) Slot.unset).toArray = ls at hl ⊢
  have hl : lv_has ls 5 [(0, .int a0), (1, .int a1)] := hl
  have L_5 : ∀ (n : Nat) (y2_5 : Int64) (y4_5 : Int32) (ls : Array Slot), rgI (0) (35) y4_5 → (35 - (y4_5).toInt).toNat < n → y2_5 = lN (brN a0 a1 y4_5.toNatClampNeg) → lv_has ls 5 [(0, .int a0), (1, .int a1), (2, .long y2_5), (4, .int y4_5)] → Wm p l e (wsG yX5_bringing cX5_bringing 5 (some .long)) ({ frames := 1, cells := 0, slots := 0, locals := 20 }) s m [.int a0, .int a1] below meth c s.heap [] (0) (0) (vp_Sl (fun r => r = lN (brN a0 a1 35))) 0 0 (fun _ => False) (F0 m 5 ls []) := by
    intro n
    induction n with
    | zero => intro y2_5 y4_5 ls ry4_5 hm; exact absurd hm (Nat.not_lt_zero _)
    | succ n ih_5 =>
      intro y2_5 y4_5 ls ry4_5 hm_5 hq_5 hl
      have L_37 : ∀ (y2_37 : Int64) (ls : Array Slot), rgI (0) (34) y4_5 → y2_37 = lN (brN a0 a1 (y4_5.toNatClampNeg + 1)) → lv_has ls 5 [(0, .int a0), (1, .int a1), (2, .long y2_37), (4, .int y4_5)] → Wm p l e (wsG yX5_bringing cX5_bringing 5 (some .long)) ({ frames := 1, cells := 0, slots := 0, locals := 20 }) s m [.int a0, .int a1] below meth c s.heap [] (0) (0) (vp_Sl (fun r => r = lN (brN a0 a1 35))) 0 0 (fun _ => False) (F0 m 37 ls []) := by
        intro y2_37 ls ry4_37 hq_37 hl
        obtain ⟨x_1, ex_1⟩ : ∃ y : Int32, y = y4_5 + 1 := ⟨_, rfl⟩
        have rx_1 : rgI (1) (35) x_1 := by rw [ex_1]; exact rg_w (rg_add ry4_37 rl_1 (by decide) (by decide)) (by decide) (by decide)
        have qx_1 : x_1.toInt = (y4_5 : Int32).toInt + 1 := by rw [ex_1]; exact rg_addE ry4_37 rl_1 (by decide) (by decide)
        refine lv_iinc (v := x_1) (lv' := [(4, .int x_1), (0, .int a0), (1, .int a1), (2, .long y2_37)]) hx hb dX5_bringing_37 hl (k := 3) rfl (by rw [ex_1]; rfl) (by decide) rfl (fun ls hl => ?_)
        refine lv_goto (tgt := 5) hx hb dX5_bringing_40 (by decide) ?_
        exact ih_5 y2_37 x_1 ls (rg_w rx_1 (by decide) (by decide)) (by have h1 := qx_1; have h2 := ry4_37.1; have h3 := ry4_37.2; have h4 := hm_5; omega) (by rw [cl_suc qx_1 ry4_37.1]; exact hq_37) (lv_sub hl [1, 2, 3, 0] rfl)
      refine lv_iload hx hb dX5_bringing_5 (lv_at hl 3 rfl) ?_
      refine lv_bipush (v := 35) hx hb dX5_bringing_7 (by decide) ?_
      refine lv_icmp_ge (tgt := 43) hx hb dX5_bringing_9 (by decide) (fun c_2 => ?_) (fun c_2 => ?_)
      · have r_3 : rgI (35) (35) y4_5 := rg_w (rg_leR rl_35 ry4_5 c_2) (by decide) (by decide)
        refine lv_lload_n hx hb dX5_bringing_43 rfl (lv_at hl 2 rfl) ?_
        exact W.lret hx hb hr (fun t ht hW => ⟨y2_5, rfl, (by rw [hq_5, show y4_5.toNatClampNeg = 35 from cl_of (by have := r_3.1; have := r_3.2; omega)]), ht⟩) (fun q h => by cases h) dX5_bringing_44
      · have r_4 : rgI (0) (34) y4_5 := rg_w (rg_ltL ry4_5 rl_35 (nle_lt c_2)) (by decide) (by decide)
        refine lv_iload_n hx hb dX5_bringing_12 rfl (lv_at hl 0 rfl) ?_
        refine lv_iload hx hb dX5_bringing_13 (lv_at hl 3 rfl) ?_
        refine vp_callSi (W.runS (As := [.int y4_5]) (rest := [.int a0]) ⟨hx, hb, hml, hown, hts⟩ (c_X5_farthest_x l g Ty G y4_5 ) (cwSx 1 hts hG (gwC mw_1083) mw_86 mw_1081 mw_1082 rfl rfl rfl hd_X5_farthest ⟨Nat.le_of_ble_eq_true rfl, Nat.le_of_ble_eq_true rfl⟩) ⟨PcH_blind, PcH_pre hK hH⟩ rfl rfl hl.1 rfl (lv_room (Nat.le_of_ble_eq_true rfl)) dX5_bringing_15 ⟨Nat.zero_le _, Nat.zero_le _⟩) (fun x_5 hx_5 => ?_)
        refine lv_icmp_gt (tgt := 37) hx hb dX5_bringing_18 (by decide) (fun c_6 => ?_) (fun c_6 => ?_)
        · have r_7 : rgI (-2147483648) (2147483646) x_5 := rg_w (rg_ltL (rg_top x_5) (rg_top a0) c_6) (by decide) (by decide)
          have r_8 : rgI (-2147483647) (2147483647) a0 := rg_w (rg_ltR (rg_top x_5) (rg_top a0) c_6) (by decide) (by decide)
          exact L_37 y2_5 ls r_4 (by rw [br_0 r_4 (Or.inl (by rw [hx_5] at c_6; exact c_6))]; exact hq_5) (lv_sub hl [0, 1, 2, 3] rfl)
        · refine lv_iload_n hx hb dX5_bringing_21 rfl (lv_at hl 1 rfl) ?_
          refine lv_iload hx hb dX5_bringing_22 (lv_at hl 3 rfl) ?_
          refine vp_callSi (W.runS (As := [.int y4_5]) (rest := [.int a1]) ⟨hx, hb, hml, hown, hts⟩ (c_X5_fewest_x l g Ty G y4_5 ) (cwSx 1 hts hG (gwC mw_1086) mw_86 mw_1084 mw_1085 rfl rfl rfl hd_X5_fewest ⟨Nat.le_of_ble_eq_true rfl, Nat.le_of_ble_eq_true rfl⟩) ⟨PcH_blind, PcH_pre hK hH⟩ rfl rfl hl.1 rfl (lv_room (Nat.le_of_ble_eq_true rfl)) dX5_bringing_24 ⟨Nat.zero_le _, Nat.zero_le _⟩) (fun x_9 hx_9 => ?_)
          refine lv_icmp_lt (tgt := 37) hx hb dX5_bringing_27 (by decide) (fun c_10 => ?_) (fun c_10 => ?_)
          · have r_11 : rgI (-2147483648) (2147483646) a1 := rg_w (rg_ltL (rg_top a1) (rg_top x_9) c_10) (by decide) (by decide)
            have r_12 : rgI (-2147483647) (2147483647) x_9 := rg_w (rg_ltR (rg_top a1) (rg_top x_9) c_10) (by decide) (by decide)
            exact L_37 y2_5 ls r_4 (by rw [br_0 r_4 (Or.inr (by rw [hx_9] at c_10; exact c_10))]; exact hq_5) (lv_sub hl [0, 1, 2, 3] rfl)
          · refine lv_lload_n hx hb dX5_bringing_30 rfl (lv_at hl 2 rfl) ?_
            refine lv_lconst (v := 1) hx hb dX5_bringing_31 (by decide) ?_
            refine lv_iload hx hb dX5_bringing_32 (lv_at hl 3 rfl) ?_
            refine lv_lshl hx hb dX5_bringing_34 rfl ?_
            refine lv_topl (fun u_13 eu_13 => ?_)
            refine lv_lor hx hb dX5_bringing_35 ?_
            refine lv_topl (fun u_14 eu_14 => ?_)
            refine lv_lstore_n (lv' := [(2, .long u_14), (0, .int a0), (1, .int a1), (4, .int y4_5)]) hx hb dX5_bringing_36 rfl hl (by decide) rfl (fun ls hl => ?_)
            exact L_37 u_14 ls r_4 (br_1 r_4 (by rw [hx_5] at c_6; exact c_6) (by rw [hx_9] at c_10; exact c_10) hq_5 eu_13 eu_14) (lv_sub hl [1, 2, 0, 3] rfl)
  refine lv_lconst (v := 0) hx hb dX5_bringing_0 (by decide) ?_
  refine lv_lstore_n (lv' := [(2, .long 0), (0, .int a0), (1, .int a1)]) hx hb dX5_bringing_1 rfl hl (by decide) rfl (fun ls hl => ?_)
  refine lv_iconst (v := 0) hx hb dX5_bringing_2 (by decide) ?_
  refine lv_istore (lv' := [(4, .int 0), (2, .long 0), (0, .int a0), (1, .int a1)]) hx hb dX5_bringing_3 hl (by decide) rfl (fun ls hl => ?_)
  exact L_5 _ 0 0 ls (rg_w rl_0 (by decide) (by decide)) (Nat.lt_succ_self _) rfl (lv_sub hl [2, 3, 1, 0] rfl)
set_option maxHeartbeats 4000000 in
set_option maxRecDepth 100000 in
theorem c_X5_fitting_x (l : Launch) (g : Gx) (Ty : TyM) (G : Gh) (h0 : Nat) (k_h0 : Ty h0 = some (15, 0)) : Met l yX5_fitting (wsG yX5_fitting cX5_fitting 8 (some .long)) ({ frames := 2, cells := 0, slots := 0, locals := 44 }) (PcH g Ty G [.ref h0]) (vp_Sl (fun r => r = lN (ftN (G.2.1 (g.2.2 52)) (G.2.1 (g.2.2 53)) (G.2.1 (g.2.2 54)) (G.1 2).toNatClampNeg))) 0 0 (fun _ => False) := by
  refine Met.ofW (cc := cX5_fitting) (maxL := 8) (ret := (some .long)) (by decide) rfl ?_
  intro p e s m args below meth c s₁ B hml hv
  obtain ⟨rfl, hK, hH⟩ := hv
  have hx := B.exec
  have hb := B.bytes
  have hr := B.returns
  have hts := atoms_spec (ws := (wsG yX5_fitting cX5_fitting 8 (some .long))) B.pre
  have hG : ∀ w ∈ GW, w.before ([.ref h0] : List Value).toArray s = true := fun w h => hts w (List.mem_cons_of_mem _ h)
  have hown : s.vm.findClass RX5 = some m.cls := findClass_of_methodNamed B.named
  have hlocks := B.notSynchronized
  have hl := lv_entry [.ref h0] (n := 8) (Nat.le_of_ble_eq_true rfl)
  rw [lg_entry_eq]
  generalize (lg_sl [.ref h0] ++ List.replicate (8 - (lg_sl [.ref h0]).length) Slot.unset).toArray = ls at hl ⊢
  have hl : lv_has ls 8 [(0, .ref h0)] := hl
  have L_77 : ∀ (y3_77 : Int64) (ls : Array Slot), y3_77 = lN (ftN (G.2.1 (g.2.2 52)) (G.2.1 (g.2.2 53)) (G.2.1 (g.2.2 54)) (G.1 2).toNatClampNeg) → lv_has ls 8 [(3, .long y3_77)] → Wm p l e (wsG yX5_fitting cX5_fitting 8 (some .long)) ({ frames := 2, cells := 0, slots := 0, locals := 44 }) s m [.ref h0] below meth c s.heap [] (0) (0) (vp_Sl (fun r => r = lN (ftN (G.2.1 (g.2.2 52)) (G.2.1 (g.2.2 53)) (G.2.1 (g.2.2 54)) (G.1 2).toNatClampNeg))) 0 0 (fun _ => False) (F0 m 77 ls []) := by
    intro y3_77 ls hq_77 hl
    refine lv_lload_n hx hb dX5_fitting_77 rfl (lv_at hl 0 rfl) ?_
    exact W.lret hx hb hr (fun t ht hW => ⟨y3_77, rfl, hq_77, ht⟩) (fun q h => by cases h) dX5_fitting_78
  have L_9 : ∀ (n : Nat) (y1_9 : Int64) (y3_9 : Int64) (y5_9 : Int32) (ls : Array Slot), rgI (0) (10) y5_9 → (10 - (y5_9).toInt).toNat < n → y1_9 = lN 34359738367 → y3_9 = lN (ftN (G.2.1 (g.2.2 52)) (G.2.1 (g.2.2 53)) (G.2.1 (g.2.2 54)) y5_9.toNatClampNeg) → y5_9.toInt ≤ (G.1 2).toInt → lv_has ls 8 [(0, .ref h0), (1, .long y1_9), (3, .long y3_9), (5, .int y5_9)] → Wm p l e (wsG yX5_fitting cX5_fitting 8 (some .long)) ({ frames := 2, cells := 0, slots := 0, locals := 44 }) s m [.ref h0] below meth c s.heap [] (0) (0) (vp_Sl (fun r => r = lN (ftN (G.2.1 (g.2.2 52)) (G.2.1 (g.2.2 53)) (G.2.1 (g.2.2 54)) (G.1 2).toNatClampNeg))) 0 0 (fun _ => False) (F0 m 9 ls []) := by
    intro n
    induction n with
    | zero => intro y1_9 y3_9 y5_9 ls ry5_9 hm; exact absurd hm (Nat.not_lt_zero _)
    | succ n ih_9 =>
      intro y1_9 y3_9 y5_9 ls ry5_9 hm_9 hq1_9 hq3_9 hq5_9 hl
      have L_69 : ∀ (z0_69 : Int64) (ls : Array Slot), rgI (0) (9) y5_9 → y5_9.toInt < (G.1 2).toInt → z0_69 = lN (cmN (G.2.1 (g.2.2 52)) (G.2.1 (g.2.2 53)) (G.2.1 (g.2.2 54)) y5_9.toNatClampNeg) → lv_has ls 8 [(0, .ref h0), (1, .long y1_9), (5, .int y5_9)] → Wm p l e (wsG yX5_fitting cX5_fitting 8 (some .long)) ({ frames := 2, cells := 0, slots := 0, locals := 44 }) s m [.ref h0] below meth c s.heap [] (0) (0) (vp_Sl (fun r => r = lN (ftN (G.2.1 (g.2.2 52)) (G.2.1 (g.2.2 53)) (G.2.1 (g.2.2 54)) (G.1 2).toNatClampNeg))) 0 0 (fun _ => False) (F0 m 69 ls [.long z0_69, .long y3_9]) := by
        intro z0_69 ls ry5_69 hlt_69 hq_69 hl
        refine lv_land hx hb dX5_fitting_69 ?_
        refine lv_topl (fun u_1 eu_1 => ?_)
        refine lv_lstore_n (lv' := [(3, .long u_1), (0, .ref h0), (1, .long y1_9), (5, .int y5_9)]) hx hb dX5_fitting_70 rfl hl (by decide) rfl (fun ls hl => ?_)
        obtain ⟨x_2, ex_2⟩ : ∃ y : Int32, y = y5_9 + 1 := ⟨_, rfl⟩
        have rx_2 : rgI (1) (10) x_2 := by rw [ex_2]; exact rg_w (rg_add ry5_69 rl_1 (by decide) (by decide)) (by decide) (by decide)
        have qx_2 : x_2.toInt = (y5_9 : Int32).toInt + 1 := by rw [ex_2]; exact rg_addE ry5_69 rl_1 (by decide) (by decide)
        refine lv_iinc (v := x_2) (lv' := [(5, .int x_2), (3, .long u_1), (0, .ref h0), (1, .long y1_9)]) hx hb dX5_fitting_71 hl (k := 3) rfl (by rw [ex_2]; rfl) (by decide) rfl (fun ls hl => ?_)
        refine lv_goto (tgt := 9) hx hb dX5_fitting_74 (by decide) ?_
        exact ih_9 y1_9 u_1 x_2 ls (rg_w rx_2 (by decide) (by decide)) (by have h1 := qx_2; have h2 := ry5_69.1; have h3 := ry5_69.2; have h4 := hm_9; omega) hq1_9 (by rw [eu_1, hq3_9, hq_69, cl_suc qx_2 ry5_69.1]; exact wb_and (Nat.lt_of_le_of_lt (ftN_le _) (by decide)) (cm_lt _)) (by have h1 := qx_2; omega) (lv_sub hl [2, 3, 1, 0] rfl)
      refine lv_iload hx hb dX5_fitting_9 (lv_at hl 3 rfl) ?_
      refine lv_aload_n hx hb dX5_fitting_11 rfl (lv_at hl 0 rfl) ?_
      obtain ⟨_, ⟨q_4, q_5, q_6, q_8, rfl, kq_4, kq_5, kq_6, rq_7, t_9⟩, o_c_3⟩ := hH h0 _ k_h0
      refine hg_get hx hb hG igX5 hown hK o_c_3 rfl 3 (by decide) (hG _ mw_324) rfl dX5_fitting_12 ?_
      refine lv_icmp_ge (tgt := 77) hx hb dX5_fitting_15 (by decide) (fun c_10 => ?_) (fun c_10 => ?_)
      · exact L_77 y3_9 ls (by rw [hq3_9, show y5_9.toNatClampNeg = (G.1 2).toNatClampNeg from cl_of (by have h1 := fz_le.mp c_10; have h2 := cl_nat (x := G.1 2) rq_7.1; omega)]) (lv_sub hl [2] rfl)
      · have r_11 : rgI (0) (9) y5_9 := rg_w (rg_ltL ry5_9 rq_7 (nle_lt c_10)) (by decide) (by decide)
        have r_12 : rgI (1) (10) (G.1 2) := rg_w (rg_ltR ry5_9 rq_7 (nle_lt c_10)) (by decide) (by decide)
        refine lv_iload hx hb dX5_fitting_18 (lv_at hl 3 rfl) ?_
        refine lv_bipush (v := 10) hx hb dX5_fitting_20 (by decide) ?_
        have hlt : y5_9.toInt < (G.1 2).toInt := fz_lt.mp (nle_lt c_10)
        refine lv_icmp_ge (tgt := 77) hx hb dX5_fitting_22 (by decide) (fun c_13 => ?_) (fun c_13 => ?_)
        · exact rg_no2 rl_10 r_11 c_13 (by decide)
        · refine lv_aload_n hx hb dX5_fitting_25 rfl (lv_at hl 0 rfl) ?_
          refine hg_get hx hb hG igX5 hown hK o_c_3 rfl 0 (by decide) (hG _ mw_321) rfl dX5_fitting_26 ?_
          refine lv_iload hx hb dX5_fitting_29 (lv_at hl 3 rfl) ?_
          obtain ⟨_, rfl, o_c_14⟩ := hH q_4 _ kq_4
          have o_c_14 : va_at g.1 vwCl (q_4, .inl (g.2.1 1, 10, .inl (G.2.1 q_4))) s.heap := o_c_14
          refine hg_iald hx hb hK o_c_14 (rg_in (n := 10) r_11 (by decide) (by decide)) dX5_fitting_31 ?_
          refine lv_topi (fun x_16 ex_16 => ?_)
          refine lv_aload_n hx hb dX5_fitting_32 rfl (lv_at hl 0 rfl) ?_
          refine hg_get hx hb hG igX5 hown hK o_c_3 rfl 1 (by decide) (hG _ mw_322) rfl dX5_fitting_33 ?_
          refine lv_iload hx hb dX5_fitting_36 (lv_at hl 3 rfl) ?_
          obtain ⟨_, rfl, o_c_17⟩ := hH q_5 _ kq_5
          have o_c_17 : va_at g.1 vwCl (q_5, .inl (g.2.1 1, 10, .inl (G.2.1 q_5))) s.heap := o_c_17
          refine hg_iald hx hb hK o_c_17 (rg_in (n := 10) r_11 (by decide) (by decide)) dX5_fitting_38 ?_
          refine lv_topi (fun x_19 ex_19 => ?_)
          refine vp_callSl (W.runS (As := [.int x_16, .int x_19]) (rest := []) ⟨hx, hb, hml, hown, hts⟩ (c_X5_bringing_x l g Ty G x_16 x_19 ) (cwSx 2 hts hG (gwC mw_1080) mw_86 mw_1078 mw_1079 rfl rfl rfl hd_X5_bringing ⟨Nat.le_of_ble_eq_true rfl, Nat.le_of_ble_eq_true rfl⟩) ⟨PcH_blind, PcH_pre hK hH⟩ rfl rfl hl.1 rfl (lv_room (Nat.le_of_ble_eq_true rfl)) dX5_fitting_39 ⟨Nat.zero_le _, Nat.zero_le _⟩) (fun x_20 hx_20 => ?_)
          refine lv_lstore (lv' := [(6, .long x_20), (0, .ref h0), (1, .long y1_9), (3, .long y3_9), (5, .int y5_9)]) hx hb dX5_fitting_42 hl (by decide) rfl (fun ls hl => ?_)
          refine lv_lload_n hx hb dX5_fitting_44 rfl (lv_at hl 3 rfl) ?_
          refine lv_aload_n hx hb dX5_fitting_45 rfl (lv_at hl 1 rfl) ?_
          refine hg_get hx hb hG igX5 hown hK o_c_3 rfl 2 (by decide) (hG _ mw_323) rfl dX5_fitting_46 ?_
          refine lv_iload hx hb dX5_fitting_49 (lv_at hl 4 rfl) ?_
          obtain ⟨_, rfl, o_c_21⟩ := hH q_6 _ kq_6
          have o_c_21 : va_at g.1 vwCl (q_6, .inl (g.2.1 1, 10, .inl (G.2.1 q_6))) s.heap := o_c_21
          refine hg_iald hx hb hK o_c_21 (rg_in (n := 10) r_11 (by decide) (by decide)) dX5_fitting_51 ?_
          refine lv_topi (fun x_23 ex_23 => ?_)
          refine lv_iconst (v := 1) hx hb dX5_fitting_52 (by decide) ?_
          refine lv_icmp_ne (tgt := 61) hx hb dX5_fitting_53 (by decide) (fun c_24 => ?_) (fun c_24 => ?_)
          · refine lv_lload_n hx hb dX5_fitting_61 rfl (lv_at hl 2 rfl) ?_
            refine lv_lload hx hb dX5_fitting_62 (lv_at hl 0 rfl) ?_
            refine lv_ldc2 (v := -1) hx hb hown (hG _ mw_1087) dX5_fitting_64 ?_
            refine lv_lxor hx hb dX5_fitting_67 ?_
            refine lv_topl (fun u_25 eu_25 => ?_)
            refine lv_land hx hb dX5_fitting_68 ?_
            refine lv_topl (fun u_26 eu_26 => ?_)
            exact L_69 u_26 ls r_11 hlt (by rw [t_9.2.1] at ex_16; rw [t_9.2.2.1] at ex_19; rw [t_9.2.2.2] at ex_23; rw [ex_23] at c_24; rw [eu_26, eu_25, hq1_9, hx_20, cm_not (brN_lt _ _ 35), ex_16, ex_19]; unfold cmN; rw [if_neg c_24]) (lv_sub hl [1, 2, 4] rfl)
          · have r_27 : rgI (1) (1) x_23 := rg_w (rg_eq rl_1 c_24) (by decide) (by decide)
            refine lv_lload hx hb dX5_fitting_56 (lv_at hl 0 rfl) ?_
            refine lv_goto (tgt := 69) hx hb dX5_fitting_58 (by decide) ?_
            exact L_69 x_20 ls r_11 hlt (by rw [t_9.2.1] at ex_16; rw [t_9.2.2.1] at ex_19; rw [t_9.2.2.2] at ex_23; rw [ex_23] at c_24; rw [hx_20, ex_16, ex_19]; unfold cmN; rw [if_pos c_24]) (lv_sub hl [1, 2, 4] rfl)
  refine lv_ldc2 (v := 34359738367) hx hb hown (hG _ mw_1077) dX5_fitting_0 ?_
  refine lv_lstore_n (lv' := [(1, .long (34359738367)), (0, .ref h0)]) hx hb dX5_fitting_3 rfl hl (by decide) rfl (fun ls hl => ?_)
  refine lv_lload_n hx hb dX5_fitting_4 rfl (lv_at hl 0 rfl) ?_
  refine lv_lstore_n (lv' := [(3, .long (34359738367)), (1, .long (34359738367)), (0, .ref h0)]) hx hb dX5_fitting_5 rfl hl (by decide) rfl (fun ls hl => ?_)
  refine lv_iconst (v := 0) hx hb dX5_fitting_6 (by decide) ?_
  refine lv_istore (lv' := [(5, .int 0), (3, .long (34359738367)), (1, .long (34359738367)), (0, .ref h0)]) hx hb dX5_fitting_7 hl (by decide) rfl (fun ls hl => ?_)
  exact L_9 _ (34359738367) (34359738367) 0 ls (rg_w rl_0 (by decide) (by decide)) (Nat.lt_succ_self _) rfl rfl (by have h := (ht15 hH k_h0).1; exact h) (lv_sub hl [3, 2, 1, 0] rfl)
set_option maxHeartbeats 4000000 in
set_option maxRecDepth 100000 in
theorem c_X12_isLaw_x (l : Launch) (g : Gx) (Ty : TyM) (G : Gh) (h0 : Nat) (a0 : Int32) (k_h0 : Ty h0 = some (22, 0)) (Bd : Int) (hI : OI g Bd G) (hBd : Bd ≤ 1900000) (hLD : LD g) : Met l yX12_isLaw (wsG yX12_isLaw cX12_isLaw 3 (some .boolean)) ({ frames := 1, cells := 0, slots := 0, locals := 22 }) (PcH g Ty G [.ref h0, .int a0]) (vp_Si (fun r => rgI (0) (1) r ∧ r = isL (G.2.1 (g.2.2 134)) (G.2.1 (g.2.2 135)) (G.2.1 (g.2.2 136)) 11 a0 (G.1 137) 0)) 0 0 (fun _ => False) := by
  refine Met.ofW (cc := cX12_isLaw) (maxL := 3) (ret := (some .boolean)) (by decide) rfl ?_
  intro p e s m args below meth c s₁ B hml hv
  obtain ⟨rfl, hK, hH⟩ := hv
  have hx := B.exec
  have hb := B.bytes
  have hr := B.returns
  have hts := atoms_spec (ws := (wsG yX12_isLaw cX12_isLaw 3 (some .boolean))) B.pre
  have hG : ∀ w ∈ GW, w.before ([.ref h0, .int a0] : List Value).toArray s = true := fun w h => hts w (List.mem_cons_of_mem _ h)
  have hown : s.vm.findClass RX12 = some m.cls := findClass_of_methodNamed B.named
  have hlocks := B.notSynchronized
  have hl := lv_entry [.ref h0, .int a0] (n := 3) (Nat.le_of_ble_eq_true rfl)
  rw [lg_entry_eq]
  generalize (lg_sl [.ref h0, .int a0] ++ List.replicate (3 - (lg_sl [.ref h0, .int a0]).length) Slot.unset).toArray = ls at hl ⊢
  have hl : lv_has ls 3 [(0, .ref h0), (1, .int a0)] := hl
  have hmk : mdK g Ty := mdk_of hH k_h0
  obtain ⟨⟨σ0, hTS0⟩, h10, hBB0⟩ := id hI.ti
  obtain ⟨ρ, hT⟩ := hTS0.1
  have L_2 : ∀ (n : Nat) (y2_2 : Int32) (ls : Array Slot), rgI (0) (23) y2_2 → (10 - (y2_2).toInt).toNat < n → isL (G.2.1 (g.2.2 134)) (G.2.1 (g.2.2 135)) (G.2.1 (g.2.2 136)) n a0 (G.1 137) y2_2 = isL (G.2.1 (g.2.2 134)) (G.2.1 (g.2.2 135)) (G.2.1 (g.2.2 136)) 11 a0 (G.1 137) 0 → lv_has ls 3 [(0, .ref h0), (1, .int a0), (2, .int y2_2)] → Wm p l e (wsG yX12_isLaw cX12_isLaw 3 (some .boolean)) ({ frames := 1, cells := 0, slots := 0, locals := 22 }) s m [.ref h0, .int a0] below meth c s.heap [] (0) (0) (vp_Si (fun r => rgI (0) (1) r ∧ r = isL (G.2.1 (g.2.2 134)) (G.2.1 (g.2.2 135)) (G.2.1 (g.2.2 136)) 11 a0 (G.1 137) 0)) 0 0 (fun _ => False) (F0 m 2 ls []) := by
    intro n
    induction n with
    | zero => intro y2_2 ls ry2_2 hm; exact absurd hm (Nat.not_lt_zero _)
    | succ n ih_2 =>
      intro y2_2 ls ry2_2 hm_2 hq_2 hl
      refine lv_iload_n hx hb dX12_isLaw_2 rfl (lv_at hl 2 rfl) ?_
      refine lv_aload_n hx hb dX12_isLaw_3 rfl (lv_at hl 0 rfl) ?_
      obtain ⟨_, ⟨rfl, t_2, hk_3⟩, o_c_1⟩ := hH h0 _ k_h0
      refine hg_get hx hb hG igX12 hown hK o_c_1 rfl 37 (by decide) (hG _ mw_1321) rfl dX12_isLaw_4 ?_
      refine lv_icmp_ge (tgt := 52) hx hb dX12_isLaw_7 (by decide) (fun c_4 => ?_) (fun c_4 => ?_)
      · refine lv_iconst (v := 1) hx hb dX12_isLaw_52 (by decide) ?_
        exact W.zret hx hb hr rfl (fun t ht hW => ⟨1, rfl, ⟨rg_w rl_1 (by decide) (by decide), isL_e hq_2 c_4⟩, ht⟩) (fun q h => by cases h) dX12_isLaw_53
      · have r_5 : rgI (0) (9) y2_2 := rg_w (rg_ltL ry2_2 hI.a137 (nle_lt c_4)) (by decide) (by decide)
        have r_6 : rgI (1) (10) (G.1 137) := rg_w (rg_ltR ry2_2 hI.a137 (nle_lt c_4)) (by decide) (by decide)
        refine lv_iload_n hx hb dX12_isLaw_10 rfl (lv_at hl 1 rfl) ?_
        refine lv_aload_n hx hb dX12_isLaw_11 rfl (lv_at hl 0 rfl) ?_
        refine hg_get hx hb hG igX12 hown hK o_c_1 rfl 34 (by decide) (hG _ mw_1318) rfl dX12_isLaw_12 ?_
        refine lv_iload_n hx hb dX12_isLaw_15 rfl (lv_at hl 2 rfl) ?_
        obtain ⟨_, rfl, o_c_7⟩ := hH (g.2.2 134) _ hk_3.2.2.2.2.2.2.2.2.2.2.2.2.2.2.1
        have o_c_7 : va_at g.1 vwCl ((g.2.2 134), .inl (g.2.1 1, 10, .inl (G.2.1 (g.2.2 134)))) s.heap := o_c_7
        refine hg_iald hx hb hK o_c_7 (rg_in (n := 10) r_5 (by decide) (by decide)) dX12_isLaw_16 ?_
        refine lv_topi (fun x_9 ex_9 => ?_)
        refine lv_aload_n hx hb dX12_isLaw_17 rfl (lv_at hl 0 rfl) ?_
        refine hg_get hx hb hG igX12 hown hK o_c_1 rfl 35 (by decide) (hG _ mw_1319) rfl dX12_isLaw_18 ?_
        refine lv_iload_n hx hb dX12_isLaw_21 rfl (lv_at hl 2 rfl) ?_
        obtain ⟨_, rfl, o_c_10⟩ := hH (g.2.2 135) _ hk_3.2.2.2.2.2.2.2.2.2.2.2.2.2.2.2.1
        have o_c_10 : va_at g.1 vwCl ((g.2.2 135), .inl (g.2.1 1, 10, .inl (G.2.1 (g.2.2 135)))) s.heap := o_c_10
        refine hg_iald hx hb hK o_c_10 (rg_in (n := 10) r_5 (by decide) (by decide)) dX12_isLaw_22 ?_
        refine lv_topi (fun x_12 ex_12 => ?_)
        refine vp_callSi (W.runS (As := [.int a0, .int x_9, .int x_12]) (rest := []) ⟨hx, hb, hml, hown, hts⟩ (c_X12_comesBy l g Ty G a0 x_9 x_12 ) (cwSx 3 hts hG (gwC mw_1816) mw_88 mw_1814 mw_1815 rfl rfl rfl hd_X12_comesBy ⟨Nat.le_of_ble_eq_true rfl, Nat.le_of_ble_eq_true rfl⟩) ⟨PcH_blind, PcH_pre hK hH⟩ rfl rfl hl.1 rfl (lv_room (Nat.le_of_ble_eq_true rfl)) dX12_isLaw_23 ⟨Nat.zero_le _, Nat.zero_le _⟩) (fun x_13 hx_13 => ?_)
        have rx_13 : rgI (0) (1) x_13 := hx_13.1
        refine lv_aload_n hx hb dX12_isLaw_26 rfl (lv_at hl 0 rfl) ?_
        refine hg_get hx hb hG igX12 hown hK o_c_1 rfl 36 (by decide) (hG _ mw_1320) rfl dX12_isLaw_27 ?_
        refine lv_iload_n hx hb dX12_isLaw_30 rfl (lv_at hl 2 rfl) ?_
        obtain ⟨_, rfl, o_c_14⟩ := hH (g.2.2 136) _ hk_3.2.2.2.2.2.2.2.2.2.2.2.2.2.2.2.2.1
        have o_c_14 : va_at g.1 vwCl ((g.2.2 136), .inl (g.2.1 1, 10, .inl (G.2.1 (g.2.2 136)))) s.heap := o_c_14
        refine hg_iald hx hb hK o_c_14 (rg_in (n := 10) r_5 (by decide) (by decide)) dX12_isLaw_31 ?_
        refine lv_topi (fun x_16 ex_16 => ?_)
        refine lv_iconst (v := 1) hx hb dX12_isLaw_32 (by decide) ?_
        refine lv_icmp_ne (tgt := 40) hx hb dX12_isLaw_33 (by decide) (fun c_17 => ?_) (fun c_17 => ?_)
        · refine lv_iconst (v := 0) hx hb dX12_isLaw_40 (by decide) ?_
          refine lv_icmp_eq (tgt := 46) hx hb dX12_isLaw_41 (by decide) (fun c_18 => ?_) (fun c_18 => ?_)
          · have r_19 : rgI (0) (0) x_13 := rg_w (rg_eq rl_0 c_18) (by decide) (by decide)
            obtain ⟨x_20, ex_20⟩ : ∃ y : Int32, y = y2_2 + 1 := ⟨_, rfl⟩
            have rx_20 : rgI (1) (10) x_20 := by rw [ex_20]; exact rg_w (rg_add r_5 rl_1 (by decide) (by decide)) (by decide) (by decide)
            have qx_20 : x_20.toInt = (y2_2 : Int32).toInt + 1 := by rw [ex_20]; exact rg_addE r_5 rl_1 (by decide) (by decide)
            refine lv_iinc (v := x_20) (lv' := [(2, .int x_20), (0, .ref h0), (1, .int a0)]) hx hb dX12_isLaw_46 hl (k := 2) rfl (by rw [ex_20]; rfl) (by decide) rfl (fun ls hl => ?_)
            refine lv_goto (tgt := 2) hx hb dX12_isLaw_49 (by decide) ?_
            exact ih_2 x_20 ls (rg_w rx_20 (by decide) (by decide)) (by have h1 := qx_20; have h2 := r_5.1; have h3 := r_5.2; have h4 := hm_2; omega) (by rw [ex_20]; exact isL_n hq_2 c_4 (by rw [← ex_9, ← ex_12, ← ex_16, if_neg c_17, ← hx_13.2]; exact c_18)) (lv_sub hl [1, 2, 0] rfl)
          · have r_21 : rgI (1) (1) x_13 := rg_w (rg_neL rx_13 rl_0 c_18) (by decide) (by decide)
            refine lv_iconst (v := 0) hx hb dX12_isLaw_44 (by decide) ?_
            exact W.zret hx hb hr rfl (fun t ht hW => ⟨0, rfl, ⟨rg_w rl_0 (by decide) (by decide), isL_0 hq_2 c_4 (by rw [← ex_9, ← ex_12, ← ex_16, if_neg c_17, ← hx_13.2]; exact c_18)⟩, ht⟩) (fun q h => by cases h) dX12_isLaw_45
        · have r_22 : rgI (1) (1) x_16 := rg_w (rg_eq rl_1 c_17) (by decide) (by decide)
          refine lv_iconst (v := 1) hx hb dX12_isLaw_36 (by decide) ?_
          refine lv_goto (tgt := 41) hx hb dX12_isLaw_37 (by decide) ?_
          refine lv_icmp_eq (tgt := 46) hx hb dX12_isLaw_41 (by decide) (fun c_23 => ?_) (fun c_23 => ?_)
          · have r_24 : rgI (1) (1) x_13 := rg_w (rg_eq rl_1 c_23) (by decide) (by decide)
            obtain ⟨x_25, ex_25⟩ : ∃ y : Int32, y = y2_2 + 1 := ⟨_, rfl⟩
            have rx_25 : rgI (1) (10) x_25 := by rw [ex_25]; exact rg_w (rg_add r_5 rl_1 (by decide) (by decide)) (by decide) (by decide)
            have qx_25 : x_25.toInt = (y2_2 : Int32).toInt + 1 := by rw [ex_25]; exact rg_addE r_5 rl_1 (by decide) (by decide)
            refine lv_iinc (v := x_25) (lv' := [(2, .int x_25), (0, .ref h0), (1, .int a0)]) hx hb dX12_isLaw_46 hl (k := 2) rfl (by rw [ex_25]; rfl) (by decide) rfl (fun ls hl => ?_)
            refine lv_goto (tgt := 2) hx hb dX12_isLaw_49 (by decide) ?_
            exact ih_2 x_25 ls (rg_w rx_25 (by decide) (by decide)) (by have h1 := qx_25; have h2 := r_5.1; have h3 := r_5.2; have h4 := hm_2; omega) (by rw [ex_25]; exact isL_n hq_2 c_4 (by rw [← ex_9, ← ex_12, ← ex_16, if_pos c_17, ← hx_13.2]; exact c_23)) (lv_sub hl [1, 2, 0] rfl)
          · have r_26 : rgI (0) (0) x_13 := rg_w (rg_neR rx_13 rl_1 c_23) (by decide) (by decide)
            refine lv_iconst (v := 0) hx hb dX12_isLaw_44 (by decide) ?_
            exact W.zret hx hb hr rfl (fun t ht hW => ⟨0, rfl, ⟨rg_w rl_0 (by decide) (by decide), isL_0 hq_2 c_4 (by rw [← ex_9, ← ex_12, ← ex_16, if_pos c_17, ← hx_13.2]; exact c_23)⟩, ht⟩) (fun q h => by cases h) dX12_isLaw_45
  refine lv_iconst (v := 0) hx hb dX12_isLaw_0 (by decide) ?_
  refine lv_istore_n (lv' := [(2, .int 0), (0, .ref h0), (1, .int a0)]) hx hb dX12_isLaw_1 rfl hl (by decide) rfl (fun ls hl => ?_)
  exact L_2 _ 0 ls (rg_w rl_0 (by decide) (by decide)) (Nat.lt_succ_self _) rfl (lv_sub hl [1, 2, 0] rfl)
set_option maxHeartbeats 4000000 in
set_option maxRecDepth 100000 in
theorem c_X12_laws_x (l : Launch) (g : Gx) (Ty : TyM) (G : Gh) (sz : Nat) (h0 : Nat) (k_h0 : Ty h0 = some (22, 0)) (Bd : Int) (hI : OI g Bd G) (hBd : Bd ≤ 1900000) (hLD : LD g) : Met l yX12_laws (wsG yX12_laws cX12_laws 3 (some .int)) ({ frames := 2, cells := 0, slots := 0, locals := 44 }) (PcT g Ty G sz [.ref h0]) (QwI g Ty sz (fun r u => u.1 = Ty ∧ FR [104, 105] [] [] G u.2 ∧ OI g (Bd + 1000) u.2 ∧ r = lwC (fun x => isL (G.2.1 (g.2.2 134)) (G.2.1 (g.2.2 135)) (G.2.1 (g.2.2 136)) 11 x (G.1 137) 0) 36 0 0)) 0 0 (AF Ty sz) := by
  refine Met.ofW (cc := cX12_laws) (maxL := 3) (ret := (some .int)) (by decide) rfl ?_
  intro p e s m args below meth c s₁ B hml hv
  obtain ⟨rfl, hsz, hK, hH⟩ := hv
  subst hsz
  have hx := B.exec
  have hb := B.bytes
  have hr := B.returns
  have hts := atoms_spec (ws := (wsG yX12_laws cX12_laws 3 (some .int))) B.pre
  have hG : ∀ w ∈ GW, w.before ([.ref h0] : List Value).toArray s = true := fun w h => hts w (List.mem_cons_of_mem _ h)
  have hown : s.vm.findClass RX12 = some m.cls := findClass_of_methodNamed B.named
  have hlocks := B.notSynchronized
  have hl := lv_entry [.ref h0] (n := 3) (Nat.le_of_ble_eq_true rfl)
  rw [lg_entry_eq]
  generalize (lg_sl [.ref h0] ++ List.replicate (3 - (lg_sl [.ref h0]).length) Slot.unset).toArray = ls at hl ⊢
  have hl : lv_has ls 3 [(0, .ref h0)] := hl
  have hmk : mdK g Ty := mdk_of hH k_h0
  have hS : va_S (AF Ty s.heap.size) s.heap s.heap [] := va_S.rf
  obtain ⟨⟨σ0, hTS0⟩, h10, hBB0⟩ := id hI.ti
  obtain ⟨ρ, hT⟩ := hTS0.1
  have L_14 : ∀ (n : Nat) (H : Heap) (locs : List Loc) (G_14 : Gh) (y1_14 : Int32) (y2_14 : Int32) (ls : Array Slot), rgI (0) (2) (G_14.1 104) → FR [104, 105] [] [] G G_14 → rgI (0) (35) y2_14 → (0 ≤ (y1_14 : Int32).toInt ∧ (y1_14 : Int32).toInt ≤ (y2_14 : Int32).toInt) → (¬ y1_14 = 0 ∨ G_14.1 104 = 0) → (35 - (y2_14).toInt).toNat < n → lwC (fun x => isL (G.2.1 (g.2.2 134)) (G.2.1 (g.2.2 135)) (G.2.1 (g.2.2 136)) 11 x (G.1 137) 0) n y2_14 y1_14 = lwC (fun x => isL (G.2.1 (g.2.2 134)) (G.2.1 (g.2.2 135)) (G.2.1 (g.2.2 136)) 11 x (G.1 137) 0) 36 0 0 → lv_has ls 3 [(0, .ref h0), (1, .int y1_14), (2, .int y2_14)] → HT g Ty G_14 H → va_S (AF Ty s.heap.size) s.heap H locs → Wm p l e (wsG yX12_laws cX12_laws 3 (some .int)) ({ frames := 2, cells := 0, slots := 0, locals := 44 }) s m [.ref h0] below meth c H locs (0) (0) (QwI g Ty s.heap.size (fun r u => u.1 = Ty ∧ FR [104, 105] [] [] G u.2 ∧ OI g (Bd + 1000) u.2 ∧ r = lwC (fun x => isL (G.2.1 (g.2.2 134)) (G.2.1 (g.2.2 135)) (G.2.1 (g.2.2 136)) 11 x (G.1 137) 0) 36 0 0)) 0 0 (AF Ty s.heap.size) (F0 m 14 ls []) := by
    intro n
    induction n with
    | zero => intro H locs G_14 y1_14 y2_14 ls rg104_14 fr_14 ry2_14 hi0_14 hi1_14 hm; exact absurd hm (Nat.not_lt_zero _)
    | succ n ih_14 =>
      intro H locs G_14 y1_14 y2_14 ls rg104_14 fr_14 ry2_14 hi0_14 hi1_14 hm_14 hq_14 hl hH hS
      refine lv_iload_n hx hb dX12_laws_14 rfl (lv_at hl 2 rfl) ?_
      refine lv_bipush (v := 35) hx hb dX12_laws_15 (by decide) ?_
      refine lv_icmp_ge (tgt := 60) hx hb dX12_laws_17 (by decide) (fun c_1 => ?_) (fun c_1 => ?_)
      · have r_2 : rgI (35) (35) y2_14 := rg_w (rg_leR rl_35 ry2_14 c_1) (by decide) (by decide)
        refine lv_iload_n hx hb dX12_laws_60 rfl (lv_at hl 1 rfl) ?_
        exact W.iret hx hb hr (fun t ht hWm => ⟨⟨y1_14, (Ty, G_14), rfl, ⟨rfl, ⟨fr_14, ⟨⟨(by rw [(fr_14.1 102 (by decide))]; exact (rg_w hI.a102 (by decide) (by decide))), (rg_w rg104_14 (by decide) (by decide)), (by rw [(fr_14.1 113 (by decide))]; exact (rg_w hI.a113 (by decide) (by decide))), (by rw [(fr_14.1 122 (by decide))]; exact (rg_w hI.a122 (by decide) (by decide))), (by rw [(fr_14.1 133 (by decide))]; exact (rg_w hI.a133 (by decide) (by decide))), (by rw [(fr_14.1 137 (by decide))]; exact (rg_w hI.a137 (by decide) (by decide))), ((fr_14.2.2 111 (by decide)).trans hI.r111), ((fr_14.2.2 112 (by decide)).trans hI.r112), (by rw [(fr_14.2.1 (g.2.2 100) trivial)]; exact (hI.ti.hi (show Bd ≤ Bd + 1000 by omega))), (hI.un2 (show Bd ≤ Bd + 1000 by omega) (fr_14.2.1 (g.2.2 121) trivial) (fr_14.1 122 (by decide))), (hI.ke2 (show Bd ≤ Bd + 1000 by omega) (fr_14.2.1 (g.2.2 140) trivial) (fr_14.2.1 (g.2.2 141) trivial))⟩, lwC_e hq_14 c_1⟩⟩⟩, by show HT g Ty G_14 t.heap; rw [ht]; exact hH⟩, hS.F ht⟩) hS.2.2 dX12_laws_61
      · have r_3 : rgI (0) (34) y2_14 := rg_w (rg_ltL ry2_14 rl_35 (nle_lt c_1)) (by decide) (by decide)
        refine lv_aload_n hx hb dX12_laws_20 rfl (lv_at hl 0 rfl) ?_
        refine lv_iload_n hx hb dX12_laws_21 rfl (lv_at hl 2 rfl) ?_
        obtain ⟨_, ⟨rfl, t_5, hk_6⟩, o_c_4⟩ := hH h0 _ k_h0
        refine vp_callSi (W.runV (As := [.int y2_14]) (rest := []) ⟨hx, hb, hml, hown, hts⟩ (c_X12_isLaw_x l g Ty G_14 h0 y2_14 k_h0 Bd ⟨(by rw [(fr_14.1 102 (by decide))]; exact (rg_w hI.a102 (by decide) (by decide))), (rg_w rg104_14 (by decide) (by decide)), (by rw [(fr_14.1 113 (by decide))]; exact (rg_w hI.a113 (by decide) (by decide))), (by rw [(fr_14.1 122 (by decide))]; exact (rg_w hI.a122 (by decide) (by decide))), (by rw [(fr_14.1 133 (by decide))]; exact (rg_w hI.a133 (by decide) (by decide))), (by rw [(fr_14.1 137 (by decide))]; exact (rg_w hI.a137 (by decide) (by decide))), ((fr_14.2.2 111 (by decide)).trans hI.r111), ((fr_14.2.2 112 (by decide)).trans hI.r112), (by rw [(fr_14.2.1 (g.2.2 100) trivial)]; exact (hI.ti.hi (show Bd ≤ Bd by omega))), (hI.un2 (show Bd ≤ Bd by omega) (fr_14.2.1 (g.2.2 121) trivial) (fr_14.1 122 (by decide))), (hI.ke2 (show Bd ≤ Bd by omega) (fr_14.2.1 (g.2.2 140) trivial) (fr_14.2.1 (g.2.2 141) trivial))⟩ hBd hLD) (cwV 1 hts (gwV mw_1810 mw_1812 mw_71 mw_88 mw_1813) rfl rfl rfl hv_X12_isLaw ⟨Nat.le_of_ble_eq_true rfl, Nat.le_of_ble_eq_true rfl⟩) ⟨PcH_blind, hg_recv hK o_c_4 rfl, PcH_pre hK hH⟩ rfl rfl hl.1 rfl (lv_room (Nat.le_of_ble_eq_true rfl)) dX12_laws_22 ⟨Nat.zero_le _, Nat.zero_le _⟩) (fun x_7 hx_7 => ?_)
        have rx_7 : rgI (0) (1) x_7 := hx_7.1
        have e_7 : x_7 = isL (G.2.1 (g.2.2 134)) (G.2.1 (g.2.2 135)) (G.2.1 (g.2.2 136)) 11 y2_14 (G.1 137) 0 := by rw [hx_7.2, fr_14.2.1 (g.2.2 134) trivial, fr_14.2.1 (g.2.2 135) trivial, fr_14.2.1 (g.2.2 136) trivial, fr_14.1 137 (by decide)]
        refine lv_if_ne (tgt := 31) hx hb dX12_laws_25 (by decide) (fun c_8 => ?_) (fun c_8 => ?_)
        · have r_9 : rgI (1) (1) x_7 := rg_w (rg_neL rx_7 rl_0 c_8) (by decide) (by decide)
          refine lv_iload_n hx hb dX12_laws_31 rfl (lv_at hl 1 rfl) ?_
          refine lv_if_ne (tgt := 51) hx hb dX12_laws_32 (by decide) (fun c_10 => ?_) (fun c_10 => ?_)
          · obtain ⟨x_11, ex_11⟩ : ∃ y : Int32, y = y1_14 + 1 := ⟨_, rfl⟩
            refine lv_iinc (v := x_11) (lv' := [(1, .int x_11), (0, .ref h0), (2, .int y2_14)]) hx hb dX12_laws_51 hl (k := 1) rfl (by rw [ex_11]; rfl) (by decide) rfl (fun ls hl => ?_)
            obtain ⟨x_12, ex_12⟩ : ∃ y : Int32, y = y2_14 + 1 := ⟨_, rfl⟩
            have rx_12 : rgI (1) (35) x_12 := by rw [ex_12]; exact rg_w (rg_add r_3 rl_1 (by decide) (by decide)) (by decide) (by decide)
            have qx_12 : x_12.toInt = (y2_14 : Int32).toInt + 1 := by rw [ex_12]; exact rg_addE r_3 rl_1 (by decide) (by decide)
            refine lv_iinc (v := x_12) (lv' := [(2, .int x_12), (1, .int x_11), (0, .ref h0)]) hx hb dX12_laws_54 hl (k := 2) rfl (by rw [ex_12]; rfl) (by decide) rfl (fun ls hl => ?_)
            refine lv_goto (tgt := 14) hx hb dX12_laws_57 (by decide) ?_
            exact ih_14 H locs G_14 x_11 x_12 ls (rg_w rg104_14 (by decide) (by decide)) fr_14 (rg_w rx_12 (by decide) (by decide)) (cn_s hi0_14 ex_11 qx_12 r_3) (Or.inl (cn_n hi0_14 ex_11 r_3)) (by have h1 := qx_12; have h2 := r_3.1; have h3 := r_3.2; have h4 := hm_14; omega) (by rw [ex_12, ex_11]; exact lwC_1 hq_14 c_1 (fun q => c_8 (e_7.trans q))) (lv_sub hl [2, 1, 0] rfl) hH hS
          · have r_13 : rgI (0) (0) y1_14 := rg_w (rg_eq rl_0 c_10) (by decide) (by decide)
            have r4_14 : rgI 0 0 (G_14.1 104) := rg_rg (hi1_14.resolve_left (fun w => w c_10)) rl_0
            refine lv_aload_n hx hb dX12_laws_35 rfl (lv_at hl 0 rfl) ?_
            refine lv_iload_n hx hb dX12_laws_36 rfl (lv_at hl 2 rfl) ?_
            refine lv_iconst (v := 5) hx hb dX12_laws_37 (by decide) ?_
            refine lv_idiv hx hb dX12_laws_38 (by decide) ?_
            refine lv_topi (fun x_15 ex_15 => ?_)
            have rx_15 : rgI (0) (6) x_15 := by rw [ex_15]; exact rg_w (rg_div r_3 rl_5 (by decide) (by decide)) (by decide) (by decide)
            refine lv_i2l hx hb dX12_laws_39 rfl ?_
            refine lv_topl (fun u_16 eu_16 => ?_)
            refine va_callv (va_runV (As := [.long u_16]) (rest := []) ⟨hx, hb, hml, hown, hts⟩ (c_X12_tell l g Ty G_14 H.size h0 u_16 k_h0 (rg_w r4_14 (by decide) (by decide))) (cwV 1 hts (gwV mw_1510 mw_1512 mw_48 mw_88 mw_1513) rfl rfl rfl hv_X12_tell ⟨Nat.le_of_ble_eq_true rfl, Nat.le_of_ble_eq_true rfl⟩) ⟨PcT_blind, hg_recv hK o_c_4 rfl, PcT_pre hK hH⟩ rfl rfl hl.1 rfl (lv_room (Nat.le_of_ble_eq_true rfl)) dX12_laws_40 ⟨Nat.zero_le _, Nat.zero_le _⟩) hS (fun q _ h => AF.mono hS.1 h) (fun q h => AF.mono hS.1 h) (fun ux_17 t H locs ht hvm hx_17 hB hz hk hS => ?_)
            obtain ⟨eTx_17, eGx_17⟩ := hx_17
            obtain ⟨G_18, eG_18⟩ : ∃ z, z = ux_17.2 := ⟨_, rfl⟩
            rw [← eG_18] at eGx_17
            obtain ⟨x_19, ex_19⟩ : ∃ z : Int32, z = (G_14.1 104) + 1 := ⟨_, rfl⟩
            have e_20 : G_18 = gset G_14 104 x_19 := by rw [ex_19]; exact eGx_17
            have rx_19 : rgI (1) (1) x_19 := by rw [ex_19]; exact rg_w (rg_add r4_14 rl_1 (by decide) (by decide)) (by decide) (by decide)
            have fr_21 : FR [104, 105] [] [] G G_18 := FR.n fr_14 e_20 (by decide)
            have u_22 : G_18.1 102 = (G.1 102) := by rw [e_20]; exact (gs_ne (by decide)).trans (fr_14.1 102 (by decide))
            have u_23 : G_18.1 113 = (G.1 113) := by rw [e_20]; exact (gs_ne (by decide)).trans (fr_14.1 113 (by decide))
            have u_24 : G_18.1 122 = (G.1 122) := by rw [e_20]; exact (gs_ne (by decide)).trans (fr_14.1 122 (by decide))
            have u_25 : G_18.1 133 = (G.1 133) := by rw [e_20]; exact (gs_ne (by decide)).trans (fr_14.1 133 (by decide))
            have u_26 : G_18.1 137 = (G.1 137) := by rw [e_20]; exact (gs_ne (by decide)).trans (fr_14.1 137 (by decide))
            have u_27 : G_18.1 104 = x_19 := by rw [e_20]; exact gs_eq
            have w_28 : G_18.2.1 (g.2.2 100) = (G.2.1 (g.2.2 100)) := by rw [e_20]; exact (fr_14.2.1 (g.2.2 100) trivial)
            have w_29 : G_18.2.1 (g.2.2 121) = (G.2.1 (g.2.2 121)) := by rw [e_20]; exact (fr_14.2.1 (g.2.2 121) trivial)
            have w_30 : G_18.2.1 (g.2.2 140) = (G.2.1 (g.2.2 140)) := by rw [e_20]; exact (fr_14.2.1 (g.2.2 140) trivial)
            have w_31 : G_18.2.1 (g.2.2 141) = (G.2.1 (g.2.2 141)) := by rw [e_20]; exact (fr_14.2.1 (g.2.2 141) trivial)
            have w_32 : G_18.2.1 (g.2.2 111) = (G.2.1 (g.2.2 111)) := by rw [e_20]; exact (fr_14.2.1 (g.2.2 111) trivial)
            have u_33 : G_18.2.2 111 = some (g.2.2 111) := by rw [e_20]; exact ((fr_14.2.2 111 (by decide)).trans hI.r111)
            have u_34 : G_18.2.2 112 = some (g.2.2 112) := by rw [e_20]; exact ((fr_14.2.2 112 (by decide)).trans hI.r112)
            have hH : HT g Ty G_18 H := by rw [← ht, ← eTx_17, eG_18]; exact hB
            refine lv_aload_n hx hb dX12_laws_43 rfl (lv_at hl 0 rfl) ?_
            refine lv_iload_n hx hb dX12_laws_44 rfl (lv_at hl 2 rfl) ?_
            refine lv_iconst (v := 5) hx hb dX12_laws_45 (by decide) ?_
            refine lv_irem hx hb dX12_laws_46 (by decide) ?_
            refine lv_topi (fun x_35 ex_35 => ?_)
            have rx_35 : rgI (0) (4) x_35 := by rw [ex_35]; exact rg_w (rg_rem r_3 rl_5 (by decide) (by decide)) (by decide) (by decide)
            refine lv_i2l hx hb dX12_laws_47 rfl ?_
            refine lv_topl (fun u_36 eu_36 => ?_)
            obtain ⟨_, ⟨rfl, t_38, hk_39⟩, o_c_37⟩ := hH h0 _ k_h0
            refine va_callv (va_runV (As := [.long u_36]) (rest := []) ⟨hx, hb, hml, hown, hts⟩ (c_X12_tell l g Ty G_18 H.size h0 u_36 k_h0 (by rw [u_27]; exact rg_w rx_19 (by decide) (by decide))) (cwV 1 hts (gwV mw_1510 mw_1512 mw_48 mw_88 mw_1513) rfl rfl rfl hv_X12_tell ⟨Nat.le_of_ble_eq_true rfl, Nat.le_of_ble_eq_true rfl⟩) ⟨PcT_blind, hg_recv hK o_c_37 rfl, PcT_pre hK hH⟩ rfl rfl hl.1 rfl (lv_room (Nat.le_of_ble_eq_true rfl)) dX12_laws_48 ⟨Nat.zero_le _, Nat.zero_le _⟩) hS (fun q _ h => AF.mono hS.1 h) (fun q h => AF.mono hS.1 h) (fun ux_40 t H locs ht hvm hx_40 hB hz hk hS => ?_)
            obtain ⟨eTx_40, eGx_40⟩ := hx_40
            obtain ⟨G_41, eG_41⟩ : ∃ z, z = ux_40.2 := ⟨_, rfl⟩
            rw [← eG_41] at eGx_40
            obtain ⟨x_42, ex_42⟩ : ∃ z : Int32, z = x_19 + 1 := ⟨_, rfl⟩
            have e_43 : G_41 = gset G_18 104 x_42 := by rw [ex_42, ← u_27]; exact eGx_40
            have rx_42 : rgI (2) (2) x_42 := by rw [ex_42]; exact rg_w (rg_add rx_19 rl_1 (by decide) (by decide)) (by decide) (by decide)
            have fr_44 : FR [104, 105] [] [] G G_41 := FR.n fr_21 e_43 (by decide)
            have u_45 : G_41.1 102 = (G.1 102) := by rw [e_43]; exact (gs_ne (by decide)).trans u_22
            have u_46 : G_41.1 113 = (G.1 113) := by rw [e_43]; exact (gs_ne (by decide)).trans u_23
            have u_47 : G_41.1 122 = (G.1 122) := by rw [e_43]; exact (gs_ne (by decide)).trans u_24
            have u_48 : G_41.1 133 = (G.1 133) := by rw [e_43]; exact (gs_ne (by decide)).trans u_25
            have u_49 : G_41.1 137 = (G.1 137) := by rw [e_43]; exact (gs_ne (by decide)).trans u_26
            have u_50 : G_41.1 104 = x_42 := by rw [e_43]; exact gs_eq
            have w_51 : G_41.2.1 (g.2.2 100) = (G.2.1 (g.2.2 100)) := by rw [e_43]; exact w_28
            have w_52 : G_41.2.1 (g.2.2 121) = (G.2.1 (g.2.2 121)) := by rw [e_43]; exact w_29
            have w_53 : G_41.2.1 (g.2.2 140) = (G.2.1 (g.2.2 140)) := by rw [e_43]; exact w_30
            have w_54 : G_41.2.1 (g.2.2 141) = (G.2.1 (g.2.2 141)) := by rw [e_43]; exact w_31
            have w_55 : G_41.2.1 (g.2.2 111) = (G.2.1 (g.2.2 111)) := by rw [e_43]; exact w_32
            have u_56 : G_41.2.2 111 = some (g.2.2 111) := by rw [e_43]; exact u_33
            have u_57 : G_41.2.2 112 = some (g.2.2 112) := by rw [e_43]; exact u_34
            have hH : HT g Ty G_41 H := by rw [← ht, ← eTx_40, eG_41]; exact hB
            obtain ⟨x_58, ex_58⟩ : ∃ y : Int32, y = y1_14 + 1 := ⟨_, rfl⟩
            have rx_58 : rgI (1) (1) x_58 := by rw [ex_58]; exact rg_w (rg_add r_13 rl_1 (by decide) (by decide)) (by decide) (by decide)
            have qx_58 : x_58.toInt = (y1_14 : Int32).toInt + 1 := by rw [ex_58]; exact rg_addE r_13 rl_1 (by decide) (by decide)
            refine lv_iinc (v := x_58) (lv' := [(1, .int x_58), (0, .ref h0), (2, .int y2_14)]) hx hb dX12_laws_51 hl (k := 1) rfl (by rw [ex_58]; rfl) (by decide) rfl (fun ls hl => ?_)
            obtain ⟨x_59, ex_59⟩ : ∃ y : Int32, y = y2_14 + 1 := ⟨_, rfl⟩
            have rx_59 : rgI (1) (35) x_59 := by rw [ex_59]; exact rg_w (rg_add r_3 rl_1 (by decide) (by decide)) (by decide) (by decide)
            have qx_59 : x_59.toInt = (y2_14 : Int32).toInt + 1 := by rw [ex_59]; exact rg_addE r_3 rl_1 (by decide) (by decide)
            refine lv_iinc (v := x_59) (lv' := [(2, .int x_59), (1, .int x_58), (0, .ref h0)]) hx hb dX12_laws_54 hl (k := 2) rfl (by rw [ex_59]; rfl) (by decide) rfl (fun ls hl => ?_)
            refine lv_goto (tgt := 14) hx hb dX12_laws_57 (by decide) ?_
            exact ih_14 H locs G_41 x_58 x_59 ls (by rw [u_50]; exact rg_w rx_42 (by decide) (by decide)) fr_44 (rg_w rx_59 (by decide) (by decide)) (cn_s hi0_14 ex_58 qx_59 r_3) (Or.inl (cn_n hi0_14 ex_58 r_3)) (by have h1 := qx_59; have h2 := r_3.1; have h3 := r_3.2; have h4 := hm_14; omega) (by rw [ex_59, ex_58]; exact lwC_1 hq_14 c_1 (fun q => c_8 (e_7.trans q))) (lv_sub hl [2, 1, 0] rfl) hH hS
        · have r_60 : rgI (0) (0) x_7 := rg_w (rg_eq rl_0 c_8) (by decide) (by decide)
          refine lv_goto (tgt := 54) hx hb dX12_laws_28 (by decide) ?_
          obtain ⟨x_61, ex_61⟩ : ∃ y : Int32, y = y2_14 + 1 := ⟨_, rfl⟩
          have rx_61 : rgI (1) (35) x_61 := by rw [ex_61]; exact rg_w (rg_add r_3 rl_1 (by decide) (by decide)) (by decide) (by decide)
          have qx_61 : x_61.toInt = (y2_14 : Int32).toInt + 1 := by rw [ex_61]; exact rg_addE r_3 rl_1 (by decide) (by decide)
          refine lv_iinc (v := x_61) (lv' := [(2, .int x_61), (0, .ref h0), (1, .int y1_14)]) hx hb dX12_laws_54 hl (k := 2) rfl (by rw [ex_61]; rfl) (by decide) rfl (fun ls hl => ?_)
          refine lv_goto (tgt := 14) hx hb dX12_laws_57 (by decide) ?_
          exact ih_14 H locs G_14 y1_14 x_61 ls (rg_w rg104_14 (by decide) (by decide)) fr_14 (rg_w rx_61 (by decide) (by decide)) ⟨hi0_14.1, by have q := qx_61; have q2 := hi0_14.2; omega⟩ hi1_14 (by have h1 := qx_61; have h2 := r_3.1; have h3 := r_3.2; have h4 := hm_14; omega) (by rw [ex_61]; exact lwC_0 hq_14 c_1 (e_7.symm.trans c_8)) (lv_sub hl [1, 2, 0] rfl) hH hS
  refine lv_aload_n hx hb dX12_laws_0 rfl (lv_at hl 0 rfl) ?_
  refine lv_iconst (v := 0) hx hb dX12_laws_1 (by decide) ?_
  obtain ⟨_, ⟨rfl, t_63, hk_64⟩, o_c_62⟩ := hH h0 _ k_h0
  refine hg_put (ty := .int) hx hb hG igX12 tyX12 tyX12_ok nmX12 hown hK hS o_c_62 (AF.of k_h0) rfl 5 (by decide) (hG _ mw_1289) rfl (by decide +kernel) rfl rfl (Nat.le_of_ble_eq_true rfl) dX12_laws_2 (fun H locs o_c_62 hz oq hS => ?_)
  obtain ⟨G_65, eG_65⟩ : ∃ z : Gh, z = gset G 105 0 := ⟨_, rfl⟩
  have hH : HT g Ty G_65 H := by rw [eG_65]; exact HT.putN 105 0 hH k_h0 ⟨rfl, t_63, hk_64⟩ o_c_62 oq (Or.inr (Or.inr (Or.inr (Or.inr (Or.inr ⟨by decide, t_63⟩)))))
  have fr_66 : FR [104, 105] [] [] G G_65 := FR.n FR.rf eG_65 (by decide)
  have u_67 : G_65.1 102 = (G.1 102) := by rw [eG_65]; exact (gs_ne (by decide))
  have u_68 : G_65.1 104 = (G.1 104) := by rw [eG_65]; exact (gs_ne (by decide))
  have u_69 : G_65.1 113 = (G.1 113) := by rw [eG_65]; exact (gs_ne (by decide))
  have u_70 : G_65.1 122 = (G.1 122) := by rw [eG_65]; exact (gs_ne (by decide))
  have u_71 : G_65.1 133 = (G.1 133) := by rw [eG_65]; exact (gs_ne (by decide))
  have u_72 : G_65.1 137 = (G.1 137) := by rw [eG_65]; exact (gs_ne (by decide))
  have u_73 : G_65.1 105 = 0 := by rw [eG_65]; exact gs_eq
  have w_74 : G_65.2.1 (g.2.2 100) = (G.2.1 (g.2.2 100)) := by rw [eG_65]; exact rfl
  have w_75 : G_65.2.1 (g.2.2 121) = (G.2.1 (g.2.2 121)) := by rw [eG_65]; exact rfl
  have w_76 : G_65.2.1 (g.2.2 140) = (G.2.1 (g.2.2 140)) := by rw [eG_65]; exact rfl
  have w_77 : G_65.2.1 (g.2.2 141) = (G.2.1 (g.2.2 141)) := by rw [eG_65]; exact rfl
  have w_78 : G_65.2.1 (g.2.2 111) = (G.2.1 (g.2.2 111)) := by rw [eG_65]; exact rfl
  have u_79 : G_65.2.2 111 = some (g.2.2 111) := by rw [eG_65]; exact hI.r111
  have u_80 : G_65.2.2 112 = some (g.2.2 112) := by rw [eG_65]; exact hI.r112
  clear oq hz
  refine lv_iconst (v := 0) hx hb dX12_laws_5 (by decide) ?_
  refine lv_istore_n (lv' := [(1, .int 0), (0, .ref h0)]) hx hb dX12_laws_6 rfl hl (by decide) rfl (fun ls hl => ?_)
  refine lv_aload_n hx hb dX12_laws_7 rfl (lv_at hl 1 rfl) ?_
  refine lv_iconst (v := 0) hx hb dX12_laws_8 (by decide) ?_
  obtain ⟨_, ⟨rfl, t_82, hk_83⟩, o_c_81⟩ := hH h0 _ k_h0
  refine hg_put (ty := .int) hx hb hG igX12 tyX12 tyX12_ok nmX12 hown hK hS o_c_81 (AF.of k_h0) rfl 4 (by decide) (hG _ mw_1288) rfl (by decide +kernel) rfl rfl (Nat.le_of_ble_eq_true rfl) dX12_laws_9 (fun H locs o_c_81 hz oq hS => ?_)
  obtain ⟨G_84, eG_84⟩ : ∃ z : Gh, z = gset G_65 104 0 := ⟨_, rfl⟩
  have hH : HT g Ty G_84 H := by rw [eG_84]; exact HT.putN 104 0 hH k_h0 ⟨rfl, t_82, hk_83⟩ o_c_81 oq (Or.inr (Or.inr (Or.inr (Or.inr (Or.inr ⟨by decide, t_82⟩)))))
  have fr_85 : FR [104, 105] [] [] G G_84 := FR.n fr_66 eG_84 (by decide)
  have u_86 : G_84.1 102 = (G.1 102) := by rw [eG_84]; exact (gs_ne (by decide)).trans u_67
  have u_87 : G_84.1 113 = (G.1 113) := by rw [eG_84]; exact (gs_ne (by decide)).trans u_69
  have u_88 : G_84.1 122 = (G.1 122) := by rw [eG_84]; exact (gs_ne (by decide)).trans u_70
  have u_89 : G_84.1 133 = (G.1 133) := by rw [eG_84]; exact (gs_ne (by decide)).trans u_71
  have u_90 : G_84.1 137 = (G.1 137) := by rw [eG_84]; exact (gs_ne (by decide)).trans u_72
  have u_91 : G_84.1 105 = 0 := by rw [eG_84]; exact (gs_ne (by decide)).trans u_73
  have u_92 : G_84.1 104 = 0 := by rw [eG_84]; exact gs_eq
  have w_93 : G_84.2.1 (g.2.2 100) = (G.2.1 (g.2.2 100)) := by rw [eG_84]; exact w_74
  have w_94 : G_84.2.1 (g.2.2 121) = (G.2.1 (g.2.2 121)) := by rw [eG_84]; exact w_75
  have w_95 : G_84.2.1 (g.2.2 140) = (G.2.1 (g.2.2 140)) := by rw [eG_84]; exact w_76
  have w_96 : G_84.2.1 (g.2.2 141) = (G.2.1 (g.2.2 141)) := by rw [eG_84]; exact w_77
  have w_97 : G_84.2.1 (g.2.2 111) = (G.2.1 (g.2.2 111)) := by rw [eG_84]; exact w_78
  have u_98 : G_84.2.2 111 = some (g.2.2 111) := by rw [eG_84]; exact u_79
  have u_99 : G_84.2.2 112 = some (g.2.2 112) := by rw [eG_84]; exact u_80
  clear oq hz
  refine lv_iconst (v := 0) hx hb dX12_laws_12 (by decide) ?_
  refine lv_istore_n (lv' := [(2, .int 0), (1, .int 0), (0, .ref h0)]) hx hb dX12_laws_13 rfl hl (by decide) rfl (fun ls hl => ?_)
  exact L_14 _ H locs G_84 0 0 ls (by rw [u_92]; exact rg_w rl_0 (by decide) (by decide)) fr_85 (rg_w rl_0 (by decide) (by decide)) ⟨by decide, by decide⟩ (Or.inr u_92) (Nat.lt_succ_self _) rfl (lv_sub hl [2, 1, 0] rfl) hH hS
