/-! ===== bits (the first family is pasted from kit/laws/BITS) ===== -/
def bt (x : Int32) (i : Nat) : Bool := x.toBitVec.getLsbD i
theorem b_ext {x y : Int32} (h : ∀ i, i < 32 → bt x i = bt y i) : x = y := Int32.toBitVec_inj.mp (BitVec.eq_of_getLsbD_eq (fun i hi => h i hi))
theorem b_or (x y : Int32) (i : Nat) : bt (x ||| y) i = (bt x i || bt y i) := by unfold bt; rw [Int32.toBitVec_or, BitVec.getLsbD_or]
theorem b_and (x y : Int32) (i : Nat) : bt (x &&& y) i = (bt x i && bt y i) := by unfold bt; rw [Int32.toBitVec_and, BitVec.getLsbD_and]
theorem b_xor (x y : Int32) (i : Nat) : bt (x ^^^ y) i = (bt x i ^^ bt y i) := by unfold bt; rw [Int32.toBitVec_xor, BitVec.getLsbD_xor]
theorem b_big {x : Int32} {i : Nat} (h : 32 ≤ i) : bt x i = false := BitVec.getLsbD_of_ge _ _ h
theorem b_255 (i : Nat) : bt 255 i = decide (i < 8) := by
  rcases Nat.lt_or_ge i 32 with h | h
  · exact (by decide +kernel : ∀ i, i < 32 → bt 255 i = decide (i < 8)) i h
  · rw [b_big h, decide_eq_false (by omega)]
theorem b_65535 (i : Nat) : bt 65535 i = decide (i < 16) := by
  rcases Nat.lt_or_ge i 32 with h | h
  · exact (by decide +kernel : ∀ i, i < 32 → bt 65535 i = decide (i < 16)) i h
  · rw [b_big h, decide_eq_false (by omega)]
theorem b_m1 : ∀ i, i < 32 → bt (-1) i = true := by decide +kernel
theorem b_0 (i : Nat) : bt 0 i = false := BitVec.getLsbD_zero
theorem s_l : ∀ n, n < 32 → ((nI n &&& 31).toBitVec.smod 32).toNat = n := by decide +kernel
theorem s_u : ∀ n, n < 32 → (((nI n).toUInt32 &&& Int32.toUInt32 31).toBitVec % 32).toNat = n := by decide +kernel
theorem b_shl (n : Nat) (hn : n < 32) (x : Int32) {i : Nat} (hi : i < 32) : bt (x <<< (nI n &&& 31)) i = (decide (n ≤ i) && bt x (i - n)) := by
  unfold bt
  rw [Int32.toBitVec_shiftLeft]
  show (x.toBitVec <<< ((nI n &&& 31).toBitVec.smod 32).toNat).getLsbD i = _
  rw [s_l n hn, BitVec.getLsbD_shiftLeft]
  rcases Nat.lt_or_ge i n with h | h
  · simp [h, Nat.not_le.mpr h]
  · simp [hi, h, Nat.not_lt.mpr h]
theorem b_ushr (n : Nat) (hn : n < 32) (x : Int32) (i : Nat) : bt ((x.toUInt32 >>> ((nI n).toUInt32 &&& Int32.toUInt32 31)).toInt32) i = bt x (n + i) := by
  show (x.toUInt32 >>> ((nI n).toUInt32 &&& Int32.toUInt32 31)).toBitVec.getLsbD i = x.toUInt32.toBitVec.getLsbD (n + i)
  rw [UInt32.toBitVec_shiftRight]
  show (x.toUInt32.toBitVec >>> (((nI n).toUInt32 &&& Int32.toUInt32 31).toBitVec % 32).toNat).getLsbD i = _
  rw [s_u n hn, BitVec.getLsbD_ushiftRight]
theorem b_sshr (n : Nat) (hn : n < 32) (x : Int32) {i : Nat} (hi : i < 32) : bt (x >>> (nI n &&& 31)) i = if n + i < 32 then bt x (n + i) else bt x 31 := by
  unfold bt
  rw [Int32.toBitVec_shiftRight]
  show (x.toBitVec.sshiftRight ((nI n &&& 31).toBitVec.smod 32).toNat).getLsbD i = _
  rw [s_l n hn, BitVec.getLsbD_sshiftRight, BitVec.msb_eq_getLsbD_last]
  simp [hi]
theorem b_shl8 (x : Int32) {i : Nat} (hi : i < 32) : bt (x <<< ((8 : Int32) &&& 31)) i = (decide (8 ≤ i) && bt x (i - 8)) := b_shl 8 (by omega) x hi
theorem b_shl16 (x : Int32) {i : Nat} (hi : i < 32) : bt (x <<< ((16 : Int32) &&& 31)) i = (decide (16 ≤ i) && bt x (i - 16)) := b_shl 16 (by omega) x hi
theorem b_shl24 (x : Int32) {i : Nat} (hi : i < 32) : bt (x <<< ((24 : Int32) &&& 31)) i = (decide (24 ≤ i) && bt x (i - 24)) := b_shl 24 (by omega) x hi
theorem b_sshr8 (x : Int32) {i : Nat} (hi : i < 32) : bt (x >>> ((8 : Int32) &&& 31)) i = if 8 + i < 32 then bt x (8 + i) else bt x 31 := b_sshr 8 (by omega) x hi
/-- bits of mounts that are there alone -/
def SB (f : Nat → Int32) (x : Int32) : Prop := ∀ i, bt x i = true → i < 24 ∧ thr f (nI i)
theorem SB.zero {f : Nat → Int32} : SB f 0 := fun i h => by rw [b_0] at h; cases h
theorem SB.or {f : Nat → Int32} {x y : Int32} (hx : SB f x) (hy : SB f y) : SB f (x ||| y) := fun i h => by
  rw [b_or] at h
  cases e : bt x i with
  | true => exact hx i e
  | false => rw [e, Bool.false_or] at h; exact hy i h
theorem bt_one {n i : Nat} (hn : n < 32) (h : bt ((1 : Int32) <<< (nI n &&& 31)) i = true) : i = n := by
  rcases Nat.lt_or_ge i 32 with q | q
  · rw [b_shl n hn 1 q] at h
    rw [Bool.and_eq_true] at h
    have h1 := of_decide_eq_true h.1
    have h2 := h.2
    have : ∀ j, j < 32 → bt 1 j = decide (j = 0) := by decide +kernel
    rw [this (i - n) (by omega)] at h2
    have := of_decide_eq_true h2
    omega
  · rw [b_big q] at h; cases h
theorem thr_nI {f : Nat → Int32} {k : Int32} (h : thr f k) : ∃ j : Nat, j < 24 ∧ k = nI j := by
  obtain ⟨j, hj, e⟩ := nI_of (x := k) (fun q => by have := fz_lt.mp q; have z : (0 : Int32).toInt = 0 := rfl; have := h.1.1; omega)
  refine ⟨j, ?_, e⟩
  have h2 := h.1.2
  rw [e, nI_toInt hj] at h2
  omega
theorem SB.one {f : Nat → Int32} {k : Int32} (h : thr f k) : SB f ((1 : Int32) <<< (k &&& 31)) := by
  obtain ⟨j, hj, e⟩ := thr_nI h
  intro i hi
  rw [e] at hi
  have := bt_one (by omega) hi
  subst this
  exact ⟨hj, by rw [← e]; exact h⟩
theorem SB_inGroup_4 {f : Nat → Int32} : ∀ (n : Nat) (y1 y2 y3 : Int32), SB f y2 → SB f (F_X12_inGroup_4 f n y1 y2 y3) := by
  intro n
  induction n with
  | zero => intro y1 y2 y3 h; exact h
  | succ n ih =>
    intro y1 y2 y3 h
    rw [F_X12_inGroup_4]
    split
    · exact h
    · split
      · exact ih _ _ _ (h.or SB.zero)
      · rename_i c
        split
        · exact ih _ _ _ (h.or (SB.one (F_isThere_thr c)))
        · exact ih _ _ _ (h.or SB.zero)
theorem SB_inGroup {f : Nat → Int32} {g : Int32} : SB f (F_X12_inGroup f g) := SB_inGroup_4 _ _ _ _ SB.zero
theorem SB_slavesOf_4 {f : Nat → Int32} : ∀ (n : Nat) (y1 y2 y3 : Int32), SB f y2 → SB f (F_X12_slavesOf_4 f n y1 y2 y3) := by
  intro n
  induction n with
  | zero => intro y1 y2 y3 h; exact h
  | succ n ih =>
    intro y1 y2 y3 h
    rw [F_X12_slavesOf_4]
    split
    · exact h
    · split
      · exact ih _ _ _ (h.or SB.zero)
      · rename_i c
        split
        · exact ih _ _ _ (h.or (SB.one (F_isThere_thr c)))
        · exact ih _ _ _ (h.or SB.zero)
theorem SB_slavesOf {f : Nat → Int32} {g : Int32} : SB f (F_X12_slavesOf f g) := SB_slavesOf_4 _ _ _ _ SB.zero
def tn (x : Int32) : Nat := x.toBitVec.toNat
theorem tn_inj {x y : Int32} (h : tn x = tn y) : x = y := Int32.toBitVec_inj.mp (BitVec.eq_of_toNat_eq h)
theorem tn_or (x y : Int32) : tn x ≤ tn (x ||| y) := by
  unfold tn
  rw [Int32.toBitVec_or, BitVec.toNat_or]
  exact Nat.left_le_or
theorem SB.lt {f : Nat → Int32} {x : Int32} (h : SB f x) : tn x < 16777216 := by
  have : tn x < 2 ^ 24 := Nat.lt_pow_two_of_testBit _ (fun i hi => by
    cases e : (tn x).testBit i with
    | false => rfl
    | true =>
      have : bt x i = true := by unfold bt; rw [← BitVec.testBit_toNat]; exact e
      have := (h i this).1
      omega)
  exact this
def sp_m (was bits : Int32) : Nat := 2 * (16777216 - tn bits) + (if was = bits then 0 else 1)
theorem sp_le (was bits : Int32) : sp_m was bits < 33554434 := by unfold sp_m; split <;> omega
theorem sp_dec {f : Nat → Int32} {was b0 b1 : Int32} {n : Nat} (hm : sp_m was b0 < n + 1) (hc : ¬ was = b0) (h : tn b0 ≤ tn b1) (hs : SB f b1) : sp_m b0 b1 < n := by
  have hl := hs.lt
  unfold sp_m at hm ⊢
  rw [if_neg hc] at hm
  by_cases e : b0 = b1
  · rw [if_pos e, ← e]; omega
  · rw [if_neg e]
    have : tn b0 ≠ tn b1 := fun q => e (tn_inj q)
    omega
