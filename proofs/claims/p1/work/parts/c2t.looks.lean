/-! ===== the look that leaves the fewest ===== -/
theorem c_J13_bitCount_y (l : Launch) (g : Gx) (Ty : TyM) (G : Gh) (j0 : Int64) (n : Nat) (hn : n < 1099511627776) (hj : j0 = lN n) : Met l yJ13_bitCount_95d88 (wsG yJ13_bitCount_95d88 cJ13_bitCount_95d88 2 (some .int)) ({ frames := 0, cells := 0, slots := 0, locals := 0 }) (PcH g Ty G [.long j0]) (vp_Si (fun r => r = nI (cL n))) 0 0 (fun _ => False) := by
  subst hj
  exact c_J13_bitCount_x l g Ty G n hn
def mxI (x y : Int32) : Int32 := if x < y then y else x
/-- how many laws are left at most, as the class reckons it -/
def lfC (F : Nat) (n k : Int32) : Int32 := mxI (nI (cL (F &&& brN n k 35))) (nI (cL F) - nI (cL (F &&& brN n k 35)))
def yn (f c : Int32 → Int32) : Nat → Int32 → Int32 → Int32 → Int32 × Int32
  | 0, _, y, z => (y, z)
  | d + 1, x, y, z => if (35 : Int32) ≤ x then (y, z) else if f x = 0 then yn f c d (x + 1) y z else if c x = 0 then yn f c d (x + 1) y (z + 1) else yn f c d (x + 1) (y + 1) z
/-- the same, as the reference does -/
def lfR (f : Int32 → Int32) (n k : Int32) : Int32 := mxI (yn f (fun x => F_X12_comesBy x n k) 36 0 0 0).1 (yn f (fun x => F_X12_comesBy x n k) 36 0 0 0).2
def lkI (h : Int32 → Int32 → Int32) : Nat → Int32 → Int32 → Int32 → Int32 → Int32 × Int32
  | 0, _, _, b, m => (b, m)
  | d + 1, n, k, b, m => if (4 : Int32) < k then (b, m) else if h n k < m then lkI h d n (k + 1) (10 * n + k) (h n k) else lkI h d n (k + 1) b m
def lkO (h : Int32 → Int32 → Int32) : Nat → Int32 → Int32 → Int32 → Int32 × Int32
  | 0, _, b, m => (b, m)
  | d + 1, n, b, m => if (9 : Int32) < n then (b, m) else lkO h d (n + 1) (lkI h 6 n 0 b m).1 (lkI h 6 n 0 b m).2
def ckI (h : Int32 → Int32 → Int32) : Nat → Int32 → Int32 → Int32 → Int32 → Int32 × Int32
  | 0, _, _, b, m => (b, m)
  | d + 1, n, k, b, m => if (4 : Int32) < k then (b, m) else if b = -1 then ckI h d n (k + 1) (10 * n + k) (h n k) else if m ≤ h n k then ckI h d n (k + 1) b m else ckI h d n (k + 1) (10 * n + k) (h n k)
def ckO (h : Int32 → Int32 → Int32) : Nat → Int32 → Int32 → Int32 → Int32 × Int32
  | 0, _, b, m => (b, m)
  | d + 1, n, b, m => if (9 : Int32) < n then (b, m) else ckO h d (n + 1) (ckI h 6 n 0 b m).1 (ckI h 6 n 0 b m).2
section YNs
variable {f c : Int32 → Int32} {d : Nat} {x y z : Int32} {T : Int32 × Int32}
theorem yn_s : yn f c (d + 1) x y z = if (35 : Int32) ≤ x then (y, z) else if f x = 0 then yn f c d (x + 1) y z else if c x = 0 then yn f c d (x + 1) y (z + 1) else yn f c d (x + 1) (y + 1) z := rfl
theorem yn_e (h : yn f c (d + 1) x y z = T) (q : (35 : Int32) ≤ x) : (y, z) = T := by rw [yn_s, if_pos q] at h; exact h
theorem yn_0 (h : yn f c (d + 1) x y z = T) (q : ¬ (35 : Int32) ≤ x) (w : f x = 0) : yn f c d (x + 1) y z = T := by rw [yn_s, if_neg q, if_pos w] at h; exact h
theorem yn_n (h : yn f c (d + 1) x y z = T) (q : ¬ (35 : Int32) ≤ x) (w : ¬ f x = 0) (v : c x = 0) : yn f c d (x + 1) y (z + 1) = T := by rw [yn_s, if_neg q, if_neg w, if_pos v] at h; exact h
theorem yn_y (h : yn f c (d + 1) x y z = T) (q : ¬ (35 : Int32) ≤ x) (w : ¬ f x = 0) (v : ¬ c x = 0) : yn f c d (x + 1) (y + 1) z = T := by rw [yn_s, if_neg q, if_neg w, if_neg v] at h; exact h
theorem yn_ct (p q : Nat → Bool) (hp : ∀ j, j < 35 → (p j = true ↔ (¬ f (nI j) = 0 ∧ ¬ c (nI j) = 0))) (hq : ∀ j, j < 35 → (q j = true ↔ (¬ f (nI j) = 0 ∧ c (nI j) = 0))) : ∀ d j, j + d = 35 → yn f c (d + 1) (nI j) (nI (ct p j)) (nI (ct q j)) = (nI (ct p 35), nI (ct q 35))
  | 0, j, h => by
    have e : j = 35 := by omega
    subst e
    rw [yn_s, if_pos (by decide)]
  | d + 1, j, h => by
    have hj : j < 35 := by omega
    have w : ¬ (35 : Int32) ≤ nI j := fun w => by
      have w := fz_le.mp w
      rw [nI_toInt (by omega)] at w
      have z : (35 : Int32).toInt = 35 := rfl
      omega
    have e1 : ct p (j + 1) = ct p j + (if p j then 1 else 0) := rfl
    have e2 : ct q (j + 1) = ct q j + (if q j then 1 else 0) := rfl
    have ih := yn_ct p q hp hq d (j + 1) (by omega)
    rw [yn_s, if_neg w, nI_1]
    by_cases z : f (nI j) = 0
    · have b1 : ¬ p j = true := fun a => ((hp j hj).mp a).1 z
      have b2 : ¬ q j = true := fun a => ((hq j hj).mp a).1 z
      rw [if_pos z]
      rw [e1, e2, if_neg b1, if_neg b2, Nat.add_zero, Nat.add_zero] at ih
      exact ih
    · by_cases v : c (nI j) = 0
      · have b1 : ¬ p j = true := fun a => ((hp j hj).mp a).2 v
        have b2 : q j = true := (hq j hj).mpr ⟨z, v⟩
        rw [if_neg z, if_pos v, nI_1]
        rw [e1, e2, if_neg b1, if_pos b2, Nat.add_zero] at ih
        exact ih
      · have b1 : p j = true := (hp j hj).mpr ⟨z, v⟩
        have b2 : ¬ q j = true := fun a => v ((hq j hj).mp a).2
        rw [if_neg z, if_neg v, nI_1]
        rw [e1, e2, if_pos b1, if_neg b2, Nat.add_zero] at ih
        exact ih
end YNs
theorem i_no2 {a b : Int32} (h1 : a < b) (h2 : b ≤ a) : False := by
  have := fz_lt.mp h1; have := fz_le.mp h2
  omega
theorem lN_0 {n : Nat} (h : n < 18446744073709551616) (e : lN n = 0) : n = 0 := by
  have q := congrArg (fun x : Int64 => x.toBitVec.toNat) e
  rw [wb_tn h] at q
  exact q
section LKs
variable {h : Int32 → Int32 → Int32} {d : Nat} {n k b m : Int32} {T : Int32 × Int32}
theorem lkI_s : lkI h (d + 1) n k b m = if (4 : Int32) < k then (b, m) else if h n k < m then lkI h d n (k + 1) (10 * n + k) (h n k) else lkI h d n (k + 1) b m := rfl
theorem lkO_s : lkO h (d + 1) n b m = if (9 : Int32) < n then (b, m) else lkO h d (n + 1) (lkI h 6 n 0 b m).1 (lkI h 6 n 0 b m).2 := rfl
theorem ckI_s : ckI h (d + 1) n k b m = if (4 : Int32) < k then (b, m) else if b = -1 then ckI h d n (k + 1) (10 * n + k) (h n k) else if m ≤ h n k then ckI h d n (k + 1) b m else ckI h d n (k + 1) (10 * n + k) (h n k) := rfl
theorem ckO_s : ckO h (d + 1) n b m = if (9 : Int32) < n then (b, m) else ckO h d (n + 1) (ckI h 6 n 0 b m).1 (ckI h 6 n 0 b m).2 := rfl
theorem lkI_e (q : lkI h (d + 1) n k b m = T) (c : (4 : Int32) < k) : (b, m) = T := by rw [lkI_s, if_pos c] at q; exact q
theorem lkI_u (q : lkI h (d + 1) n k b m = T) (c : ¬ (4 : Int32) < k) (w : h n k < m) : lkI h d n (k + 1) (10 * n + k) (h n k) = T := by rw [lkI_s, if_neg c, if_pos w] at q; exact q
theorem lkI_k (q : lkI h (d + 1) n k b m = T) (c : ¬ (4 : Int32) < k) (w : ¬ h n k < m) : lkI h d n (k + 1) b m = T := by rw [lkI_s, if_neg c, if_neg w] at q; exact q
theorem lkO_e (q : lkO h (d + 1) n b m = T) (c : (9 : Int32) < n) : (b, m) = T := by rw [lkO_s, if_pos c] at q; exact q
theorem lkO_n (q : lkO h (d + 1) n b m = T) (c : ¬ (9 : Int32) < n) : lkO h d (n + 1) (lkI h 6 n 0 b m).1 (lkI h 6 n 0 b m).2 = T := by rw [lkO_s, if_neg c] at q; exact q
theorem ckI_e (q : ckI h (d + 1) n k b m = T) (c : (4 : Int32) < k) : (b, m) = T := by rw [ckI_s, if_pos c] at q; exact q
theorem ckI_u (q : ckI h (d + 1) n k b m = T) (c : ¬ (4 : Int32) < k) (w : b = -1) : ckI h d n (k + 1) (10 * n + k) (h n k) = T := by rw [ckI_s, if_neg c, if_pos w] at q; exact q
theorem ckI_v (q : ckI h (d + 1) n k b m = T) (c : ¬ (4 : Int32) < k) (w : ¬ b = -1) (v : ¬ m ≤ h n k) : ckI h d n (k + 1) (10 * n + k) (h n k) = T := by rw [ckI_s, if_neg c, if_neg w, if_neg v] at q; exact q
theorem ckI_k (q : ckI h (d + 1) n k b m = T) (c : ¬ (4 : Int32) < k) (w : ¬ b = -1) (v : m ≤ h n k) : ckI h d n (k + 1) b m = T := by rw [ckI_s, if_neg c, if_neg w, if_pos v] at q; exact q
theorem ckO_e (q : ckO h (d + 1) n b m = T) (c : (9 : Int32) < n) : (b, m) = T := by rw [ckO_s, if_pos c] at q; exact q
theorem ckO_n (q : ckO h (d + 1) n b m = T) (c : ¬ (9 : Int32) < n) : ckO h d (n + 1) (ckI h 6 n 0 b m).1 (ckI h 6 n 0 b m).2 = T := by rw [ckO_s, if_neg c] at q; exact q
theorem lk_nm {n k : Int32} (hn : rgI 0 9 n) (hk : rgI 0 4 k) : ¬ 10 * n + k = -1 := fun q => by
  have a := rg_add (rg_mul (show rgI 10 10 (10 : Int32) from ⟨by decide, by decide⟩) hn (by decide) (by decide) (by decide)) hk (by decide) (by decide)
  have b := a.1
  rw [q] at b
  exact absurd b (by decide)
theorem same_I {n : Int32} (hn : rgI 0 9 n) : ∀ (d : Nat) (k b m : Int32), rgI 0 5 k → ¬ b = -1 → ckI h d n k b m = lkI h d n k b m ∧ ¬ (lkI h d n k b m).1 = -1
  | 0, _, _, _, _, hb => ⟨rfl, hb⟩
  | d + 1, k, b, m, hk, hb => by
    rw [ckI_s, lkI_s]
    by_cases c : (4 : Int32) < k
    · rw [if_pos c, if_pos c]; exact ⟨rfl, hb⟩
    · have c2 := mt fz_lt.mpr c
      have z4 : (4 : Int32).toInt = 4 := rfl
      have hk4 : rgI 0 4 k := ⟨hk.1, by omega⟩
      have e1 : (k + 1).toInt = k.toInt + 1 := rg_addE hk (show rgI 1 1 (1 : Int32) from ⟨by decide, by decide⟩) (by decide) (by decide)
      have hk1 : rgI 0 5 (k + 1) := ⟨by have := hk.1; omega, by have := hk4.2; omega⟩
      rw [if_neg c, if_neg c, if_neg hb]
      by_cases w : h n k < m
      · have v : ¬ m ≤ h n k := fun v => i_no2 w v
        rw [if_pos w, if_neg v]
        exact same_I hn d (k + 1) _ _ hk1 (lk_nm hn hk4)
      · have v : m ≤ h n k := nlt_le w
        rw [if_neg w, if_pos v]
        exact same_I hn d (k + 1) _ _ hk1 hb
theorem same_O : ∀ (d : Nat) (n b m : Int32), rgI 0 10 n → ¬ b = -1 → ckO h d n b m = lkO h d n b m ∧ ¬ (lkO h d n b m).1 = -1
  | 0, _, _, _, _, hb => ⟨rfl, hb⟩
  | d + 1, n, b, m, hn, hb => by
    rw [ckO_s, lkO_s]
    by_cases c : (9 : Int32) < n
    · rw [if_pos c, if_pos c]; exact ⟨rfl, hb⟩
    · have c2 := mt fz_lt.mpr c
      have z9 : (9 : Int32).toInt = 9 := rfl
      have hn9 : rgI 0 9 n := ⟨hn.1, by omega⟩
      have e1 : (n + 1).toInt = n.toInt + 1 := rg_addE hn (show rgI 1 1 (1 : Int32) from ⟨by decide, by decide⟩) (by decide) (by decide)
      obtain ⟨s1, s2⟩ := same_I (h := h) hn9 6 0 b m ⟨by decide, by decide⟩ hb
      rw [if_neg c, if_neg c, s1]
      exact same_O d (n + 1) _ _ ⟨by have := hn.1; omega, by have := hn9.2; omega⟩ s2
theorem pos_I (hp : ∀ n k, ¬ h n k = 0) : ∀ (d : Nat) (n k b m : Int32), ¬ m = 0 → ¬ (lkI h d n k b m).2 = 0
  | 0, _, _, _, _, hm => hm
  | d + 1, n, k, b, m, hm => by
    rw [lkI_s]
    split
    · exact hm
    · split
      · exact pos_I hp d _ _ _ _ (hp n k)
      · exact pos_I hp d _ _ _ _ hm
theorem pos_O (hp : ∀ n k, ¬ h n k = 0) : ∀ (d : Nat) (n b m : Int32), ¬ m = 0 → ¬ (lkO h d n b m).2 = 0
  | 0, _, _, _, hm => hm
  | d + 1, n, b, m, hm => by
    rw [lkO_s]
    split
    · exact hm
    · exact pos_O hp d _ _ _ (pos_I hp 6 _ _ _ _ hm)
theorem zer_I (hp : ∀ n k, h n k = 0) : ∀ (d : Nat) (n k b : Int32), (lkI h d n k b 0).2 = 0
  | 0, _, _, _ => rfl
  | d + 1, n, k, b => by
    rw [lkI_s, hp]
    split
    · rfl
    · split
      · exact zer_I hp d _ _ _
      · exact zer_I hp d _ _ _
theorem zer_O (hp : ∀ n k, h n k = 0) : ∀ (d : Nat) (n b m : Int32), m = 0 → (lkO h d n b m).2 = 0
  | 0, _, _, m, e => e
  | d + 1, n, b, m, e => by
    subst e
    rw [lkO_s]
    split
    · rfl
    · exact zer_O hp d _ _ _ (zer_I hp 6 _ _ _)
/-- the class's and the reference's search end alike -/
theorem look_end {F : Nat} (hF : F = 0 → ∀ n k, h n k = 0) (hF2 : ¬ F = 0 → ∀ n k, ¬ h n k = 0) (hb : ∀ n k, h n k < 1000000) {r r2 t : Int32} (ht : t = if F = 0 then -1 else (ckO h 11 0 (-1) 0).1) (hr : r = if t = -1 then -2 else t) (hr2 : r2 = if (lkO h 11 0 (-1) 1000000).2 = 0 then -2 else (lkO h 11 0 (-1) 1000000).1) : r = r2 := by
  have a1 : ckI h 6 0 0 (-1) 0 = ckI h 5 0 (0 + 1) (10 * 0 + 0) (h 0 0) := by rw [ckI_s, if_neg (by decide), if_pos rfl]
  have a2 : lkI h 6 0 0 (-1) 1000000 = lkI h 5 0 (0 + 1) (10 * 0 + 0) (h 0 0) := by rw [lkI_s, if_neg (by decide), if_pos (hb 0 0)]
  have b1 : ckO h 11 0 (-1) 0 = ckO h 10 (0 + 1) (ckI h 6 0 0 (-1) 0).1 (ckI h 6 0 0 (-1) 0).2 := by rw [ckO_s, if_neg (by decide)]
  have b2 : lkO h 11 0 (-1) 1000000 = lkO h 10 (0 + 1) (lkI h 6 0 0 (-1) 1000000).1 (lkI h 6 0 0 (-1) 1000000).2 := by rw [lkO_s, if_neg (by decide)]
  obtain ⟨s1, s2⟩ := same_I (h := h) (n := 0) ⟨by decide, by decide⟩ 5 (0 + 1) (10 * 0 + 0) (h 0 0) ⟨by decide, by decide⟩ (by decide)
  rw [a1, s1] at b1
  rw [a2] at b2
  by_cases z : F = 0
  · have q := zer_O (hF z) 10 (0 + 1) (lkI h 5 0 (0 + 1) (10 * 0 + 0) (h 0 0)).1 (lkI h 5 0 (0 + 1) (10 * 0 + 0) (h 0 0)).2 (by rw [hF z]; exact zer_I (hF z) 5 _ _ _)
    rw [if_pos z] at ht
    rw [ht, if_pos rfl] at hr
    rw [b2, if_pos q] at hr2
    rw [hr, hr2]
  · obtain ⟨o1, o2⟩ := same_O (h := h) 10 (0 + 1) (lkI h 5 0 (0 + 1) (10 * 0 + 0) (h 0 0)).1 (lkI h 5 0 (0 + 1) (10 * 0 + 0) (h 0 0)).2 ⟨by decide, by decide⟩ s2
    have q := pos_O (hF2 z) 10 (0 + 1) (lkI h 5 0 (0 + 1) (10 * 0 + 0) (h 0 0)).1 (lkI h 5 0 (0 + 1) (10 * 0 + 0) (h 0 0)).2 (pos_I (hF2 z) 5 _ _ _ _ (hF2 z 0 0))
    rw [if_neg z, b1, o1] at ht
    rw [ht, if_neg o2] at hr
    rw [b2, if_neg q] at hr2
    rw [hr, hr2]
end LKs
theorem ct_and (p q : Nat → Bool) : ∀ n, ct p n = ct (fun j => p j && q j) n + ct (fun j => p j && !q j) n
  | 0 => rfl
  | n + 1 => by
    have ih := ct_and p q n
    have e1 : ct p (n + 1) = ct p n + (if p n then 1 else 0) := rfl
    have e2 : ct (fun j => p j && q j) (n + 1) = ct (fun j => p j && q j) n + (if p n && q n then 1 else 0) := rfl
    have e3 : ct (fun j => p j && !q j) (n + 1) = ct (fun j => p j && !q j) n + (if p n && !q n then 1 else 0) := rfl
    rw [e1, e2, e3]
    cases p n <;> cases q n <;> simp <;> omega
theorem ct_pos {p : Nat → Bool} {i : Nat} : ∀ n, i < n → p i = true → 0 < ct p n
  | 0, h, _ => absurd h (by omega)
  | n + 1, h, q => by
    have e1 : ct p (n + 1) = ct p n + (if p n then 1 else 0) := rfl
    by_cases e : i = n
    · subst e; rw [e1, q]; exact Nat.succ_pos _
    · have := ct_pos n (by omega) q
      omega
theorem nI_sub {a b : Nat} (h : b ≤ a) : nI a - nI b = nI (a - b) := by
  have e : nI a = nI (a - b) + nI b := by rw [nI_add, Nat.sub_add_cancel h]
  rw [e, Int32.add_sub_cancel]
theorem mx_nI {a b : Nat} (ha : a < 1000) (hb : b < 1000) : mxI (nI a) (nI b) = nI (if a < b then b else a) := by
  unfold mxI
  by_cases c : a < b
  · rw [if_pos c, if_pos ((nI_ltI (by omega) (by omega)).mpr c)]
  · rw [if_neg c, if_neg (fun w => c ((nI_ltI (by omega) (by omega)).mp w))]
section LFs
variable {N K A : Nat → Int32}
theorem and_ct {F : Nat} (hF : F ≤ 34359738367) (n k : Int32) : cL (F &&& brN n k 35) = ct (fun j => F.testBit j && cnd n k (nI j)) 35 := by
  have h1 : (F &&& brN n k 35) ≤ 34359738367 := Nat.le_trans Nat.and_le_left hF
  rw [cL_ct (by omega), ct_40 h1]
  refine ct_cong 35 (fun i hi => ?_)
  show (F &&& brN n k 35).testBit i = _
  rw [Nat.testBit_and, brN_tb, decide_eq_true hi, Bool.true_and]
theorem lfC_is {F : Nat} (hF : F ≤ 34359738367) (n k : Int32) : lfC F n k = mxI (nI (ct (fun j => F.testBit j && cnd n k (nI j)) 35)) (nI (ct (fun j => F.testBit j && !cnd n k (nI j)) 35)) := by
  have e := ct_and (fun j => F.testBit j) (fun j => cnd n k (nI j)) 35
  unfold lfC
  rw [and_ct hF, cL_ct (by omega), ct_40 hF, e, nI_sub (Nat.le_add_right _ _), Nat.add_sub_cancel_left]
theorem lfR_is {m : Int32} (hm : rgI 0 10 m) (n k : Int32) : lfR (fun x => isL N K A 11 x m 0) n k = mxI (nI (ct (fun j => (ftN N K A m.toNatClampNeg).testBit j && cnd n k (nI j)) 35)) (nI (ct (fun j => (ftN N K A m.toNatClampNeg).testBit j && !cnd n k (nI j)) 35)) := by
  have one : ¬ (1 : Int32) = 0 := by decide
  have cz : ∀ j : Nat, (F_X12_comesBy (nI j) n k = 0 ↔ cnd n k (nI j) = false) := fun j => by
    rw [comes_cnd]
    cases c : cnd n k (nI j)
    · exact ⟨fun _ => rfl, fun _ => rfl⟩
    · exact ⟨fun w => absurd w one, fun w => absurd w (by decide)⟩
  have w := yn_ct (f := fun x => isL N K A 11 x m 0) (c := fun x => F_X12_comesBy x n k) (fun j => (ftN N K A m.toNatClampNeg).testBit j && cnd n k (nI j)) (fun j => (ftN N K A m.toNatClampNeg).testBit j && !cnd n k (nI j)) (fun j hj => by
    rw [Bool.and_eq_true, fit_bit hm hj]
    refine and_congr Iff.rfl ?_
    show cnd n k (nI j) = true ↔ ¬ F_X12_comesBy (nI j) n k = 0
    rw [cz j]
    cases cnd n k (nI j) <;> simp) (fun j hj => by
    rw [Bool.and_eq_true, fit_bit hm hj]
    refine and_congr Iff.rfl ?_
    show (!cnd n k (nI j)) = true ↔ F_X12_comesBy (nI j) n k = 0
    rw [cz j]
    cases cnd n k (nI j) <;> simp) 35 0 rfl
  have w : yn (fun x => isL N K A 11 x m 0) (fun x => F_X12_comesBy x n k) 36 0 0 0 = _ := w
  unfold lfR
  rw [w]
theorem lf_eq {m : Int32} (hm : rgI 0 10 m) : lfC (ftN N K A m.toNatClampNeg) = lfR (fun x => isL N K A 11 x m 0) := by
  funext n k
  rw [lfC_is (ftN_le _), lfR_is hm]
theorem lfC_0 (n k : Int32) : lfC 0 n k = 0 := by
  rw [lfC_is (Nat.zero_le _)]
  have z : ∀ q : Nat → Bool, ct (fun j => (0 : Nat).testBit j && q j) 35 = 0 := fun q => by
    have : ct (fun j => (0 : Nat).testBit j && q j) 35 = ct (fun _ => false) 35 := ct_cong 35 (fun i _ => by rw [Nat.zero_testBit, Bool.false_and])
    rw [this]; rfl
  rw [z, z]
  rfl
theorem lfC_b {F : Nat} (hF : F ≤ 34359738367) (n k : Int32) : lfC F n k < 1000000 ∧ (¬ F = 0 → ¬ lfC F n k = 0) := by
  have e := ct_and (fun j => F.testBit j) (fun j => cnd n k (nI j)) 35
  have l1 := ct_le (fun j => F.testBit j && cnd n k (nI j)) 35
  have l2 := ct_le (fun j => F.testBit j && !cnd n k (nI j)) 35
  rw [lfC_is hF, mx_nI (by omega) (by omega)]
  generalize ct (fun j => F.testBit j && cnd n k (nI j)) 35 = a at *
  generalize ct (fun j => F.testBit j && !cnd n k (nI j)) 35 = b at *
  have hx : (if a < b then b else a) ≤ 35 := by split <;> omega
  constructor
  · apply fz_lt.mpr
    rw [nI_toInt (by omega)]
    have z : (1000000 : Int32).toInt = 1000000 := by decide
    omega
  · intro hz q
    obtain ⟨i, hi⟩ := Nat.exists_testBit_of_ne_zero hz
    have hi35 : i < 35 := Nat.lt_of_not_le (fun w => by
      rw [Nat.testBit_lt_two_pow (Nat.lt_of_le_of_lt hF (Nat.lt_of_lt_of_le (show 34359738367 < 2 ^ 35 by decide) (Nat.pow_le_pow_right (by decide) w)))] at hi
      exact absurd hi (by decide))
    have p := ct_pos (p := fun j => F.testBit j) 35 hi35 hi
    have q := congrArg Int32.toInt q
    rw [nI_toInt (by omega)] at q
    have z : (0 : Int32).toInt = 0 := rfl
    rw [z] at q
    have : (if a < b then b else a) = 0 := by omega
    split at this <;> omega
/-- both sides' answers of looks -/
def LookC (F : Nat) (r : Int32) : Prop := ∃ t, t = (if F = 0 then -1 else (ckO (lfC F) 11 0 (-1) 0).1) ∧ r = if t = -1 then -2 else t
def LookR (h : Int32 → Int32 → Int32) (r : Int32) : Prop := r = if (lkO h 11 0 (-1) 1000000).2 = 0 then -2 else (lkO h 11 0 (-1) 1000000).1
theorem looks_eq {m r r2 : Int32} (hm : rgI 0 10 m) (h1 : LookC (ftN N K A m.toNatClampNeg) r) (h2 : LookR (lfR (fun x => isL N K A 11 x m 0)) r2) : r = r2 := by
  obtain ⟨t, ht, hr⟩ := h1
  rw [← lf_eq hm] at h2
  exact look_end (F := ftN N K A m.toNatClampNeg) (fun z n k => by rw [z]; exact lfC_0 n k) (fun z n k => (lfC_b (ftN_le _) n k).2 z) (fun n k => (lfC_b (ftN_le _) n k).1) ht hr h2
end LFs
/-- the class's field of what is left at most -/
def MLat (g : Gx) (G : Gh) (h0 : Nat) (ml : Int32) (H : Heap) : Prop := ∃ q1 q2 q3 : Nat, va_at g.1 vwCl (h0, .inr (5, [.ref q1, .ref q2, .ref q3, .int (G.1 2), .int ml])) H
set_option maxHeartbeats 4000000 in
set_option maxRecDepth 100000 in
theorem c_X5_bestLook_x (l : Launch) (g : Gx) (Ty : TyM) (G : Gh) (sz : Nat) (h0 : Nat) (k_h0 : Ty h0 = some (15, 0)) : Met l yX5_bestLook (wsG yX5_bestLook cX5_bestLook 8 (some .int)) ({ frames := 3, cells := 0, slots := 0, locals := 71 }) (PcT g Ty G sz [.ref h0]) (QwI g Ty sz (fun r u => u = (Ty, G) ∧ r = (if (ftN (G.2.1 (g.2.2 52)) (G.2.1 (g.2.2 53)) (G.2.1 (g.2.2 54)) (G.1 2).toNatClampNeg) = 0 then -1 else (ckO (lfC (ftN (G.2.1 (g.2.2 52)) (G.2.1 (g.2.2 53)) (G.2.1 (g.2.2 54)) (G.1 2).toNatClampNeg)) 11 0 (-1) 0).1))) 0 0 (AF Ty sz) := by
  refine Met.ofW (cc := cX5_bestLook) (maxL := 8) (ret := (some .int)) (by decide) rfl ?_
  intro p e s m args below meth c s₁ B hml hv
  obtain ⟨rfl, hsz, hK, hH⟩ := hv
  subst hsz
  have hx := B.exec
  have hb := B.bytes
  have hr := B.returns
  have hts := atoms_spec (ws := (wsG yX5_bestLook cX5_bestLook 8 (some .int))) B.pre
  have hG : ∀ w ∈ GW, w.before ([.ref h0] : List Value).toArray s = true := fun w h => hts w (List.mem_cons_of_mem _ h)
  have hown : s.vm.findClass RX5 = some m.cls := findClass_of_methodNamed B.named
  have hlocks := B.notSynchronized
  have hl := lv_entry [.ref h0] (n := 8) (Nat.le_of_ble_eq_true rfl)
  rw [lg_entry_eq]
  generalize (lg_sl [.ref h0] ++ List.replicate (8 - (lg_sl [.ref h0]).length) Slot.unset).toArray = ls at hl ⊢
  have hl : lv_has ls 8 [(0, .ref h0)] := hl
  have hS : va_S (AF Ty s.heap.size) s.heap s.heap [] := va_S.rf
  have L_101 : ∀ (H : Heap) (locs : List Loc) (y3_101 : Int32) (ls : Array Slot), rgI (-1) (2147483647) y3_101 → y3_101 = (if (ftN (G.2.1 (g.2.2 52)) (G.2.1 (g.2.2 53)) (G.2.1 (g.2.2 54)) (G.1 2).toNatClampNeg) = 0 then -1 else (ckO (lfC (ftN (G.2.1 (g.2.2 52)) (G.2.1 (g.2.2 53)) (G.2.1 (g.2.2 54)) (G.1 2).toNatClampNeg)) 11 0 (-1) 0).1) → lv_has ls 8 [(3, .int y3_101)] → HT g Ty G H → va_S (AF Ty s.heap.size) s.heap H locs → Wm p l e (wsG yX5_bestLook cX5_bestLook 8 (some .int)) ({ frames := 3, cells := 0, slots := 0, locals := 71 }) s m [.ref h0] below meth c H locs (0) (0) (QwI g Ty s.heap.size (fun r u => u = (Ty, G) ∧ r = (if (ftN (G.2.1 (g.2.2 52)) (G.2.1 (g.2.2 53)) (G.2.1 (g.2.2 54)) (G.1 2).toNatClampNeg) = 0 then -1 else (ckO (lfC (ftN (G.2.1 (g.2.2 52)) (G.2.1 (g.2.2 53)) (G.2.1 (g.2.2 54)) (G.1 2).toNatClampNeg)) 11 0 (-1) 0).1))) 0 0 (AF Ty s.heap.size) (F0 m 101 ls []) := by
    intro H locs y3_101 ls ry3_101 hq_101 hl hH hS
    refine lv_iload_n hx hb dX5_bestLook_101 rfl (lv_at hl 0 rfl) ?_
    exact W.iret hx hb hr (fun t ht hWm => ⟨⟨y3_101, (Ty, G), rfl, ⟨rfl, hq_101⟩, by show HT g Ty G t.heap; rw [ht]; exact hH⟩, hS.F ht⟩) hS.2.2 dX5_bestLook_102
  have L_10 : ∀ (n : Nat) (H : Heap) (locs : List Loc) (y1_10 : Int64) (y3_10 : Int32) (y4_10 : Int32) (ls : Array Slot), rgI (-1) (2147483647) y3_10 → rgI (0) (10) y4_10 → (10 - (y4_10).toInt).toNat < n → y1_10 = lN (ftN (G.2.1 (g.2.2 52)) (G.2.1 (g.2.2 53)) (G.2.1 (g.2.2 54)) (G.1 2).toNatClampNeg) → ∀ ML : Int32, (y3_10 = -1 ∨ MLat g G h0 ML H) → ((ftN (G.2.1 (g.2.2 52)) (G.2.1 (g.2.2 53)) (G.2.1 (g.2.2 54)) (G.1 2).toNatClampNeg) = 0 → y3_10 = -1) → ckO (lfC (ftN (G.2.1 (g.2.2 52)) (G.2.1 (g.2.2 53)) (G.2.1 (g.2.2 54)) (G.1 2).toNatClampNeg)) n y4_10 y3_10 ML = ckO (lfC (ftN (G.2.1 (g.2.2 52)) (G.2.1 (g.2.2 53)) (G.2.1 (g.2.2 54)) (G.1 2).toNatClampNeg)) 11 0 (-1) 0 → lv_has ls 8 [(0, .ref h0), (1, .long y1_10), (3, .int y3_10), (4, .int y4_10)] → HT g Ty G H → va_S (AF Ty s.heap.size) s.heap H locs → Wm p l e (wsG yX5_bestLook cX5_bestLook 8 (some .int)) ({ frames := 3, cells := 0, slots := 0, locals := 71 }) s m [.ref h0] below meth c H locs (0) (0) (QwI g Ty s.heap.size (fun r u => u = (Ty, G) ∧ r = (if (ftN (G.2.1 (g.2.2 52)) (G.2.1 (g.2.2 53)) (G.2.1 (g.2.2 54)) (G.1 2).toNatClampNeg) = 0 then -1 else (ckO (lfC (ftN (G.2.1 (g.2.2 52)) (G.2.1 (g.2.2 53)) (G.2.1 (g.2.2 54)) (G.1 2).toNatClampNeg)) 11 0 (-1) 0).1))) 0 0 (AF Ty s.heap.size) (F0 m 10 ls []) := by
    intro n
    induction n with
    | zero => intro H locs y1_10 y3_10 y4_10 ls ry3_10 ry4_10 hm; exact absurd hm (Nat.not_lt_zero _)
    | succ n ih_10 =>
      intro H locs y1_10 y3_10 y4_10 ls ry3_10 ry4_10 hm_10 hF_10 ML_10 hML_10 hz_10 hq_10 hl hH hS
      have hq_o := fun c => ckO_n hq_10 c
      have L_26 : ∀ (n : Nat) (H : Heap) (locs : List Loc) (y3_26 : Int32) (y5_26 : Int32) (ls : Array Slot), rgI (-1) (2147483647) y3_26 → rgI (0) (9) y4_10 → rgI (0) (5) y5_26 → (5 - (y5_26).toInt).toNat < n → ¬ (ftN (G.2.1 (g.2.2 52)) (G.2.1 (g.2.2 53)) (G.2.1 (g.2.2 54)) (G.1 2).toNatClampNeg) = 0 → ∀ ML : Int32, (y3_26 = -1 ∨ MLat g G h0 ML H) → ckI (lfC (ftN (G.2.1 (g.2.2 52)) (G.2.1 (g.2.2 53)) (G.2.1 (g.2.2 54)) (G.1 2).toNatClampNeg)) n y4_10 y5_26 y3_26 ML = ckI (lfC (ftN (G.2.1 (g.2.2 52)) (G.2.1 (g.2.2 53)) (G.2.1 (g.2.2 54)) (G.1 2).toNatClampNeg)) 6 y4_10 0 y3_10 ML_10 → lv_has ls 8 [(0, .ref h0), (1, .long y1_10), (3, .int y3_26), (4, .int y4_10), (5, .int y5_26)] → HT g Ty G H → va_S (AF Ty s.heap.size) s.heap H locs → Wm p l e (wsG yX5_bestLook cX5_bestLook 8 (some .int)) ({ frames := 3, cells := 0, slots := 0, locals := 71 }) s m [.ref h0] below meth c H locs (0) (0) (QwI g Ty s.heap.size (fun r u => u = (Ty, G) ∧ r = (if (ftN (G.2.1 (g.2.2 52)) (G.2.1 (g.2.2 53)) (G.2.1 (g.2.2 54)) (G.1 2).toNatClampNeg) = 0 then -1 else (ckO (lfC (ftN (G.2.1 (g.2.2 52)) (G.2.1 (g.2.2 53)) (G.2.1 (g.2.2 54)) (G.1 2).toNatClampNeg)) 11 0 (-1) 0).1))) 0 0 (AF Ty s.heap.size) (F0 m 26 ls []) := by
        intro n
        induction n with
        | zero => intro H locs y3_26 y5_26 ls ry3_26 ry4_26 ry5_26 hm; exact absurd hm (Nat.not_lt_zero _)
        | succ n ih_26 =>
          intro H locs y3_26 y5_26 ls ry3_26 ry4_26 ry5_26 hm_26 hz_26 ML_26 hML_26 hq_26 hl hH hS
          have L_89 : ∀ (H : Heap) (locs : List Loc) (y3_89 : Int32) (ls : Array Slot), rgI (0) (2147483647) y3_89 → rgI (0) (9) y4_10 → rgI (0) (4) y5_26 → ∀ ML : Int32, MLat g G h0 ML H → ckI (lfC (ftN (G.2.1 (g.2.2 52)) (G.2.1 (g.2.2 53)) (G.2.1 (g.2.2 54)) (G.1 2).toNatClampNeg)) n y4_10 (y5_26 + 1) y3_89 ML = ckI (lfC (ftN (G.2.1 (g.2.2 52)) (G.2.1 (g.2.2 53)) (G.2.1 (g.2.2 54)) (G.1 2).toNatClampNeg)) 6 y4_10 0 y3_10 ML_10 → lv_has ls 8 [(0, .ref h0), (1, .long y1_10), (3, .int y3_89), (4, .int y4_10), (5, .int y5_26)] → HT g Ty G H → va_S (AF Ty s.heap.size) s.heap H locs → Wm p l e (wsG yX5_bestLook cX5_bestLook 8 (some .int)) ({ frames := 3, cells := 0, slots := 0, locals := 71 }) s m [.ref h0] below meth c H locs (0) (0) (QwI g Ty s.heap.size (fun r u => u = (Ty, G) ∧ r = (if (ftN (G.2.1 (g.2.2 52)) (G.2.1 (g.2.2 53)) (G.2.1 (g.2.2 54)) (G.1 2).toNatClampNeg) = 0 then -1 else (ckO (lfC (ftN (G.2.1 (g.2.2 52)) (G.2.1 (g.2.2 53)) (G.2.1 (g.2.2 54)) (G.1 2).toNatClampNeg)) 11 0 (-1) 0).1))) 0 0 (AF Ty s.heap.size) (F0 m 89 ls []) := by
            intro H locs y3_89 ls ry3_89 ry4_89 ry5_89 ML_89 hML_89 hq_89 hl hH hS
            obtain ⟨x_1, ex_1⟩ : ∃ y : Int32, y = y5_26 + 1 := ⟨_, rfl⟩
            have rx_1 : rgI (1) (5) x_1 := by rw [ex_1]; exact rg_w (rg_add ry5_89 rl_1 (by decide) (by decide)) (by decide) (by decide)
            have qx_1 : x_1.toInt = (y5_26 : Int32).toInt + 1 := by rw [ex_1]; exact rg_addE ry5_89 rl_1 (by decide) (by decide)
            refine lv_iinc (v := x_1) (lv' := [(5, .int x_1), (0, .ref h0), (1, .long y1_10), (3, .int y3_89), (4, .int y4_10)]) hx hb dX5_bestLook_89 hl (k := 4) rfl (by rw [ex_1]; rfl) (by decide) rfl (fun ls hl => ?_)
            refine lv_goto (tgt := 26) hx hb dX5_bestLook_92 (by decide) ?_
            exact ih_26 H locs y3_89 x_1 ls (rg_w ry3_89 (by decide) (by decide)) ry4_89 (rg_w rx_1 (by decide) (by decide)) (by have h1 := qx_1; have h2 := ry5_89.1; have h3 := ry5_89.2; have h4 := hm_26; omega) hz_26 ML_89 (Or.inr hML_89) (by rw [ex_1]; exact hq_89) (lv_sub hl [1, 2, 3, 4, 0] rfl) hH hS
          have L_74 : ∀ (H : Heap) (locs : List Loc) (y7_74 : Int32) (ls : Array Slot), rgI (0) (9) y4_10 → rgI (0) (4) y5_26 → y7_74 = lfC (ftN (G.2.1 (g.2.2 52)) (G.2.1 (g.2.2 53)) (G.2.1 (g.2.2 54)) (G.1 2).toNatClampNeg) y4_10 y5_26 → ckI (lfC (ftN (G.2.1 (g.2.2 52)) (G.2.1 (g.2.2 53)) (G.2.1 (g.2.2 54)) (G.1 2).toNatClampNeg)) n y4_10 (y5_26 + 1) (10 * y4_10 + y5_26) (lfC (ftN (G.2.1 (g.2.2 52)) (G.2.1 (g.2.2 53)) (G.2.1 (g.2.2 54)) (G.1 2).toNatClampNeg) y4_10 y5_26) = ckI (lfC (ftN (G.2.1 (g.2.2 52)) (G.2.1 (g.2.2 53)) (G.2.1 (g.2.2 54)) (G.1 2).toNatClampNeg)) 6 y4_10 0 y3_10 ML_10 → lv_has ls 8 [(0, .ref h0), (1, .long y1_10), (4, .int y4_10), (5, .int y5_26), (7, .int y7_74)] → HT g Ty G H → va_S (AF Ty s.heap.size) s.heap H locs → Wm p l e (wsG yX5_bestLook cX5_bestLook 8 (some .int)) ({ frames := 3, cells := 0, slots := 0, locals := 71 }) s m [.ref h0] below meth c H locs (0) (0) (QwI g Ty s.heap.size (fun r u => u = (Ty, G) ∧ r = (if (ftN (G.2.1 (g.2.2 52)) (G.2.1 (g.2.2 53)) (G.2.1 (g.2.2 54)) (G.1 2).toNatClampNeg) = 0 then -1 else (ckO (lfC (ftN (G.2.1 (g.2.2 52)) (G.2.1 (g.2.2 53)) (G.2.1 (g.2.2 54)) (G.1 2).toNatClampNeg)) 11 0 (-1) 0).1))) 0 0 (AF Ty s.heap.size) (F0 m 74 ls []) := by
            intro H locs y7_74 ls ry4_74 ry5_74 hf_74 hq_74 hl hH hS
            refine lv_bipush (v := 10) hx hb dX5_bestLook_74 (by decide) ?_
            refine lv_iload hx hb dX5_bestLook_76 (lv_at hl 2 rfl) ?_
            refine lv_imul hx hb dX5_bestLook_78 ?_
            refine lv_topi (fun x_2 ex_2 => ?_)
            have rx_2 : rgI (0) (90) x_2 := by rw [ex_2]; exact rg_w (rg_mul rl_10 ry4_74 (by decide) (by decide) (by decide)) (by decide) (by decide)
            refine lv_iload hx hb dX5_bestLook_79 (lv_at hl 3 rfl) ?_
            refine lv_iadd hx hb dX5_bestLook_81 ?_
            refine lv_topi (fun x_3 ex_3 => ?_)
            have rx_3 : rgI (0) (94) x_3 := by rw [ex_3]; exact rg_w (rg_add rx_2 ry5_74 (by decide) (by decide)) (by decide) (by decide)
            refine lv_istore_n (lv' := [(3, .int x_3), (0, .ref h0), (1, .long y1_10), (4, .int y4_10), (5, .int y5_26), (7, .int y7_74)]) hx hb dX5_bestLook_82 rfl hl (by decide) rfl (fun ls hl => ?_)
            refine lv_aload_n hx hb dX5_bestLook_83 rfl (lv_at hl 1 rfl) ?_
            refine lv_iload hx hb dX5_bestLook_84 (lv_at hl 5 rfl) ?_
            obtain ⟨_, ⟨q_5, q_6, q_7, q_9, rfl, kq_5, kq_6, kq_7, rq_8, t_10⟩, o_c_4⟩ := hH h0 _ k_h0
            refine hg_put (ty := .int) hx hb hG igX5 tyX5 tyX5_ok nmX5 hown hK hS o_c_4 (AF.of k_h0) rfl 4 (by decide) (hG _ mw_326) rfl (by decide +kernel) rfl rfl (Nat.le_of_ble_eq_true rfl) dX5_bestLook_86 (fun H locs o_c_4 hz oq hS => ?_)
            have o_c_4 : va_at g.1 vwCl (h0, .inr (5, [.ref q_5, .ref q_6, .ref q_7, .int (G.1 2), .int y7_74])) H := o_c_4
            have hM_74 : MLat g G h0 y7_74 H := ⟨q_5, q_6, q_7, o_c_4⟩
            have hH : HT g Ty G H := hH.put k_h0 ⟨q_5, q_6, q_7, y7_74, rfl, kq_5, kq_6, kq_7, rq_8, t_10⟩ o_c_4 oq
            clear oq hz
            exact L_89 H locs x_3 ls (rg_w rx_3 (by decide) (by decide)) ry4_74 ry5_74 y7_74 hM_74 (by rw [ex_3, ex_2, hf_74]; exact hq_74) (lv_sub hl [1, 2, 0, 3, 4] rfl) hH hS
          refine lv_iload hx hb dX5_bestLook_26 (lv_at hl 4 rfl) ?_
          refine lv_iconst (v := 4) hx hb dX5_bestLook_28 (by decide) ?_
          refine lv_icmp_gt (tgt := 95) hx hb dX5_bestLook_29 (by decide) (fun c_11 => ?_) (fun c_11 => ?_)
          · have r_12 : rgI (5) (5) y5_26 := rg_w (rg_ltR rl_4 ry5_26 c_11) (by decide) (by decide)
            obtain ⟨x_13, ex_13⟩ : ∃ y : Int32, y = y4_10 + 1 := ⟨_, rfl⟩
            have rx_13 : rgI (1) (10) x_13 := by rw [ex_13]; exact rg_w (rg_add ry4_26 rl_1 (by decide) (by decide)) (by decide) (by decide)
            have qx_13 : x_13.toInt = (y4_10 : Int32).toInt + 1 := by rw [ex_13]; exact rg_addE ry4_26 rl_1 (by decide) (by decide)
            refine lv_iinc (v := x_13) (lv' := [(4, .int x_13), (0, .ref h0), (1, .long y1_10), (3, .int y3_26), (5, .int y5_26)]) hx hb dX5_bestLook_95 hl (k := 3) rfl (by rw [ex_13]; rfl) (by decide) rfl (fun ls hl => ?_)
            refine lv_goto (tgt := 10) hx hb dX5_bestLook_98 (by decide) ?_
            exact ih_10 H locs y1_10 y3_26 x_13 ls ry3_26 (rg_w rx_13 (by decide) (by decide)) (by have h1 := qx_13; have h2 := ry4_26.1; have h3 := ry4_26.2; have h4 := hm_10; omega) hF_10 ML_26 hML_26 (fun z => absurd z hz_26) (by rw [ex_13]; have e := ckI_e hq_26 c_11; have o := hq_o (fun w => rg_no rl_9 ry4_26 w (by decide)); rw [← e] at o; exact o) (lv_sub hl [1, 2, 3, 0] rfl) hH hS
          · have r_14 : rgI (0) (4) y5_26 := rg_w (rg_leL ry5_26 rl_4 (nlt_le c_11)) (by decide) (by decide)
            refine lv_lload_n hx hb dX5_bestLook_32 rfl (lv_at hl 1 rfl) ?_
            refine lv_iload hx hb dX5_bestLook_33 (lv_at hl 3 rfl) ?_
            refine lv_iload hx hb dX5_bestLook_35 (lv_at hl 4 rfl) ?_
            refine vp_callSl (W.runS (As := [.int y4_10, .int y5_26]) (rest := [.long y1_10]) ⟨hx, hb, hml, hown, hts⟩ (c_X5_bringing_x l g Ty G y4_10 y5_26 ) (cwSx 2 hts hG (gwC mw_1080) mw_86 mw_1078 mw_1079 rfl rfl rfl hd_X5_bringing ⟨Nat.le_of_ble_eq_true rfl, Nat.le_of_ble_eq_true rfl⟩) ⟨PcH_blind, PcH_pre hK hH⟩ rfl rfl hl.1 rfl (lv_room (Nat.le_of_ble_eq_true rfl)) dX5_bestLook_37 ⟨Nat.zero_le _, Nat.zero_le _⟩) (fun x_15 hx_15 => ?_)
            refine lv_land hx hb dX5_bestLook_40 ?_
            refine lv_topl (fun u_16 eu_16 => ?_)
            have hu_16 : u_16 = lN ((ftN (G.2.1 (g.2.2 52)) (G.2.1 (g.2.2 53)) (G.2.1 (g.2.2 54)) (G.1 2).toNatClampNeg) &&& brN y4_10 y5_26 35) := by rw [eu_16, hF_10, hx_15]; exact wb_and (Nat.lt_of_le_of_lt (ftN_le _) (by decide)) (Nat.lt_trans (brN_lt _ _ 35) (by decide))
            refine vp_callSi (W.runS (As := [.long u_16]) (rest := []) ⟨hx, hb, hml, hown, hts⟩ (c_J13_bitCount_y l g Ty G u_16 ((ftN (G.2.1 (g.2.2 52)) (G.2.1 (g.2.2 53)) (G.2.1 (g.2.2 54)) (G.1 2).toNatClampNeg) &&& brN y4_10 y5_26 35) (Nat.lt_of_le_of_lt Nat.and_le_left (Nat.lt_of_le_of_lt (ftN_le _) (by decide))) hu_16) (cwSx 1 hts hG (gwC mw_1092) mw_100 mw_1105 mw_1091 rfl rfl rfl hd_J13_bitCount_95d88 ⟨Nat.le_of_ble_eq_true rfl, Nat.le_of_ble_eq_true rfl⟩) ⟨PcH_blind, PcH_pre hK hH⟩ rfl rfl hl.1 rfl (lv_room (Nat.le_of_ble_eq_true rfl)) dX5_bestLook_41 ⟨Nat.zero_le _, Nat.zero_le _⟩) (fun x_17 hx_17 => ?_)
            refine lv_istore (lv' := [(6, .int x_17), (0, .ref h0), (1, .long y1_10), (3, .int y3_26), (4, .int y4_10), (5, .int y5_26)]) hx hb dX5_bestLook_44 hl (by decide) rfl (fun ls hl => ?_)
            refine lv_iload hx hb dX5_bestLook_46 (lv_at hl 0 rfl) ?_
            refine lv_lload_n hx hb dX5_bestLook_48 rfl (lv_at hl 2 rfl) ?_
            refine vp_callSi (W.runS (As := [.long y1_10]) (rest := [.int x_17]) ⟨hx, hb, hml, hown, hts⟩ (c_J13_bitCount_y l g Ty G y1_10 (ftN (G.2.1 (g.2.2 52)) (G.2.1 (g.2.2 53)) (G.2.1 (g.2.2 54)) (G.1 2).toNatClampNeg) (Nat.lt_of_le_of_lt (ftN_le _) (by decide)) hF_10) (cwSx 1 hts hG (gwC mw_1092) mw_100 mw_1105 mw_1091 rfl rfl rfl hd_J13_bitCount_95d88 ⟨Nat.le_of_ble_eq_true rfl, Nat.le_of_ble_eq_true rfl⟩) ⟨PcH_blind, PcH_pre hK hH⟩ rfl rfl hl.1 rfl (lv_room (Nat.le_of_ble_eq_true rfl)) dX5_bestLook_49 ⟨Nat.zero_le _, Nat.zero_le _⟩) (fun x_18 hx_18 => ?_)
            refine lv_iload hx hb dX5_bestLook_52 (lv_at hl 0 rfl) ?_
            refine lv_isub hx hb dX5_bestLook_54 ?_
            refine lv_topi (fun x_19 ex_19 => ?_)
            refine va_mmax hx hb (by rw [hml]; exact hl.1.symm) hown (hG _ mw_1106) (hG _ mw_473) (hG _ mw_91) (hG _ mw_474) (Nat.le_of_ble_eq_true rfl) (Nat.le_of_ble_eq_true rfl) (Nat.le_of_ble_eq_true rfl) (Nat.le_of_ble_eq_true rfl) dX5_bestLook_55 ?_
            refine lv_topi (fun x_20 ex_20 => ?_)
            have hf_20 : x_20 = lfC (ftN (G.2.1 (g.2.2 52)) (G.2.1 (g.2.2 53)) (G.2.1 (g.2.2 54)) (G.1 2).toNatClampNeg) y4_10 y5_26 := by rw [ex_20, ex_19, hx_18, hx_17]; rfl
            refine lv_istore (lv' := [(7, .int x_20), (6, .int x_17), (0, .ref h0), (1, .long y1_10), (3, .int y3_26), (4, .int y4_10), (5, .int y5_26)]) hx hb dX5_bestLook_58 hl (by decide) rfl (fun ls hl => ?_)
            refine lv_iload_n hx hb dX5_bestLook_60 rfl (lv_at hl 4 rfl) ?_
            refine lv_iconst (v := (-1)) hx hb dX5_bestLook_61 (by decide) ?_
            refine lv_icmp_eq (tgt := 74) hx hb dX5_bestLook_62 (by decide) (fun c_21 => ?_) (fun c_21 => ?_)
            · have r_22 : rgI (-1) (-1) y3_26 := rg_w (rg_eq rl_m1 c_21) (by decide) (by decide)
              exact L_74 H locs x_20 ls ry4_26 r_14 hf_20 (ckI_u hq_26 c_11 c_21) (lv_sub hl [2, 3, 5, 6, 0] rfl) hH hS
            · have r_23 : rgI (0) (2147483647) y3_26 := rg_w (rg_neL ry3_26 rl_m1 c_21) (by decide) (by decide)
              refine lv_iload hx hb dX5_bestLook_65 (lv_at hl 0 rfl) ?_
              refine lv_aload_n hx hb dX5_bestLook_67 rfl (lv_at hl 2 rfl) ?_
              have hM_26 := hML_26.resolve_left c_21
              obtain ⟨q_25, q_26, q_27, o_c_24⟩ := id hM_26
              refine hg_get hx hb hG igX5 hown hK o_c_24 rfl 4 (by decide) (hG _ mw_326) rfl dX5_bestLook_68 ?_
              refine lv_icmp_ge (tgt := 89) hx hb dX5_bestLook_71 (by decide) (fun c_31 => ?_) (fun c_31 => ?_)
              · exact L_89 H locs y3_26 ls r_23 ry4_26 r_14 ML_26 hM_26 (ckI_k hq_26 c_11 c_21 (by rw [← hf_20]; exact c_31)) (lv_sub hl [2, 3, 4, 5, 6] rfl) hH hS
              · have r_32 : rgI (-2147483648) (2147483646) x_20 := rg_w (rg_ltL (rg_top x_20) (rg_top ML_26) (nle_lt c_31)) (by decide) (by decide)
                have r_33 : rgI (-2147483647) (2147483647) ML_26 := rg_w (rg_ltR (rg_top x_20) (rg_top ML_26) (nle_lt c_31)) (by decide) (by decide)
                exact L_74 H locs x_20 ls ry4_26 r_14 hf_20 (ckI_v hq_26 c_11 c_21 (by rw [← hf_20]; exact c_31)) (lv_sub hl [2, 3, 5, 6, 0] rfl) hH hS
      refine lv_iload hx hb dX5_bestLook_10 (lv_at hl 3 rfl) ?_
      refine lv_bipush (v := 9) hx hb dX5_bestLook_12 (by decide) ?_
      refine lv_icmp_gt (tgt := 101) hx hb dX5_bestLook_14 (by decide) (fun c_34 => ?_) (fun c_34 => ?_)
      · have r_35 : rgI (10) (10) y4_10 := rg_w (rg_ltR rl_9 ry4_10 c_34) (by decide) (by decide)
        exact L_101 H locs y3_10 ls ry3_10 (by have e := ckO_e hq_10 c_34; by_cases z : (ftN (G.2.1 (g.2.2 52)) (G.2.1 (g.2.2 53)) (G.2.1 (g.2.2 54)) (G.1 2).toNatClampNeg) = 0; (rw [if_pos z]; exact hz_10 z); (rw [if_neg z, ← e])) (lv_sub hl [2] rfl) hH hS
      · have r_36 : rgI (0) (9) y4_10 := rg_w (rg_leL ry4_10 rl_9 (nlt_le c_34)) (by decide) (by decide)
        refine lv_lload_n hx hb dX5_bestLook_17 rfl (lv_at hl 1 rfl) ?_
        refine lv_lconst (v := 0) hx hb dX5_bestLook_18 (by decide) ?_
        refine W.lcmp hx hb dX5_bestLook_19 ?_
        refine lv_topi (fun x_37 ex_37 => ?_)
        refine lv_if_eq (tgt := 101) hx hb dX5_bestLook_20 (by decide) (fun c_38 => ?_) (fun c_38 => ?_)
        · have r_39 : rgI (0) (0) x_37 := rg_w (rg_eq rl_0 c_38) (by decide) (by decide)
          exact L_101 H locs y3_10 ls ry3_10 (by have z : (ftN (G.2.1 (g.2.2 52)) (G.2.1 (g.2.2 53)) (G.2.1 (g.2.2 54)) (G.1 2).toNatClampNeg) = 0 := lN_0 (Nat.lt_of_le_of_lt (ftN_le _) (by decide)) (hF_10.symm.trans ((lg_cmp_eq _ _).mp (ex_37.symm.trans c_38))); rw [if_pos z]; exact hz_10 z) (lv_sub hl [2] rfl) hH hS
        · refine lv_iconst (v := 0) hx hb dX5_bestLook_23 (by decide) ?_
          refine lv_istore (lv' := [(5, .int 0), (0, .ref h0), (1, .long y1_10), (3, .int y3_10), (4, .int y4_10)]) hx hb dX5_bestLook_24 hl (by decide) rfl (fun ls hl => ?_)
          exact L_26 _ H locs y3_10 0 ls ry3_10 r_36 (rg_w rl_0 (by decide) (by decide)) (Nat.lt_succ_self _) (fun z => c_38 (ex_37.trans ((lg_cmp_eq _ _).mpr (by rw [hF_10, z]; rfl)))) ML_10 hML_10 rfl (lv_sub hl [1, 2, 3, 4, 0] rfl) hH hS
  refine lv_aload_n hx hb dX5_bestLook_0 rfl (lv_at hl 0 rfl) ?_
  obtain ⟨_, ⟨q_41, q_42, q_43, q_45, rfl, kq_41, kq_42, kq_43, rq_44, t_46⟩, o_c_40⟩ := hH h0 _ k_h0
  refine vp_callSl (W.runV (As := []) (rest := []) ⟨hx, hb, hml, hown, hts⟩ (c_X5_fitting_x l g Ty G h0 k_h0) (cwV 0 hts (gwV mw_1104 mw_1074 mw_1075 mw_86 mw_1076) rfl rfl rfl hv_X5_fitting ⟨Nat.le_of_ble_eq_true rfl, Nat.le_of_ble_eq_true rfl⟩) ⟨PcH_blind, hg_recv hK o_c_40 rfl, PcH_pre hK hH⟩ rfl rfl hl.1 rfl (lv_room (Nat.le_of_ble_eq_true rfl)) dX5_bestLook_1 ⟨Nat.zero_le _, Nat.zero_le _⟩) (fun x_47 hx_47 => ?_)
  refine lv_lstore_n (lv' := [(1, .long x_47), (0, .ref h0)]) hx hb dX5_bestLook_4 rfl hl (by decide) rfl (fun ls hl => ?_)
  refine lv_iconst (v := (-1)) hx hb dX5_bestLook_5 (by decide) ?_
  refine lv_istore_n (lv' := [(3, .int (-1)), (1, .long x_47), (0, .ref h0)]) hx hb dX5_bestLook_6 rfl hl (by decide) rfl (fun ls hl => ?_)
  refine lv_iconst (v := 0) hx hb dX5_bestLook_7 (by decide) ?_
  refine lv_istore (lv' := [(4, .int 0), (3, .int (-1)), (1, .long x_47), (0, .ref h0)]) hx hb dX5_bestLook_8 hl (by decide) rfl (fun ls hl => ?_)
  exact L_10 _ s.heap [] x_47 (-1) 0 ls (rg_w rl_m1 (by decide) (by decide)) (rg_w rl_0 (by decide) (by decide)) (Nat.lt_succ_self _) hx_47 0 (Or.inl rfl) (fun _ => rfl) rfl (lv_sub hl [3, 2, 1, 0] rfl) hH hS
set_option maxHeartbeats 4000000 in
set_option maxRecDepth 100000 in
theorem c_X12_looks_x (l : Launch) (g : Gx) (Ty : TyM) (G : Gh) (sz : Nat) (h0 : Nat) (k_h0 : Ty h0 = some (22, 0)) (Bd : Int) (hI : OI g Bd G) (hBd : Bd ≤ 1900000) (hLD : LD g) : Met l yX12_looks (wsG yX12_looks cX12_looks 8 (some .int)) ({ frames := 2, cells := 0, slots := 0, locals := 44 }) (PcT g Ty G sz [.ref h0]) (QwI g Ty sz (fun r u => u.1 = Ty ∧ FR [104, 105] [] [] G u.2 ∧ OI g (Bd + 1000) u.2 ∧ LookR (lfR (fun x => isL (G.2.1 (g.2.2 134)) (G.2.1 (g.2.2 135)) (G.2.1 (g.2.2 136)) 11 x (G.1 137) 0)) r)) 0 0 (AF Ty sz) := by
  refine Met.ofW (cc := cX12_looks) (maxL := 8) (ret := (some .int)) (by decide) rfl ?_
  intro p e s m args below meth c s₁ B hml hv
  obtain ⟨rfl, hsz, hK, hH⟩ := hv
  subst hsz
  have hx := B.exec
  have hb := B.bytes
  have hr := B.returns
  have hts := atoms_spec (ws := (wsG yX12_looks cX12_looks 8 (some .int))) B.pre
  have hG : ∀ w ∈ GW, w.before ([.ref h0] : List Value).toArray s = true := fun w h => hts w (List.mem_cons_of_mem _ h)
  have hown : s.vm.findClass RX12 = some m.cls := findClass_of_methodNamed B.named
  have hlocks := B.notSynchronized
  have hl := lv_entry [.ref h0] (n := 8) (Nat.le_of_ble_eq_true rfl)
  rw [lg_entry_eq]
  generalize (lg_sl [.ref h0] ++ List.replicate (8 - (lg_sl [.ref h0]).length) Slot.unset).toArray = ls at hl ⊢
  have hl : lv_has ls 8 [(0, .ref h0)] := hl
  have hmk : mdK g Ty := mdk_of hH k_h0
  have hS : va_S (AF Ty s.heap.size) s.heap s.heap [] := va_S.rf
  obtain ⟨⟨σ0, hTS0⟩, h10, hBB0⟩ := id hI.ti
  obtain ⟨ρ, hT⟩ := hTS0.1
  have L_13 : ∀ (n : Nat) (H : Heap) (locs : List Loc) (G_13 : Gh) (y1_13 : Int32) (y2_13 : Int32) (y3_13 : Int32) (ls : Array Slot), rgI (0) (32) (G_13.1 104) → FR [104, 105] [] [] G G_13 → rgI (-1) (2147483647) y1_13 → rgI (0) (10) y3_13 → (10 - (y3_13).toInt).toNat < n → lkO (lfR (fun x => isL (G.2.1 (g.2.2 134)) (G.2.1 (g.2.2 135)) (G.2.1 (g.2.2 136)) 11 x (G.1 137) 0)) n y3_13 y1_13 y2_13 = lkO (lfR (fun x => isL (G.2.1 (g.2.2 134)) (G.2.1 (g.2.2 135)) (G.2.1 (g.2.2 136)) 11 x (G.1 137) 0)) 11 0 (-1) 1000000 → lv_has ls 8 [(0, .ref h0), (1, .int y1_13), (2, .int y2_13), (3, .int y3_13)] → HT g Ty G_13 H → va_S (AF Ty s.heap.size) s.heap H locs → Wm p l e (wsG yX12_looks cX12_looks 8 (some .int)) ({ frames := 2, cells := 0, slots := 0, locals := 44 }) s m [.ref h0] below meth c H locs (0) (0) (QwI g Ty s.heap.size (fun r u => u.1 = Ty ∧ FR [104, 105] [] [] G u.2 ∧ OI g (Bd + 1000) u.2 ∧ LookR (lfR (fun x => isL (G.2.1 (g.2.2 134)) (G.2.1 (g.2.2 135)) (G.2.1 (g.2.2 136)) 11 x (G.1 137) 0)) r)) 0 0 (AF Ty s.heap.size) (F0 m 13 ls []) := by
    intro n
    induction n with
    | zero => intro H locs G_13 y1_13 y2_13 y3_13 ls rg104_13 fr_13 ry1_13 ry3_13 hm; exact absurd hm (Nat.not_lt_zero _)
    | succ n ih_13 =>
      intro H locs G_13 y1_13 y2_13 y3_13 ls rg104_13 fr_13 ry1_13 ry3_13 hm_13 hq_13 hl hH hS
      have hq_o := fun c => lkO_n hq_13 c
      have L_22 : ∀ (n : Nat) (H : Heap) (locs : List Loc) (G_22 : Gh) (y1_22 : Int32) (y2_22 : Int32) (y4_22 : Int32) (ls : Array Slot), rgI (0) (32) (G_22.1 104) → FR [104, 105] [] [] G G_22 → rgI (-1) (2147483647) y1_22 → rgI (0) (9) y3_13 → rgI (0) (5) y4_22 → (5 - (y4_22).toInt).toNat < n → lkI (lfR (fun x => isL (G.2.1 (g.2.2 134)) (G.2.1 (g.2.2 135)) (G.2.1 (g.2.2 136)) 11 x (G.1 137) 0)) n y3_13 y4_22 y1_22 y2_22 = lkI (lfR (fun x => isL (G.2.1 (g.2.2 134)) (G.2.1 (g.2.2 135)) (G.2.1 (g.2.2 136)) 11 x (G.1 137) 0)) 6 y3_13 0 y1_13 y2_13 → lv_has ls 8 [(0, .ref h0), (1, .int y1_22), (2, .int y2_22), (3, .int y3_13), (4, .int y4_22)] → HT g Ty G_22 H → va_S (AF Ty s.heap.size) s.heap H locs → Wm p l e (wsG yX12_looks cX12_looks 8 (some .int)) ({ frames := 2, cells := 0, slots := 0, locals := 44 }) s m [.ref h0] below meth c H locs (0) (0) (QwI g Ty s.heap.size (fun r u => u.1 = Ty ∧ FR [104, 105] [] [] G u.2 ∧ OI g (Bd + 1000) u.2 ∧ LookR (lfR (fun x => isL (G.2.1 (g.2.2 134)) (G.2.1 (g.2.2 135)) (G.2.1 (g.2.2 136)) 11 x (G.1 137) 0)) r)) 0 0 (AF Ty s.heap.size) (F0 m 22 ls []) := by
        intro n
        induction n with
        | zero => intro H locs G_22 y1_22 y2_22 y4_22 ls rg104_22 fr_22 ry1_22 ry3_22 ry4_22 hm; exact absurd hm (Nat.not_lt_zero _)
        | succ n ih_22 =>
          intro H locs G_22 y1_22 y2_22 y4_22 ls rg104_22 fr_22 ry1_22 ry3_22 ry4_22 hm_22 hq_22 hl hH hS
          have hq_u := fun c w => lkI_u hq_22 c w
          have hq_k := fun c w => lkI_k hq_22 c w
          have L_37 : ∀ (n : Nat) (H : Heap) (locs : List Loc) (G_37 : Gh) (y1_37 : Int32) (y2_37 : Int32) (y5_37 : Int32) (y6_37 : Int32) (y7_37 : Int32) (ls : Array Slot), rgI (0) (32) (G_37.1 104) → FR [104, 105] [] [] G G_37 → rgI (-1) (2147483647) y1_37 → rgI (0) (9) y3_13 → rgI (0) (4) y4_22 → rgI (0) (35) y7_37 → (35 - (y7_37).toInt).toNat < n → y1_37 = y1_22 → y2_37 = y2_22 → yn (fun x => isL (G.2.1 (g.2.2 134)) (G.2.1 (g.2.2 135)) (G.2.1 (g.2.2 136)) 11 x (G.1 137) 0) (fun x => F_X12_comesBy x y3_13 y4_22) n y7_37 y5_37 y6_37 = yn (fun x => isL (G.2.1 (g.2.2 134)) (G.2.1 (g.2.2 135)) (G.2.1 (g.2.2 136)) 11 x (G.1 137) 0) (fun x => F_X12_comesBy x y3_13 y4_22) 36 0 0 0 → lv_has ls 8 [(0, .ref h0), (1, .int y1_37), (2, .int y2_37), (3, .int y3_13), (4, .int y4_22), (5, .int y5_37), (6, .int y6_37), (7, .int y7_37)] → HT g Ty G_37 H → va_S (AF Ty s.heap.size) s.heap H locs → Wm p l e (wsG yX12_looks cX12_looks 8 (some .int)) ({ frames := 2, cells := 0, slots := 0, locals := 44 }) s m [.ref h0] below meth c H locs (0) (0) (QwI g Ty s.heap.size (fun r u => u.1 = Ty ∧ FR [104, 105] [] [] G u.2 ∧ OI g (Bd + 1000) u.2 ∧ LookR (lfR (fun x => isL (G.2.1 (g.2.2 134)) (G.2.1 (g.2.2 135)) (G.2.1 (g.2.2 136)) 11 x (G.1 137) 0)) r)) 0 0 (AF Ty s.heap.size) (F0 m 37 ls []) := by
            intro n
            induction n with
            | zero => intro H locs G_37 y1_37 y2_37 y5_37 y6_37 y7_37 ls rg104_37 fr_37 ry1_37 ry3_37 ry4_37 ry7_37 hm; exact absurd hm (Nat.not_lt_zero _)
            | succ n ih_37 =>
              intro H locs G_37 y1_37 y2_37 y5_37 y6_37 y7_37 ls rg104_37 fr_37 ry1_37 ry3_37 ry4_37 ry7_37 hm_37 hb_37 hl_37 hq_37 hl hH hS
              refine lv_iload hx hb dX12_looks_37 (lv_at hl 7 rfl) ?_
              refine lv_bipush (v := 35) hx hb dX12_looks_39 (by decide) ?_
              refine lv_icmp_ge (tgt := 82) hx hb dX12_looks_41 (by decide) (fun c_1 => ?_) (fun c_1 => ?_)
              · have r_2 : rgI (35) (35) y7_37 := rg_w (rg_leR rl_35 ry7_37 c_1) (by decide) (by decide)
                refine lv_iload hx hb dX12_looks_82 (lv_at hl 5 rfl) ?_
                refine lv_iload hx hb dX12_looks_84 (lv_at hl 6 rfl) ?_
                refine va_mmax hx hb (by rw [hml]; exact hl.1.symm) hown (hG _ mw_1741) (hG _ mw_473) (hG _ mw_91) (hG _ mw_474) (Nat.le_of_ble_eq_true rfl) (Nat.le_of_ble_eq_true rfl) (Nat.le_of_ble_eq_true rfl) (Nat.le_of_ble_eq_true rfl) dX12_looks_86 ?_
                refine lv_topi (fun x_3 ex_3 => ?_)
                have hf : (lfR (fun x => isL (G.2.1 (g.2.2 134)) (G.2.1 (g.2.2 135)) (G.2.1 (g.2.2 136)) 11 x (G.1 137) 0)) y3_13 y4_22 = mxI y5_37 y6_37 := by show mxI (yn (fun x => isL (G.2.1 (g.2.2 134)) (G.2.1 (g.2.2 135)) (G.2.1 (g.2.2 136)) 11 x (G.1 137) 0) (fun x => F_X12_comesBy x y3_13 y4_22) 36 0 0 0).1 (yn (fun x => isL (G.2.1 (g.2.2 134)) (G.2.1 (g.2.2 135)) (G.2.1 (g.2.2 136)) 11 x (G.1 137) 0) (fun x => F_X12_comesBy x y3_13 y4_22) 36 0 0 0).2 = _; rw [← yn_e hq_37 c_1]
                have hf_3 : x_3 = (lfR (fun x => isL (G.2.1 (g.2.2 134)) (G.2.1 (g.2.2 135)) (G.2.1 (g.2.2 136)) 11 x (G.1 137) 0)) y3_13 y4_22 := by rw [hf, ex_3]; rfl
                refine lv_iload_n hx hb dX12_looks_89 rfl (lv_at hl 2 rfl) ?_
                refine lv_icmp_lt (tgt := 96) hx hb dX12_looks_90 (by decide) (fun c_4 => ?_) (fun c_4 => ?_)
                · have r_5 : rgI (-2147483648) (2147483646) x_3 := rg_w (rg_ltL (rg_top x_3) (rg_top y2_37) c_4) (by decide) (by decide)
                  have r_6 : rgI (-2147483647) (2147483647) y2_37 := rg_w (rg_ltR (rg_top x_3) (rg_top y2_37) c_4) (by decide) (by decide)
                  refine lv_bipush (v := 10) hx hb dX12_looks_96 (by decide) ?_
                  refine lv_iload_n hx hb dX12_looks_98 rfl (lv_at hl 3 rfl) ?_
                  refine lv_imul hx hb dX12_looks_99 ?_
                  refine lv_topi (fun x_7 ex_7 => ?_)
                  have rx_7 : rgI (0) (90) x_7 := by rw [ex_7]; exact rg_w (rg_mul rl_10 ry3_37 (by decide) (by decide) (by decide)) (by decide) (by decide)
                  refine lv_iload hx hb dX12_looks_100 (lv_at hl 4 rfl) ?_
                  refine lv_iadd hx hb dX12_looks_102 ?_
                  refine lv_topi (fun x_8 ex_8 => ?_)
                  have rx_8 : rgI (0) (94) x_8 := by rw [ex_8]; exact rg_w (rg_add rx_7 ry4_37 (by decide) (by decide)) (by decide) (by decide)
                  refine lv_istore_n (lv' := [(1, .int x_8), (0, .ref h0), (2, .int y2_37), (3, .int y3_13), (4, .int y4_22), (5, .int y5_37), (6, .int y6_37), (7, .int y7_37)]) hx hb dX12_looks_103 rfl hl (by decide) rfl (fun ls hl => ?_)
                  refine lv_iload hx hb dX12_looks_104 (lv_at hl 5 rfl) ?_
                  refine lv_iload hx hb dX12_looks_106 (lv_at hl 6 rfl) ?_
                  refine va_mmax hx hb (by rw [hml]; exact hl.1.symm) hown (hG _ mw_1741) (hG _ mw_473) (hG _ mw_91) (hG _ mw_474) (Nat.le_of_ble_eq_true rfl) (Nat.le_of_ble_eq_true rfl) (Nat.le_of_ble_eq_true rfl) (Nat.le_of_ble_eq_true rfl) dX12_looks_108 ?_
                  refine lv_topi (fun x_9 ex_9 => ?_)
                  refine lv_istore_n (lv' := [(2, .int x_9), (1, .int x_8), (0, .ref h0), (3, .int y3_13), (4, .int y4_22), (5, .int y5_37), (6, .int y6_37), (7, .int y7_37)]) hx hb dX12_looks_111 rfl hl (by decide) rfl (fun ls hl => ?_)
                  obtain ⟨x_10, ex_10⟩ : ∃ y : Int32, y = y4_22 + 1 := ⟨_, rfl⟩
                  have rx_10 : rgI (1) (5) x_10 := by rw [ex_10]; exact rg_w (rg_add ry4_37 rl_1 (by decide) (by decide)) (by decide) (by decide)
                  have qx_10 : x_10.toInt = (y4_22 : Int32).toInt + 1 := by rw [ex_10]; exact rg_addE ry4_37 rl_1 (by decide) (by decide)
                  refine lv_iinc (v := x_10) (lv' := [(4, .int x_10), (2, .int x_9), (1, .int x_8), (0, .ref h0), (3, .int y3_13), (5, .int y5_37), (6, .int y6_37), (7, .int y7_37)]) hx hb dX12_looks_112 hl (k := 4) rfl (by rw [ex_10]; rfl) (by decide) rfl (fun ls hl => ?_)
                  refine lv_goto (tgt := 22) hx hb dX12_looks_115 (by decide) ?_
                  exact ih_22 H locs G_37 x_8 x_9 x_10 ls (rg_w rg104_37 (by decide) (by decide)) fr_37 (rg_w rx_8 (by decide) (by decide)) ry3_37 (rg_w rx_10 (by decide) (by decide)) (by have h1 := qx_10; have h2 := ry4_37.1; have h3 := ry4_37.2; have h4 := hm_22; omega) (by rw [ex_10, ex_8, ex_7, show x_9 = (lfR (fun x => isL (G.2.1 (g.2.2 134)) (G.2.1 (g.2.2 135)) (G.2.1 (g.2.2 136)) 11 x (G.1 137) 0)) y3_13 y4_22 from by rw [hf, ex_9]; rfl]; exact hq_u (fun w => rg_no rl_4 ry4_37 w (by decide)) (by rw [← hf_3, ← hl_37]; exact c_4)) (lv_sub hl [3, 2, 1, 4, 0] rfl) hH hS
                · refine lv_goto (tgt := 112) hx hb dX12_looks_93 (by decide) ?_
                  obtain ⟨x_11, ex_11⟩ : ∃ y : Int32, y = y4_22 + 1 := ⟨_, rfl⟩
                  have rx_11 : rgI (1) (5) x_11 := by rw [ex_11]; exact rg_w (rg_add ry4_37 rl_1 (by decide) (by decide)) (by decide) (by decide)
                  have qx_11 : x_11.toInt = (y4_22 : Int32).toInt + 1 := by rw [ex_11]; exact rg_addE ry4_37 rl_1 (by decide) (by decide)
                  refine lv_iinc (v := x_11) (lv' := [(4, .int x_11), (0, .ref h0), (1, .int y1_37), (2, .int y2_37), (3, .int y3_13), (5, .int y5_37), (6, .int y6_37), (7, .int y7_37)]) hx hb dX12_looks_112 hl (k := 4) rfl (by rw [ex_11]; rfl) (by decide) rfl (fun ls hl => ?_)
                  refine lv_goto (tgt := 22) hx hb dX12_looks_115 (by decide) ?_
                  exact ih_22 H locs G_37 y1_37 y2_37 x_11 ls (rg_w rg104_37 (by decide) (by decide)) fr_37 ry1_37 ry3_37 (rg_w rx_11 (by decide) (by decide)) (by have h1 := qx_11; have h2 := ry4_37.1; have h3 := ry4_37.2; have h4 := hm_22; omega) (by rw [ex_11, hb_37, hl_37]; exact hq_k (fun w => rg_no rl_4 ry4_37 w (by decide)) (by rw [← hf_3, ← hl_37]; exact c_4)) (lv_sub hl [1, 2, 3, 4, 0] rfl) hH hS
              · have r_12 : rgI (0) (34) y7_37 := rg_w (rg_ltL ry7_37 rl_35 (nle_lt c_1)) (by decide) (by decide)
                refine lv_aload_n hx hb dX12_looks_44 rfl (lv_at hl 0 rfl) ?_
                refine lv_iload hx hb dX12_looks_45 (lv_at hl 7 rfl) ?_
                obtain ⟨_, ⟨rfl, t_14, hk_15⟩, o_c_13⟩ := hH h0 _ k_h0
                refine vp_callSi (W.runV (As := [.int y7_37]) (rest := []) ⟨hx, hb, hml, hown, hts⟩ (c_X12_isLaw_x l g Ty G_37 h0 y7_37 k_h0 Bd ⟨(by rw [(fr_37.1 102 (by decide))]; exact (rg_w hI.a102 (by decide) (by decide))), (rg_w rg104_37 (by decide) (by decide)), (by rw [(fr_37.1 113 (by decide))]; exact (rg_w hI.a113 (by decide) (by decide))), (by rw [(fr_37.1 122 (by decide))]; exact (rg_w hI.a122 (by decide) (by decide))), (by rw [(fr_37.1 133 (by decide))]; exact (rg_w hI.a133 (by decide) (by decide))), (by rw [(fr_37.1 137 (by decide))]; exact (rg_w hI.a137 (by decide) (by decide))), ((fr_37.2.2 111 (by decide)).trans hI.r111), ((fr_37.2.2 112 (by decide)).trans hI.r112), (by rw [(fr_37.2.1 (g.2.2 100) trivial)]; exact (hI.ti.hi (show Bd ≤ Bd by omega))), (hI.un2 (show Bd ≤ Bd by omega) (fr_37.2.1 (g.2.2 121) trivial) (fr_37.1 122 (by decide))), (hI.ke2 (show Bd ≤ Bd by omega) (fr_37.2.1 (g.2.2 140) trivial) (fr_37.2.1 (g.2.2 141) trivial))⟩ hBd hLD) (cwV 1 hts (gwV mw_1810 mw_1812 mw_71 mw_88 mw_1813) rfl rfl rfl hv_X12_isLaw ⟨Nat.le_of_ble_eq_true rfl, Nat.le_of_ble_eq_true rfl⟩) ⟨PcH_blind, hg_recv hK o_c_13 rfl, PcH_pre hK hH⟩ rfl rfl hl.1 rfl (lv_room (Nat.le_of_ble_eq_true rfl)) dX12_looks_47 ⟨Nat.zero_le _, Nat.zero_le _⟩) (fun x_16 hx_16 => ?_)
                have rx_16 : rgI (0) (1) x_16 := hx_16.1
                have e_16 : x_16 = isL (G.2.1 (g.2.2 134)) (G.2.1 (g.2.2 135)) (G.2.1 (g.2.2 136)) 11 y7_37 (G.1 137) 0 := by rw [hx_16.2, fr_37.2.1 (g.2.2 134) trivial, fr_37.2.1 (g.2.2 135) trivial, fr_37.2.1 (g.2.2 136) trivial, fr_37.1 137 (by decide)]
                refine lv_if_ne (tgt := 56) hx hb dX12_looks_50 (by decide) (fun c_17 => ?_) (fun c_17 => ?_)
                · have r_18 : rgI (1) (1) x_16 := rg_w (rg_neL rx_16 rl_0 c_17) (by decide) (by decide)
                  refine lv_iload hx hb dX12_looks_56 (lv_at hl 7 rfl) ?_
                  refine lv_iload_n hx hb dX12_looks_58 rfl (lv_at hl 3 rfl) ?_
                  refine lv_iload hx hb dX12_looks_59 (lv_at hl 4 rfl) ?_
                  refine vp_callSi (W.runS (As := [.int y7_37, .int y3_13, .int y4_22]) (rest := []) ⟨hx, hb, hml, hown, hts⟩ (c_X12_comesBy l g Ty G_37 y7_37 y3_13 y4_22 ) (cwSx 3 hts hG (gwC mw_1816) mw_88 mw_1814 mw_1815 rfl rfl rfl hd_X12_comesBy ⟨Nat.le_of_ble_eq_true rfl, Nat.le_of_ble_eq_true rfl⟩) ⟨PcH_blind, PcH_pre hK hH⟩ rfl rfl hl.1 rfl (lv_room (Nat.le_of_ble_eq_true rfl)) dX12_looks_61 ⟨Nat.zero_le _, Nat.zero_le _⟩) (fun x_19 hx_19 => ?_)
                  have rx_19 : rgI (0) (1) x_19 := hx_19.1
                  refine lv_if_eq (tgt := 73) hx hb dX12_looks_64 (by decide) (fun c_20 => ?_) (fun c_20 => ?_)
                  · have r_21 : rgI (0) (0) x_19 := rg_w (rg_eq rl_0 c_20) (by decide) (by decide)
                    obtain ⟨x_22, ex_22⟩ : ∃ y : Int32, y = y6_37 + 1 := ⟨_, rfl⟩
                    refine lv_iinc (v := x_22) (lv' := [(6, .int x_22), (0, .ref h0), (1, .int y1_37), (2, .int y2_37), (3, .int y3_13), (4, .int y4_22), (5, .int y5_37), (7, .int y7_37)]) hx hb dX12_looks_73 hl (k := 6) rfl (by rw [ex_22]; rfl) (by decide) rfl (fun ls hl => ?_)
                    obtain ⟨x_23, ex_23⟩ : ∃ y : Int32, y = y7_37 + 1 := ⟨_, rfl⟩
                    have rx_23 : rgI (1) (35) x_23 := by rw [ex_23]; exact rg_w (rg_add r_12 rl_1 (by decide) (by decide)) (by decide) (by decide)
                    have qx_23 : x_23.toInt = (y7_37 : Int32).toInt + 1 := by rw [ex_23]; exact rg_addE r_12 rl_1 (by decide) (by decide)
                    refine lv_iinc (v := x_23) (lv' := [(7, .int x_23), (6, .int x_22), (0, .ref h0), (1, .int y1_37), (2, .int y2_37), (3, .int y3_13), (4, .int y4_22), (5, .int y5_37)]) hx hb dX12_looks_76 hl (k := 7) rfl (by rw [ex_23]; rfl) (by decide) rfl (fun ls hl => ?_)
                    refine lv_goto (tgt := 37) hx hb dX12_looks_79 (by decide) ?_
                    exact ih_37 H locs G_37 y1_37 y2_37 y5_37 x_22 x_23 ls (rg_w rg104_37 (by decide) (by decide)) fr_37 ry1_37 ry3_37 ry4_37 (rg_w rx_23 (by decide) (by decide)) (by have h1 := qx_23; have h2 := r_12.1; have h3 := r_12.2; have h4 := hm_37; omega) hb_37 hl_37 (by rw [ex_23, ex_22]; exact yn_n hq_37 c_1 (fun q => c_17 (e_16.trans q)) (hx_19.2.symm.trans c_20)) (lv_sub hl [2, 3, 4, 5, 6, 7, 1, 0] rfl) hH hS
                  · have r_24 : rgI (1) (1) x_19 := rg_w (rg_neL rx_19 rl_0 c_20) (by decide) (by decide)
                    obtain ⟨x_25, ex_25⟩ : ∃ y : Int32, y = y5_37 + 1 := ⟨_, rfl⟩
                    refine lv_iinc (v := x_25) (lv' := [(5, .int x_25), (0, .ref h0), (1, .int y1_37), (2, .int y2_37), (3, .int y3_13), (4, .int y4_22), (6, .int y6_37), (7, .int y7_37)]) hx hb dX12_looks_67 hl (k := 5) rfl (by rw [ex_25]; rfl) (by decide) rfl (fun ls hl => ?_)
                    refine lv_goto (tgt := 76) hx hb dX12_looks_70 (by decide) ?_
                    obtain ⟨x_26, ex_26⟩ : ∃ y : Int32, y = y7_37 + 1 := ⟨_, rfl⟩
                    have rx_26 : rgI (1) (35) x_26 := by rw [ex_26]; exact rg_w (rg_add r_12 rl_1 (by decide) (by decide)) (by decide) (by decide)
                    have qx_26 : x_26.toInt = (y7_37 : Int32).toInt + 1 := by rw [ex_26]; exact rg_addE r_12 rl_1 (by decide) (by decide)
                    refine lv_iinc (v := x_26) (lv' := [(7, .int x_26), (5, .int x_25), (0, .ref h0), (1, .int y1_37), (2, .int y2_37), (3, .int y3_13), (4, .int y4_22), (6, .int y6_37)]) hx hb dX12_looks_76 hl (k := 7) rfl (by rw [ex_26]; rfl) (by decide) rfl (fun ls hl => ?_)
                    refine lv_goto (tgt := 37) hx hb dX12_looks_79 (by decide) ?_
                    exact ih_37 H locs G_37 y1_37 y2_37 x_25 y6_37 x_26 ls (rg_w rg104_37 (by decide) (by decide)) fr_37 ry1_37 ry3_37 ry4_37 (rg_w rx_26 (by decide) (by decide)) (by have h1 := qx_26; have h2 := r_12.1; have h3 := r_12.2; have h4 := hm_37; omega) hb_37 hl_37 (by rw [ex_26, ex_25]; exact yn_y hq_37 c_1 (fun q => c_17 (e_16.trans q)) (fun q => c_20 (hx_19.2.trans q))) (lv_sub hl [2, 3, 4, 5, 6, 1, 7, 0] rfl) hH hS
                · have r_27 : rgI (0) (0) x_16 := rg_w (rg_eq rl_0 c_17) (by decide) (by decide)
                  refine lv_goto (tgt := 76) hx hb dX12_looks_53 (by decide) ?_
                  obtain ⟨x_28, ex_28⟩ : ∃ y : Int32, y = y7_37 + 1 := ⟨_, rfl⟩
                  have rx_28 : rgI (1) (35) x_28 := by rw [ex_28]; exact rg_w (rg_add r_12 rl_1 (by decide) (by decide)) (by decide) (by decide)
                  have qx_28 : x_28.toInt = (y7_37 : Int32).toInt + 1 := by rw [ex_28]; exact rg_addE r_12 rl_1 (by decide) (by decide)
                  refine lv_iinc (v := x_28) (lv' := [(7, .int x_28), (0, .ref h0), (1, .int y1_37), (2, .int y2_37), (3, .int y3_13), (4, .int y4_22), (5, .int y5_37), (6, .int y6_37)]) hx hb dX12_looks_76 hl (k := 7) rfl (by rw [ex_28]; rfl) (by decide) rfl (fun ls hl => ?_)
                  refine lv_goto (tgt := 37) hx hb dX12_looks_79 (by decide) ?_
                  exact ih_37 H locs G_37 y1_37 y2_37 y5_37 y6_37 x_28 ls (rg_w rg104_37 (by decide) (by decide)) fr_37 ry1_37 ry3_37 ry4_37 (rg_w rx_28 (by decide) (by decide)) (by have h1 := qx_28; have h2 := r_12.1; have h3 := r_12.2; have h4 := hm_37; omega) hb_37 hl_37 (by rw [ex_28]; exact yn_0 hq_37 c_1 (e_16.symm.trans c_17)) (lv_sub hl [1, 2, 3, 4, 5, 6, 7, 0] rfl) hH hS
          refine lv_iload hx hb dX12_looks_22 (lv_at hl 4 rfl) ?_
          refine lv_iconst (v := 4) hx hb dX12_looks_24 (by decide) ?_
          refine lv_icmp_gt (tgt := 118) hx hb dX12_looks_25 (by decide) (fun c_29 => ?_) (fun c_29 => ?_)
          · have r_30 : rgI (5) (5) y4_22 := rg_w (rg_ltR rl_4 ry4_22 c_29) (by decide) (by decide)
            obtain ⟨x_31, ex_31⟩ : ∃ y : Int32, y = y3_13 + 1 := ⟨_, rfl⟩
            have rx_31 : rgI (1) (10) x_31 := by rw [ex_31]; exact rg_w (rg_add ry3_22 rl_1 (by decide) (by decide)) (by decide) (by decide)
            have qx_31 : x_31.toInt = (y3_13 : Int32).toInt + 1 := by rw [ex_31]; exact rg_addE ry3_22 rl_1 (by decide) (by decide)
            refine lv_iinc (v := x_31) (lv' := [(3, .int x_31), (0, .ref h0), (1, .int y1_22), (2, .int y2_22), (4, .int y4_22)]) hx hb dX12_looks_118 hl (k := 3) rfl (by rw [ex_31]; rfl) (by decide) rfl (fun ls hl => ?_)
            refine lv_goto (tgt := 13) hx hb dX12_looks_121 (by decide) ?_
            exact ih_13 H locs G_22 y1_22 y2_22 x_31 ls (rg_w rg104_22 (by decide) (by decide)) fr_22 ry1_22 (rg_w rx_31 (by decide) (by decide)) (by have h1 := qx_31; have h2 := ry3_22.1; have h3 := ry3_22.2; have h4 := hm_13; omega) (by rw [ex_31]; have e := lkI_e hq_22 c_29; have o := hq_o (fun w => rg_no rl_9 ry3_22 w (by decide)); rw [← e] at o; exact o) (lv_sub hl [1, 2, 3, 0] rfl) hH hS
          · have r_32 : rgI (0) (4) y4_22 := rg_w (rg_leL ry4_22 rl_4 (nlt_le c_29)) (by decide) (by decide)
            refine lv_iconst (v := 0) hx hb dX12_looks_28 (by decide) ?_
            refine lv_istore (lv' := [(5, .int 0), (0, .ref h0), (1, .int y1_22), (2, .int y2_22), (3, .int y3_13), (4, .int y4_22)]) hx hb dX12_looks_29 hl (by decide) rfl (fun ls hl => ?_)
            refine lv_iconst (v := 0) hx hb dX12_looks_31 (by decide) ?_
            refine lv_istore (lv' := [(6, .int 0), (5, .int 0), (0, .ref h0), (1, .int y1_22), (2, .int y2_22), (3, .int y3_13), (4, .int y4_22)]) hx hb dX12_looks_32 hl (by decide) rfl (fun ls hl => ?_)
            refine lv_iconst (v := 0) hx hb dX12_looks_34 (by decide) ?_
            refine lv_istore (lv' := [(7, .int 0), (6, .int 0), (5, .int 0), (0, .ref h0), (1, .int y1_22), (2, .int y2_22), (3, .int y3_13), (4, .int y4_22)]) hx hb dX12_looks_35 hl (by decide) rfl (fun ls hl => ?_)
            exact L_37 _ H locs G_22 y1_22 y2_22 0 0 0 ls (rg_w rg104_22 (by decide) (by decide)) fr_22 ry1_22 ry3_22 r_32 (rg_w rl_0 (by decide) (by decide)) (Nat.lt_succ_self _) rfl rfl rfl (lv_sub hl [3, 4, 5, 6, 7, 2, 1, 0] rfl) hH hS
      refine lv_iload_n hx hb dX12_looks_13 rfl (lv_at hl 3 rfl) ?_
      refine lv_bipush (v := 9) hx hb dX12_looks_14 (by decide) ?_
      refine lv_icmp_gt (tgt := 124) hx hb dX12_looks_16 (by decide) (fun c_33 => ?_) (fun c_33 => ?_)
      · have r_34 : rgI (10) (10) y3_13 := rg_w (rg_ltR rl_9 ry3_13 c_33) (by decide) (by decide)
        refine lv_iload_n hx hb dX12_looks_124 rfl (lv_at hl 2 rfl) ?_
        refine lv_if_ne (tgt := 131) hx hb dX12_looks_125 (by decide) (fun c_35 => ?_) (fun c_35 => ?_)
        · refine lv_aload_n hx hb dX12_looks_131 rfl (lv_at hl 0 rfl) ?_
          refine lv_iconst (v := 0) hx hb dX12_looks_132 (by decide) ?_
          obtain ⟨_, ⟨rfl, t_37, hk_38⟩, o_c_36⟩ := hH h0 _ k_h0
          refine hg_put (ty := .int) hx hb hG igX12 tyX12 tyX12_ok nmX12 hown hK hS o_c_36 (AF.of k_h0) rfl 4 (by decide) (hG _ mw_1288) rfl (by decide +kernel) rfl rfl (Nat.le_of_ble_eq_true rfl) dX12_looks_133 (fun H locs o_c_36 hz oq hS => ?_)
          obtain ⟨G_39, eG_39⟩ : ∃ z : Gh, z = gset G_13 104 0 := ⟨_, rfl⟩
          have hH : HT g Ty G_39 H := by rw [eG_39]; exact HT.putN 104 0 hH k_h0 ⟨rfl, t_37, hk_38⟩ o_c_36 oq (Or.inr (Or.inr (Or.inr (Or.inr (Or.inr ⟨by decide, t_37⟩)))))
          have fr_40 : FR [104, 105] [] [] G G_39 := FR.n fr_13 eG_39 (by decide)
          have u_41 : G_39.1 102 = (G.1 102) := by rw [eG_39]; exact (gs_ne (by decide)).trans (fr_13.1 102 (by decide))
          have u_42 : G_39.1 113 = (G.1 113) := by rw [eG_39]; exact (gs_ne (by decide)).trans (fr_13.1 113 (by decide))
          have u_43 : G_39.1 122 = (G.1 122) := by rw [eG_39]; exact (gs_ne (by decide)).trans (fr_13.1 122 (by decide))
          have u_44 : G_39.1 133 = (G.1 133) := by rw [eG_39]; exact (gs_ne (by decide)).trans (fr_13.1 133 (by decide))
          have u_45 : G_39.1 137 = (G.1 137) := by rw [eG_39]; exact (gs_ne (by decide)).trans (fr_13.1 137 (by decide))
          have u_46 : G_39.1 104 = 0 := by rw [eG_39]; exact gs_eq
          have w_47 : G_39.2.1 (g.2.2 100) = (G.2.1 (g.2.2 100)) := by rw [eG_39]; exact (fr_13.2.1 (g.2.2 100) trivial)
          have w_48 : G_39.2.1 (g.2.2 121) = (G.2.1 (g.2.2 121)) := by rw [eG_39]; exact (fr_13.2.1 (g.2.2 121) trivial)
          have w_49 : G_39.2.1 (g.2.2 140) = (G.2.1 (g.2.2 140)) := by rw [eG_39]; exact (fr_13.2.1 (g.2.2 140) trivial)
          have w_50 : G_39.2.1 (g.2.2 141) = (G.2.1 (g.2.2 141)) := by rw [eG_39]; exact (fr_13.2.1 (g.2.2 141) trivial)
          have w_51 : G_39.2.1 (g.2.2 111) = (G.2.1 (g.2.2 111)) := by rw [eG_39]; exact (fr_13.2.1 (g.2.2 111) trivial)
          have u_52 : G_39.2.2 111 = some (g.2.2 111) := by rw [eG_39]; exact ((fr_13.2.2 111 (by decide)).trans hI.r111)
          have u_53 : G_39.2.2 112 = some (g.2.2 112) := by rw [eG_39]; exact ((fr_13.2.2 112 (by decide)).trans hI.r112)
          clear oq hz
          refine lv_aload_n hx hb dX12_looks_136 rfl (lv_at hl 0 rfl) ?_
          refine lv_iload_n hx hb dX12_looks_137 rfl (lv_at hl 2 rfl) ?_
          refine lv_i2l hx hb dX12_looks_138 rfl ?_
          refine lv_topl (fun u_54 eu_54 => ?_)
          obtain ⟨_, ⟨rfl, t_56, hk_57⟩, o_c_55⟩ := hH h0 _ k_h0
          refine va_callv (va_runV (As := [.long u_54]) (rest := []) ⟨hx, hb, hml, hown, hts⟩ (c_X12_tell l g Ty G_39 H.size h0 u_54 k_h0 (by rw [u_46]; exact rg_w rl_0 (by decide) (by decide))) (cwV 1 hts (gwV mw_1510 mw_1512 mw_48 mw_88 mw_1513) rfl rfl rfl hv_X12_tell ⟨Nat.le_of_ble_eq_true rfl, Nat.le_of_ble_eq_true rfl⟩) ⟨PcT_blind, hg_recv hK o_c_55 rfl, PcT_pre hK hH⟩ rfl rfl hl.1 rfl (lv_room (Nat.le_of_ble_eq_true rfl)) dX12_looks_139 ⟨Nat.zero_le _, Nat.zero_le _⟩) hS (fun q _ h => AF.mono hS.1 h) (fun q h => AF.mono hS.1 h) (fun ux_58 t H locs ht hvm hx_58 hB hz hk hS => ?_)
          obtain ⟨eTx_58, eGx_58⟩ := hx_58
          obtain ⟨G_59, eG_59⟩ : ∃ z, z = ux_58.2 := ⟨_, rfl⟩
          rw [← eG_59] at eGx_58
          obtain ⟨x_60, ex_60⟩ : ∃ z : Int32, z = 0 + 1 := ⟨_, rfl⟩
          have e_61 : G_59 = gset G_39 104 x_60 := by rw [ex_60, ← u_46]; exact eGx_58
          have rx_60 : rgI (1) (1) x_60 := by rw [ex_60]; exact rg_w (rg_add rl_0 rl_1 (by decide) (by decide)) (by decide) (by decide)
          have fr_62 : FR [104, 105] [] [] G G_59 := FR.n fr_40 e_61 (by decide)
          have u_63 : G_59.1 102 = (G.1 102) := by rw [e_61]; exact (gs_ne (by decide)).trans u_41
          have u_64 : G_59.1 113 = (G.1 113) := by rw [e_61]; exact (gs_ne (by decide)).trans u_42
          have u_65 : G_59.1 122 = (G.1 122) := by rw [e_61]; exact (gs_ne (by decide)).trans u_43
          have u_66 : G_59.1 133 = (G.1 133) := by rw [e_61]; exact (gs_ne (by decide)).trans u_44
          have u_67 : G_59.1 137 = (G.1 137) := by rw [e_61]; exact (gs_ne (by decide)).trans u_45
          have u_68 : G_59.1 104 = x_60 := by rw [e_61]; exact gs_eq
          have w_69 : G_59.2.1 (g.2.2 100) = (G.2.1 (g.2.2 100)) := by rw [e_61]; exact w_47
          have w_70 : G_59.2.1 (g.2.2 121) = (G.2.1 (g.2.2 121)) := by rw [e_61]; exact w_48
          have w_71 : G_59.2.1 (g.2.2 140) = (G.2.1 (g.2.2 140)) := by rw [e_61]; exact w_49
          have w_72 : G_59.2.1 (g.2.2 141) = (G.2.1 (g.2.2 141)) := by rw [e_61]; exact w_50
          have w_73 : G_59.2.1 (g.2.2 111) = (G.2.1 (g.2.2 111)) := by rw [e_61]; exact w_51
          have u_74 : G_59.2.2 111 = some (g.2.2 111) := by rw [e_61]; exact u_52
          have u_75 : G_59.2.2 112 = some (g.2.2 112) := by rw [e_61]; exact u_53
          have hH : HT g Ty G_59 H := by rw [← ht, ← eTx_58, eG_59]; exact hB
          refine lv_iload_n hx hb dX12_looks_142 rfl (lv_at hl 1 rfl) ?_
          exact W.iret hx hb hr (fun t ht hWm => ⟨⟨y1_13, (Ty, G_59), rfl, ⟨rfl, ⟨fr_62, ⟨⟨(by rw [u_63]; exact (rg_w hI.a102 (by decide) (by decide))), (by rw [u_68]; exact (rg_w rx_60 (by decide) (by decide))), (by rw [u_64]; exact (rg_w hI.a113 (by decide) (by decide))), (by rw [u_65]; exact (rg_w hI.a122 (by decide) (by decide))), (by rw [u_66]; exact (rg_w hI.a133 (by decide) (by decide))), (by rw [u_67]; exact (rg_w hI.a137 (by decide) (by decide))), u_74, u_75, (by rw [w_69]; exact (hI.ti.hi (show Bd ≤ Bd + 1000 by omega))), (hI.un2 (show Bd ≤ Bd + 1000 by omega) w_70 u_65), (hI.ke2 (show Bd ≤ Bd + 1000 by omega) w_71 w_72)⟩, (by show _ = _; have e := lkO_e hq_13 c_33; rw [← e]; exact (if_neg c_35).symm)⟩⟩⟩, by show HT g Ty G_59 t.heap; rw [ht]; exact hH⟩, hS.F ht⟩) hS.2.2 dX12_looks_143
        · have r_76 : rgI (0) (0) y2_13 := rg_w (rg_eq rl_0 c_35) (by decide) (by decide)
          refine lv_bipush (v := (-2)) hx hb dX12_looks_128 (by decide) ?_
          exact W.iret hx hb hr (fun t ht hWm => ⟨⟨(-2), (Ty, G_13), rfl, ⟨rfl, ⟨fr_13, ⟨⟨(by rw [(fr_13.1 102 (by decide))]; exact (rg_w hI.a102 (by decide) (by decide))), (rg_w rg104_13 (by decide) (by decide)), (by rw [(fr_13.1 113 (by decide))]; exact (rg_w hI.a113 (by decide) (by decide))), (by rw [(fr_13.1 122 (by decide))]; exact (rg_w hI.a122 (by decide) (by decide))), (by rw [(fr_13.1 133 (by decide))]; exact (rg_w hI.a133 (by decide) (by decide))), (by rw [(fr_13.1 137 (by decide))]; exact (rg_w hI.a137 (by decide) (by decide))), ((fr_13.2.2 111 (by decide)).trans hI.r111), ((fr_13.2.2 112 (by decide)).trans hI.r112), (by rw [(fr_13.2.1 (g.2.2 100) trivial)]; exact (hI.ti.hi (show Bd ≤ Bd + 1000 by omega))), (hI.un2 (show Bd ≤ Bd + 1000 by omega) (fr_13.2.1 (g.2.2 121) trivial) (fr_13.1 122 (by decide))), (hI.ke2 (show Bd ≤ Bd + 1000 by omega) (fr_13.2.1 (g.2.2 140) trivial) (fr_13.2.1 (g.2.2 141) trivial))⟩, (by show _ = _; have e := lkO_e hq_13 c_33; rw [← e]; exact (if_pos c_35).symm)⟩⟩⟩, by show HT g Ty G_13 t.heap; rw [ht]; exact hH⟩, hS.F ht⟩) hS.2.2 dX12_looks_130
      · have r_77 : rgI (0) (9) y3_13 := rg_w (rg_leL ry3_13 rl_9 (nlt_le c_33)) (by decide) (by decide)
        refine lv_iconst (v := 0) hx hb dX12_looks_19 (by decide) ?_
        refine lv_istore (lv' := [(4, .int 0), (0, .ref h0), (1, .int y1_13), (2, .int y2_13), (3, .int y3_13)]) hx hb dX12_looks_20 hl (by decide) rfl (fun ls hl => ?_)
        exact L_22 _ H locs G_13 y1_13 y2_13 0 ls (rg_w rg104_13 (by decide) (by decide)) fr_13 ry1_13 r_77 (rg_w rl_0 (by decide) (by decide)) (Nat.lt_succ_self _) rfl (lv_sub hl [1, 2, 3, 4, 0] rfl) hH hS
  refine lv_aload_n hx hb dX12_looks_0 rfl (lv_at hl 0 rfl) ?_
  refine lv_iconst (v := 0) hx hb dX12_looks_1 (by decide) ?_
  obtain ⟨_, ⟨rfl, t_79, hk_80⟩, o_c_78⟩ := hH h0 _ k_h0
  refine hg_put (ty := .int) hx hb hG igX12 tyX12 tyX12_ok nmX12 hown hK hS o_c_78 (AF.of k_h0) rfl 5 (by decide) (hG _ mw_1289) rfl (by decide +kernel) rfl rfl (Nat.le_of_ble_eq_true rfl) dX12_looks_2 (fun H locs o_c_78 hz oq hS => ?_)
  obtain ⟨G_81, eG_81⟩ : ∃ z : Gh, z = gset G 105 0 := ⟨_, rfl⟩
  have hH : HT g Ty G_81 H := by rw [eG_81]; exact HT.putN 105 0 hH k_h0 ⟨rfl, t_79, hk_80⟩ o_c_78 oq (Or.inr (Or.inr (Or.inr (Or.inr (Or.inr ⟨by decide, t_79⟩)))))
  have fr_82 : FR [104, 105] [] [] G G_81 := FR.n FR.rf eG_81 (by decide)
  have u_83 : G_81.1 102 = (G.1 102) := by rw [eG_81]; exact (gs_ne (by decide))
  have u_84 : G_81.1 104 = (G.1 104) := by rw [eG_81]; exact (gs_ne (by decide))
  have u_85 : G_81.1 113 = (G.1 113) := by rw [eG_81]; exact (gs_ne (by decide))
  have u_86 : G_81.1 122 = (G.1 122) := by rw [eG_81]; exact (gs_ne (by decide))
  have u_87 : G_81.1 133 = (G.1 133) := by rw [eG_81]; exact (gs_ne (by decide))
  have u_88 : G_81.1 137 = (G.1 137) := by rw [eG_81]; exact (gs_ne (by decide))
  have u_89 : G_81.1 105 = 0 := by rw [eG_81]; exact gs_eq
  have w_90 : G_81.2.1 (g.2.2 100) = (G.2.1 (g.2.2 100)) := by rw [eG_81]; exact rfl
  have w_91 : G_81.2.1 (g.2.2 121) = (G.2.1 (g.2.2 121)) := by rw [eG_81]; exact rfl
  have w_92 : G_81.2.1 (g.2.2 140) = (G.2.1 (g.2.2 140)) := by rw [eG_81]; exact rfl
  have w_93 : G_81.2.1 (g.2.2 141) = (G.2.1 (g.2.2 141)) := by rw [eG_81]; exact rfl
  have w_94 : G_81.2.1 (g.2.2 111) = (G.2.1 (g.2.2 111)) := by rw [eG_81]; exact rfl
  have u_95 : G_81.2.2 111 = some (g.2.2 111) := by rw [eG_81]; exact hI.r111
  have u_96 : G_81.2.2 112 = some (g.2.2 112) := by rw [eG_81]; exact hI.r112
  clear oq hz
  refine lv_iconst (v := (-1)) hx hb dX12_looks_5 (by decide) ?_
  refine lv_istore_n (lv' := [(1, .int (-1)), (0, .ref h0)]) hx hb dX12_looks_6 rfl hl (by decide) rfl (fun ls hl => ?_)
  refine lv_ldcw (v := 1000000) hx hb hown (hG _ mw_1797) dX12_looks_7 ?_
  refine lv_istore_n (lv' := [(2, .int 1000000), (1, .int (-1)), (0, .ref h0)]) hx hb dX12_looks_10 rfl hl (by decide) rfl (fun ls hl => ?_)
  refine lv_iconst (v := 0) hx hb dX12_looks_11 (by decide) ?_
  refine lv_istore_n (lv' := [(3, .int 0), (2, .int 1000000), (1, .int (-1)), (0, .ref h0)]) hx hb dX12_looks_12 rfl hl (by decide) rfl (fun ls hl => ?_)
  exact L_13 _ H locs G_81 (-1) 1000000 0 ls (by rw [u_84]; exact rg_w hI.a104 (by decide) (by decide)) fr_82 (rg_w rl_m1 (by decide) (by decide)) (rg_w rl_0 (by decide) (by decide)) (Nat.lt_succ_self _) rfl (lv_sub hl [3, 2, 1, 0] rfl) hH hS
