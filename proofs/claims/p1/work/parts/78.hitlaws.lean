/-! ===== where a clone brings copies: bits, how many ===== -/
def HBk (f rl : Nat → Int32) (size m d b : Int32) (k : Nat) : Prop := ∀ i, bt b i = (decide (i < k) && hitb f rl size m d i)
def HB (f rl : Nat → Int32) (size m d b : Int32) : Prop := HBk f rl size m d b 24
theorem nI_tn {k : Int32} {a b : Int} (hk : rgI a b k) (h0 : 0 ≤ a) : nI k.toNatClampNeg = k := by
  have h1 := hk.1
  apply Int32.toInt_inj.mp
  have h2 := (rg_top k).2
  have : k.toNatClampNeg < 2 ^ 31 := by show k.toInt.toNat < _; omega
  rw [nI_toInt this]
  show ((k.toInt.toNat : Nat) : Int) = _
  omega
theorem HBk_0 {f rl : Nat → Int32} {size m d : Int32} : HBk f rl size m d 0 (0 : Int32).toNatClampNeg := fun i => by
  rw [b_0]
  have : decide (i < (0 : Int32).toNatClampNeg) = false := decide_eq_false (Nat.not_lt_zero _)
  rw [this]; rfl
theorem tn_s {k x : Int32} (hk : rgI 0 24 k) (e : x.toInt = k.toInt + 1) : x.toNatClampNeg = k.toNatClampNeg + 1 := by
  have h1 := hk.1
  show x.toInt.toNat = k.toInt.toNat + 1
  omega
theorem HBk_s {f rl : Nat → Int32} {size m d b z b1 k k1 : Int32} (h : HBk f rl size m d b k.toNatClampNeg) (hz : ∀ i, bt z i = (decide (i = k.toNatClampNeg) && hitb f rl size m d i)) (e : b1 = b ||| z) (hk : rgI 0 24 k) (e1 : k1.toInt = k.toInt + 1) : HBk f rl size m d b1 k1.toNatClampNeg := fun i => by
  rw [e, b_or, h i, hz i, tn_s hk e1]
  by_cases q : i = k.toNatClampNeg
  · rw [q]; simp
  · rw [← dec_succ q]
    simp [q]
theorem HBk_e {f rl : Nat → Int32} {size m d b k : Int32} (h : HBk f rl size m d b k.toNatClampNeg) (hk : rgI 24 24 k) : HB f rl size m d b := by
  have : k.toNatClampNeg = 24 := by
    have h1 := hk.1; have h2 := hk.2
    show k.toInt.toNat = 24
    omega
  rw [this] at h; exact h
theorem hitb_k {f rl : Nat → Int32} {size m d k : Int32} (hk : rgI 0 23 k) : hitb f rl size m d k.toNatClampNeg = (decide (¬ k = m) && (bt (F_X12_spreadOf f m) k.toNatClampNeg && (decide (F_X12_atOf f k d = 24) && decide (¬ LetF f rl size k d = 0)))) := by
  unfold hitb
  rw [nI_tn hk (by decide)]
theorem hit_y {f rl : Nat → Int32} {size m d k z : Int32} (hk : rgI 0 23 k) (c1 : ¬ k = m) (c2 : bt (F_X12_spreadOf f m) k.toNatClampNeg = true) (c3 : F_X12_atOf f k d = 24) (c4 : ¬ LetF f rl size k d = 0) (e : z = 1 <<< (k &&& 31)) : ∀ i, bt z i = (decide (i = k.toNatClampNeg) && hitb f rl size m d i) := by
  intro i
  have hl : k.toNatClampNeg < 32 := by have h1 := hk.1; have h2 := hk.2; show k.toInt.toNat < 32; omega
  have q : bt z i = decide (i = k.toNatClampNeg) := by
    rw [e]
    have := bt_one_is (i := i) hl
    rw [nI_tn hk (by decide)] at this
    exact this
  rw [q]
  by_cases w : i = k.toNatClampNeg
  · rw [w, hitb_k hk, c2]; simp [c1, c3, c4]
  · simp [w]
theorem hit_n {f rl : Nat → Int32} {size m d k : Int32} (h : hitb f rl size m d k.toNatClampNeg = false) : ∀ i, bt 0 i = (decide (i = k.toNatClampNeg) && hitb f rl size m d i) := by
  intro i
  rw [b_0]
  by_cases w : i = k.toNatClampNeg
  · rw [w, h]; simp
  · simp [w]
theorem hit_n1 {f rl : Nat → Int32} {size m d k : Int32} (hk : rgI 0 23 k) (c : k = m) : ∀ i, bt 0 i = (decide (i = k.toNatClampNeg) && hitb f rl size m d i) := hit_n (by rw [hitb_k hk]; simp [c])
theorem hit_n2 {f rl : Nat → Int32} {size m d k : Int32} (hk : rgI 0 23 k) (c : bt (F_X12_spreadOf f m) k.toNatClampNeg = false) : ∀ i, bt 0 i = (decide (i = k.toNatClampNeg) && hitb f rl size m d i) := hit_n (by rw [hitb_k hk, c]; simp)
theorem hit_n3 {f rl : Nat → Int32} {size m d k : Int32} (hk : rgI 0 23 k) (c : ¬ F_X12_atOf f k d = 24) : ∀ i, bt 0 i = (decide (i = k.toNatClampNeg) && hitb f rl size m d i) := hit_n (by rw [hitb_k hk]; simp [c])
theorem hit_n4 {f rl : Nat → Int32} {size m d k : Int32} (hk : rgI 0 23 k) (c : LetF f rl size k d = 0) : ∀ i, bt 0 i = (decide (i = k.toNatClampNeg) && hitb f rl size m d i) := hit_n (by rw [hitb_k hk]; simp [c])
theorem SB.th {f : Nat → Int32} {x k : Int32} (h : SB f x) (hk : rgI 0 23 k) (hb : bt x k.toNatClampNeg = true) : thr f k := by
  have := (h _ hb).2
  rw [nI_tn hk (by decide)] at this
  exact this
theorem HB.sb {f rl : Nat → Int32} {size m d b : Int32} (h : HB f rl size m d b) (hs : SB f (F_X12_spreadOf f m)) : SB f b := fun i hi => by
  have q := h i
  rw [hi] at q
  have q2 := q.symm
  rw [Bool.and_eq_true] at q2
  unfold hitb at q2
  rw [Bool.and_eq_true, Bool.and_eq_true] at q2
  exact hs i q2.2.2.1
theorem HB.un {f rl : Nat → Int32} {size m d b b' : Int32} (h : HB f rl size m d b) (h2 : HB f rl size m d b') : b = b' := b_ext (fun i _ => by rw [h i, h2 i])
/-- that something may come at a place, and all that comes with it -/
def COM (f rl : Nat → Int32) (size m d : Int32) : Prop := thr f m ∧ rgI 0 3 d ∧ F_X12_atOf f m d = 24 ∧ ct (isT f) 24 + 1 + ct (hitb f rl size m d) 24 ≤ 24
theorem com_cnt {f rl : Nat → Int32} {size m d x1 x2 x3 x4 h : Int32} (hh : HB f rl size m d h) (hs : SB f (F_X12_spreadOf f m)) (e1 : x1 = F_J6_bitCount_0f7a4 (F_X12_thereOf f)) (e2 : x2 = x1 + 1) (e3 : x3 = F_J6_bitCount_0f7a4 h) (e4 : x4 = x2 + x3) (c : x4 ≤ 24) : ct (isT f) 24 + 1 + ct (hitb f rl size m d) 24 ≤ 24 := by
  rw [cnt_there] at e1
  rw [cnt_is (hh.sb hs)] at e3
  have l1 := ct_le (isT f) 24
  have l2 := ct_le (bt h) 24
  have q1 : x1.toInt = (ct (isT f) 24 : Nat) := by rw [e1]; exact nI_toInt (by omega)
  have q3 : x3.toInt = (ct (bt h) 24 : Nat) := by rw [e3]; exact nI_toInt (by omega)
  have q2 : x2.toInt = x1.toInt + 1 := by rw [e2]; exact ti_add (y := 1) (by show _ ≤ x1.toInt + 1; omega) (by show x1.toInt + 1 ≤ _; omega)
  have q4 : x4.toInt = x2.toInt + x3.toInt := by rw [e4]; exact ti_add (by omega) (by omega)
  have q5 := fz_le.mp c
  have q6 : (24 : Int32).toInt = 24 := rfl
  have q7 : ct (hitb f rl size m d) 24 = ct (bt h) 24 := ct_cong 24 (fun i hi => by rw [hh i, decide_eq_true hi]; rfl)
  omega
theorem F_isDir_rg {d : Int32} (h : ¬ F_X12_isDir d = 0) : rgI 0 3 d := by
  unfold F_X12_isDir F_X12_in at h
  by_cases c1 : d < 0
  · rw [if_pos c1] at h; exact absurd rfl h
  rw [if_neg c1] at h
  by_cases c2 : (3 : Int32) < d
  · rw [if_pos c2] at h; exact absurd rfl h
  have h1 := fz_le.mp (nlt_le c1); have h2 := fz_le.mp (nlt_le c2)
  exact ⟨h1, h2⟩
