/-! ===== rules: an automaton that reads as both parsers do ===== -/
/-- due a thing or not, digits of the number that is being read, compared at this depth and below -/
abbrev Sta : Type := Bool × Nat × List Bool
def ruD (c : Int32) : Bool := decide ((48 : Int32) ≤ c) && decide (c ≤ (57 : Int32))
def ruL (c : Int32) : Bool := decide (c = (110 : Int32)) || decide (c = (107 : Int32)) || decide (c = (103 : Int32)) || decide (c = (105 : Int32)) || decide (c = (100 : Int32)) || decide (c = (119 : Int32)) || decide (c = (113 : Int32))
def ruT (c : Int32) (bs : List Bool) : Option Sta := if c = 45 then some (true, 0, bs) else if c = 40 then (if 5 ≤ bs.length then none else some (true, 0, false :: bs)) else if ruD c = true then some (false, 1, bs) else if ruL c = true then some (false, 0, bs) else none
def ruC (bs : List Bool) : Option Sta := match bs with
  | _ :: b2 :: r => some (false, 0, b2 :: r)
  | _ => none
def ruM (bs : List Bool) : Option Sta := match bs with
  | false :: r => some (true, 0, true :: r)
  | _ => none
abbrev ruOp (c : Int32) : Prop := c = 43 ∨ c = 45 ∨ c = 42 ∨ c = 47
abbrev ruCm (c : Int32) : Prop := c = 60 ∨ c = 62 ∨ c = 61
def ruF (c : Int32) (d : Nat) (bs : List Bool) : Option Sta := if ruD c = true then (if d = 0 ∨ 3 ≤ d then none else some (false, d + 1, bs)) else if c = 41 then ruC bs else if ruCm c then ruM bs else if ruOp c then some (true, 0, bs) else none
def ruS (s : Sta) (c : Int32) : Option Sta := if s.1 = true then ruT c s.2.2 else ruF c s.2.1 s.2.2
def ruN (len : Int32) (s : Sta) : Int32 := if (40 : Int32) < len then 40 else if s.1 = true ∨ 1 < s.2.2.length then len else -1
def ruX (h : Int32 → Int32) (len : Int32) : Nat → Int32 → Sta → Int32
  | 0, y, _ => y
  | k + 1, y, s => if h y = -1 then ruN len s else (ruS s (h y)).elim y (fun s2 => ruX h len k (y + 1) s2)
def ruO (h : Int32 → Int32) (len : Int32) (y : Int32) (s : Sta) : Int32 := ruX h len ((81 - y.toInt).toNat + 1) y s
/-- the sign at a place, -1 where there is none -/
def ruH (row : Nat → Int32) (len y : Int32) : Int32 := if len ≤ y then -1 else if (40 : Int32) ≤ y then -1 else row (Int32.toNatClampNeg y)
/-- how far a rule is read -/
def eR (len : Int32) : Int32 := if (40 : Int32) < len then 40 else len
/-- the place of the first wrong sign, -1 if there is none -/
def RuA (row : Nat → Int32) (len : Int32) : Int32 := if len = 0 then -1 else ruO (ruH row len) len 0 (true, 0, [false])
def RuR (row : Nat → Int32) (len : Int32) : Int32 := if RuA row len = -1 then 0 else -1 - RuA row len
section AUT
variable {h : Int32 → Int32} {len y c k : Int32} {s s2 : Sta} {d : Nat} {bs : List Bool}
theorem ruS_t : ruS (true, d, bs) c = ruT c bs := if_pos rfl
theorem ruS_f : ruS (false, d, bs) c = ruF c d bs := if_neg Bool.false_ne_true
theorem ruD_ne (h : ruD c = true) (hk : ruD k = false) : ¬ c = k := fun q => by rw [q, hk] at h; exact absurd h Bool.false_ne_true
theorem ruL_ne (h : ruL c = true) (hk : ruL k = false) : ¬ c = k := fun q => by rw [q, hk] at h; exact absurd h Bool.false_ne_true
theorem ruD_y (h1 : (48 : Int32) ≤ c) (h2 : c ≤ (57 : Int32)) : ruD c = true := by
  unfold ruD
  rw [decide_eq_true h1, decide_eq_true h2]
  rfl
theorem ruD_lt (h : c < (48 : Int32)) : ¬ ruD c = true := fun q => by
  unfold ruD at q
  simp only [Bool.and_eq_true, decide_eq_true_eq] at q
  have := fz_le.mp q.1
  have := fz_lt.mp h
  omega
theorem ruD_gt (h : (57 : Int32) < c) : ¬ ruD c = true := fun q => by
  unfold ruD at q
  simp only [Bool.and_eq_true, decide_eq_true_eq] at q
  have := fz_le.mp q.2
  have := fz_lt.mp h
  omega
theorem ru_neg : ruT 45 bs = some (true, 0, bs) := if_pos rfl
theorem ru_open (h : ¬ 5 ≤ bs.length) : ruT 40 bs = some (true, 0, false :: bs) := by
  unfold ruT
  rw [if_neg (show ¬ (40 : Int32) = 45 by decide), if_pos rfl, if_neg h]
theorem ru_open_no (h : 5 ≤ bs.length) : ruT 40 bs = none := by
  unfold ruT
  rw [if_neg (show ¬ (40 : Int32) = 45 by decide), if_pos rfl, if_pos h]
theorem ru_dig (h : ruD c = true) : ruT c bs = some (false, 1, bs) := by
  unfold ruT
  rw [if_neg (ruD_ne (k := 45) h (by decide)), if_neg (ruD_ne (k := 40) h (by decide)), if_pos h]
theorem ru_let (h : ruL c = true) (hd : ¬ ruD c = true) : ruT c bs = some (false, 0, bs) := by
  unfold ruT
  rw [if_neg (ruL_ne (k := 45) h (by decide)), if_neg (ruL_ne (k := 40) h (by decide)), if_neg hd, if_pos h]
theorem ru_due_no (h1 : ¬ c = 45) (h2 : ¬ c = 40) (h3 : ¬ ruD c = true) (h4 : ¬ ruL c = true) : ruT c bs = none := by
  unfold ruT
  rw [if_neg h1, if_neg h2, if_neg h3, if_neg h4]
theorem rf_dig (h : ruD c = true) (hd : ¬ (d = 0 ∨ 3 ≤ d)) : ruF c d bs = some (false, d + 1, bs) := by
  unfold ruF
  rw [if_pos h, if_neg hd]
theorem rf_dig_no (h : ruD c = true) (hd : d = 0 ∨ 3 ≤ d) : ruF c d bs = none := by
  unfold ruF
  rw [if_pos h, if_pos hd]
theorem rf_close : ruF 41 d bs = ruC bs := by
  unfold ruF
  rw [if_neg (show ¬ ruD 41 = true by decide), if_pos rfl]
theorem rf_cmp (h : ruCm c) : ruF c d bs = ruM bs := by
  have h1 : ¬ ruD c = true := by rcases h with h | h | h <;> (rw [h]; decide)
  have h2 : ¬ c = 41 := by rcases h with h | h | h <;> (rw [h]; decide)
  unfold ruF
  rw [if_neg h1, if_neg h2, if_pos h]
theorem rf_op (h : ruOp c) : ruF c d bs = some (true, 0, bs) := by
  have h1 : ¬ ruD c = true := by rcases h with h | h | h | h <;> (rw [h]; decide)
  have h2 : ¬ c = 41 := by rcases h with h | h | h | h <;> (rw [h]; decide)
  have h3 : ¬ ruCm c := by rcases h with h | h | h | h <;> (rw [h]; decide)
  unfold ruF
  rw [if_neg h1, if_neg h2, if_neg h3, if_pos h]
theorem rf_no (h1 : ¬ ruD c = true) (h2 : ¬ c = 41) (h3 : ¬ ruCm c) (h4 : ¬ ruOp c) : ruF c d bs = none := by
  unfold ruF
  rw [if_neg h1, if_neg h2, if_neg h3, if_neg h4]
theorem ru_end (e : h y = -1) : ruO h len y s = ruN len s := by
  unfold ruO
  show (if h y = -1 then ruN len s else _) = _
  rw [if_pos e]
theorem ru_no (e : ¬ h y = -1) (q : ruS s (h y) = none) : ruO h len y s = y := by
  unfold ruO
  show (if h y = -1 then ruN len s else (ruS s (h y)).elim y (fun s2 => ruX h len (81 - y.toInt).toNat (y + 1) s2)) = _
  rw [if_neg e, q]
  rfl
theorem ru_y1 (hy : rgI 0 80 y) : (y + 1).toInt = y.toInt + 1 := rg_addE hy (show rgI 1 1 (1 : Int32) from ⟨by decide, by decide⟩) (by decide) (by decide)
theorem ru_go (hy : rgI 0 80 y) (e : ¬ h y = -1) (q : ruS s (h y) = some s2) : ruO h len y s = ruO h len (y + 1) s2 := by
  have e1 := ru_y1 hy
  have h2 := hy.2
  unfold ruO
  have ek : (81 - y.toInt).toNat = (81 - (y + 1).toInt).toNat + 1 := by omega
  show (if h y = -1 then ruN len s else (ruS s (h y)).elim y (fun s2 => ruX h len (81 - y.toInt).toNat (y + 1) s2)) = _
  rw [if_neg e, q, ek]
  rfl
theorem eR_t (hl : rgI 0 80 len) : rgI 0 40 (eR len) ∧ ((eR len).toInt = len.toInt ∨ ((eR len).toInt = 40 ∧ 40 < len.toInt)) := by
  unfold eR
  have z : (40 : Int32).toInt = 40 := rfl
  by_cases c : (40 : Int32) < len
  · have c2 := fz_lt.mp c
    rw [if_pos c]
    exact ⟨⟨by decide, by decide⟩, Or.inr ⟨rfl, by omega⟩⟩
  · have c2 := mt fz_lt.mpr c
    rw [if_neg c]
    exact ⟨⟨hl.1, by omega⟩, Or.inl rfl⟩
theorem ruN_due : ruN len (true, d, bs) = eR len := by
  unfold ruN eR
  by_cases c : (40 : Int32) < len
  · rw [if_pos c, if_pos c]
  · rw [if_neg c, if_neg c, if_pos (Or.inl rfl)]
theorem ruN_in {f g2 : Bool} : ruN len (false, d, f :: g2 :: bs) = eR len := by
  unfold ruN eR
  by_cases c : (40 : Int32) < len
  · rw [if_pos c, if_pos c]
  · rw [if_neg c, if_neg c, if_pos (Or.inr (by show 1 < bs.length + 1 + 1; omega))]
theorem ruN_fine {f : Bool} (c : ¬ (40 : Int32) < len) : ruN len (false, d, [f]) = -1 := by
  unfold ruN
  rw [if_neg c, if_neg]
  rintro (q | q)
  · exact absurd q Bool.false_ne_true
  · exact absurd q (by show ¬ 1 < 1; omega)
theorem ruN_far (c : (40 : Int32) < len) : ruN len s = 40 := if_pos c
end AUT
