/-! ===== what can be undone, what is kept ===== -/
theorem sl_sr {f fb T : Nat → Int32} {k i : Nat} (hk : k = 122 * i) (h : LYk f fb T k 122) : SR f (sl T i) := fun j hj => by
  have := h (122 * i + j)
  rw [hk, if_pos (by omega), Nat.add_sub_cancel_left] at this
  exact this
theorem sl_ot {f fb T : Nat → Int32} {k i n : Nat} (hk : k = 122 * n) (hi : i < n) (h : LYk f fb T k 122) : SR (sl fb i) (sl T i) := fun j hj => by
  have := h (122 * i + j)
  rw [hk, if_neg (by omega)] at this
  exact this
theorem sl_ot2 {f fb T : Nat → Int32} {k i n : Nat} (hk : k = 122 * n) (hi : n < i) (h : LYk f fb T k 122) : SR (sl fb i) (sl T i) := fun j hj => by
  have := h (122 * i + j)
  rw [hk, if_neg (by omega)] at this
  exact this
/-- all are shifted by one -/
def SH (u c : Nat → Int32) (k : Nat) : Prop := ∀ j, c j = if j < k then u (j + 122) else u j
theorem SH_0 {u : Nat → Int32} : SH u u (0 : Int32).toNatClampNeg := fun j => by
  rw [if_neg (by show ¬ j < 0; omega)]
theorem SH_s {u c c1 : Nat → Int32} {k k1 x i : Int32} (h : SH u c k.toNatClampNeg) (hk : rgI 0 1341 k) (e1 : k1.toInt = k.toInt + 1) (ei : i = k + 122) (ex : x = c i.toNatClampNeg) (e : c1 = upd c k.toNatClampNeg x) : SH u c1 k1.toNatClampNeg := fun j => by
  have h1 := hk.1; have h2 := hk.2
  have hkn := cl_nat h1
  have ek : k1.toNatClampNeg = k.toNatClampNeg + 1 := cl_of (by omega)
  have ein : i.toNatClampNeg = k.toNatClampNeg + 122 := cl_of (by rw [ei, ti_add (y := 122) (by show _ ≤ k.toInt + 122; omega) (by show k.toInt + 122 ≤ _; omega)]; show k.toInt + 122 = _; omega)
  rw [ek, e]
  by_cases q : j = k.toNatClampNeg
  · rw [q, upd_eq, if_pos (by omega), ex, ein, h, if_neg (by omega)]
  · rw [upd_ne q, h j]
    by_cases w : j < k.toNatClampNeg
    · rw [if_pos w, if_pos (by omega)]
    · rw [if_neg w, if_neg (by omega)]
theorem SH_e {u c : Nat → Int32} {k : Int32} (h : SH u c k.toNatClampNeg) (hk : rgI 1342 1342 k) {i : Nat} (hi : i < 11) : SR (sl u (i + 1)) (sl c i) := fun j hj => by
  have : k.toNatClampNeg = 1342 := cl_of (by have := hk.1; have := hk.2; omega)
  have q := h (122 * i + j)
  rw [this, if_pos (by omega)] at q
  show c (122 * i + j) = u (122 * (i + 1) + j)
  rw [q]
  congr 1
  omega
/-- what is remembered stands -/
theorem un_0 {f u c T : Nat → Int32} {B : Int} {n m n1 k : Int32} (hf : TI B f) (hu : ∀ i : Nat, (i : Int) < n.toInt → TI B (sl u i)) (hs : SH u c k.toNatClampNeg) (hk : rgI 1342 1342 k) (hn : n.toInt = 12) (hm : m.toInt = 11) (hn1 : n1.toInt = 12) {z : Int32} (ez : z = 122 * m) (hl : LYk f c T z.toNatClampNeg 122) : ∀ i : Nat, (i : Int) < n1.toInt → TI B (sl T i) := fun i hi => by
  have ezn : z.toNatClampNeg = 122 * 11 := cl_of (by rw [ez, ti_mul (x := 122) (by show _ ≤ 122 * m.toInt; omega) (by show 122 * m.toInt ≤ _; omega), hm]; rfl)
  by_cases q : i = 11
  · subst q; exact SR_ti (sl_sr ezn hl) hf
  · have hi' : i < 11 := by omega
    exact SR_ti ((SH_e hs hk hi').tr (sl_ot ezn hi' hl)) (hu (i + 1) (by omega))
theorem un_1 {f u T : Nat → Int32} {B : Int} {n n1 : Int32} (hf : TI B f) (hu : ∀ i : Nat, (i : Int) < n.toInt → TI B (sl u i)) (hn : rgI 0 11 n) (hn1 : n1 = n + 1) {z : Int32} (ez : z = 122 * n) (hl : LYk f u T z.toNatClampNeg 122) : ∀ i : Nat, (i : Int) < n1.toInt → TI B (sl T i) := fun i hi => by
  have a := hn.1; have b := hn.2
  have hnn := cl_nat a
  have e1 : n1.toInt = n.toInt + 1 := by rw [hn1]; exact ti_add (y := 1) (by show _ ≤ n.toInt + 1; omega) (by show n.toInt + 1 ≤ _; omega)
  have ezn : z.toNatClampNeg = 122 * n.toNatClampNeg := cl_of (by rw [ez, ti_mul (x := 122) (by show _ ≤ 122 * n.toInt; omega) (by show 122 * n.toInt ≤ _; omega)]; show 122 * n.toInt = _; omega)
  by_cases q : i = n.toNatClampNeg
  · subst q; exact SR_ti (sl_sr ezn hl) hf
  · exact SR_ti (sl_ot ezn (by omega) hl) (hu i (by omega))
/-- a row is brought back, place by place -/
def BK (s b c : Nat → Int32) (k : Nat) : Prop := ∀ j, c j = if j < k then s j else b j
theorem BK_0 {s b : Nat → Int32} : BK s b b (0 : Int32).toNatClampNeg := fun j => by rw [if_neg (by show ¬ j < 0; omega)]
theorem BK_s {s b c c1 : Nat → Int32} {k k1 x : Int32} (h : BK s b c k.toNatClampNeg) (hk : rgI 0 121 k) (e1 : k1.toInt = k.toInt + 1) (ex : x = s k.toNatClampNeg) (e : c1 = upd c k.toNatClampNeg x) : BK s b c1 k1.toNatClampNeg := fun j => by
  have h1 := hk.1
  have hkn := cl_nat h1
  have ek : k1.toNatClampNeg = k.toNatClampNeg + 1 := cl_of (by omega)
  rw [ek, e]
  by_cases q : j = k.toNatClampNeg
  · rw [q, upd_eq, if_pos (by omega), ex]
  · rw [upd_ne q, h j]
    by_cases w : j < k.toNatClampNeg
    · rw [if_pos w, if_pos (by omega)]
    · rw [if_neg w, if_neg (by omega)]
theorem BK_e {s b c : Nat → Int32} {k : Int32} {B : Int} (h : BK s b c k.toNatClampNeg) (hk : rgI 122 122 k) (t : TI B s) : TI B c := by
  have : k.toNatClampNeg = 122 := cl_of (by have := hk.1; have := hk.2; omega)
  refine SR_ti (fun j hj => ?_) t
  have q := h j
  rw [this, if_pos hj] at q
  exact q
theorem bk_i {u : Nat → Int32} {n k z i x : Int32} (hn : rgI 0 11 n) (hk : rgI 0 121 k) (ez : z = 122 * n) (ei : i = z + k) (ex : x = u i.toNatClampNeg) : x = sl u n.toNatClampNeg k.toNatClampNeg := by
  have a := hn.1; have b := hn.2; have c := hk.1; have d := hk.2
  have hnn := cl_nat a; have hkn := cl_nat c
  have ezi : z.toInt = 122 * n.toInt := by rw [ez]; exact ti_mul (x := 122) (by show _ ≤ 122 * n.toInt; omega) (by show 122 * n.toInt ≤ _; omega)
  have ein : i.toNatClampNeg = 122 * n.toNatClampNeg + k.toNatClampNeg := cl_of (by rw [ei, ti_add (by omega) (by omega), ezi]; omega)
  rw [ex, ein]; rfl
theorem KE_put {k k' u T f : Nat → Int32} {B : Int} {i z : Int32} (hf : TI B f) (hi : rgI 0 1 i) (hke : ∀ n : Nat, n < 2 → ¬ k n = 0 → TI B (sl u n)) (ek : k' = upd k i.toNatClampNeg 1) (ez : z = 122 * i) (hl : LYk f u T z.toNatClampNeg 122) : ∀ n : Nat, n < 2 → ¬ k' n = 0 → TI B (sl T n) := fun n hn hk => by
  have a := hi.1; have b := hi.2
  have hin := cl_nat a
  have ezn : z.toNatClampNeg = 122 * i.toNatClampNeg := cl_of (by rw [ez, ti_mul (x := 122) (by show _ ≤ 122 * i.toInt; omega) (by show 122 * i.toInt ≤ _; omega)]; show 122 * i.toInt = _; omega)
  by_cases q : n = i.toNatClampNeg
  · subst q; exact SR_ti (sl_sr ezn hl) hf
  · rw [ek, upd_ne q] at hk
    rcases Nat.lt_or_ge n i.toNatClampNeg with w | w
    · exact SR_ti (sl_ot ezn w hl) (hke n hn hk)
    · exact SR_ti (sl_ot2 ezn (by omega) hl) (hke n hn hk)
