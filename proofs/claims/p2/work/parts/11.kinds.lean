/-! ===== ranges ===== -/
theorem rg_top (x : Int32) : rgI (-2147483648) 2147483647 x := ⟨Int32.le_toInt x, Int.le_of_lt_add_one (Int32.toInt_lt x)⟩
theorem fz_lt {a b : Int32} : a < b ↔ a.toInt < b.toInt := Int32.lt_iff_toInt_lt
theorem fz_le {a b : Int32} : a ≤ b ↔ a.toInt ≤ b.toInt := Int32.le_iff_toInt_le
theorem rg_w {a b a2 b2 : Int} {x : Int32} (h : rgI a b x) (h1 : a2 ≤ a) (h2 : b ≤ b2) : rgI a2 b2 x := ⟨Int.le_trans h1 h.1, Int.le_trans h.2 h2⟩
theorem rg_ltL {a b c d : Int} {x y : Int32} (hx : rgI a b x) (hy : rgI c d y) (h : x < y) : rgI a (d - 1) x := by
  have := fz_lt.mp h; have h1 := hx.1; have h2 := hy.2; constructor <;> omega
theorem rg_ltR {a b c d : Int} {x y : Int32} (hx : rgI a b x) (hy : rgI c d y) (h : x < y) : rgI (a + 1) d y := by
  have := fz_lt.mp h; have h1 := hx.1; have h2 := hy.2; constructor <;> omega
theorem rg_leL {a b c d : Int} {x y : Int32} (hx : rgI a b x) (hy : rgI c d y) (h : x ≤ y) : rgI a d x := by
  have := fz_le.mp h; have h1 := hx.1; have h2 := hy.2; constructor <;> omega
theorem rg_leR {a b c d : Int} {x y : Int32} (hx : rgI a b x) (hy : rgI c d y) (h : x ≤ y) : rgI a d y := by
  have := fz_le.mp h; have h1 := hx.1; have h2 := hy.2; constructor <;> omega
theorem nlt_le {x y : Int32} (h : ¬ x < y) : y ≤ x := by have := fz_lt.not.mp h; exact fz_le.mpr (by omega)
theorem nle_lt {x y : Int32} (h : ¬ x ≤ y) : y < x := by have := fz_le.not.mp h; exact fz_lt.mpr (by omega)
theorem rg_eq {c d : Int} {x y : Int32} (hy : rgI c d y) (h : x = y) : rgI c d x := by rw [h]; exact hy
theorem rg_neL {b : Int} {x y : Int32} {a : Int} (hx : rgI a b x) (hy : rgI a a y) (h : ¬ x = y) : rgI (a + 1) b x := by
  have h1 := hx.1; have h2 := hx.2; have h3 := hy.1; have h4 := hy.2
  have : x.toInt ≠ y.toInt := fun q => h (Int32.toInt_inj.mp q)
  constructor <;> omega
theorem rg_neR {a : Int} {x y : Int32} {b : Int} (hx : rgI a b x) (hy : rgI b b y) (h : ¬ x = y) : rgI a (b - 1) x := by
  have h1 := hx.1; have h2 := hx.2; have h3 := hy.1; have h4 := hy.2
  have : x.toInt ≠ y.toInt := fun q => h (Int32.toInt_inj.mp q)
  constructor <;> omega
theorem bm_id {z : Int} (h1 : -2147483648 ≤ z) (h2 : z ≤ 2147483647) : z.bmod (2 ^ 32) = z := Int.bmod_eq_of_le (by omega) (by omega)
theorem ti_add {x y : Int32} (h1 : -2147483648 ≤ x.toInt + y.toInt) (h2 : x.toInt + y.toInt ≤ 2147483647) : (x + y).toInt = x.toInt + y.toInt := by rw [Int32.toInt_add]; exact bm_id h1 h2
theorem ti_sub {x y : Int32} (h1 : -2147483648 ≤ x.toInt - y.toInt) (h2 : x.toInt - y.toInt ≤ 2147483647) : (x - y).toInt = x.toInt - y.toInt := by rw [Int32.toInt_sub]; exact bm_id h1 h2
theorem ti_mul {x y : Int32} (h1 : -2147483648 ≤ x.toInt * y.toInt) (h2 : x.toInt * y.toInt ≤ 2147483647) : (x * y).toInt = x.toInt * y.toInt := by rw [Int32.toInt_mul]; exact bm_id h1 h2
theorem rg_add {a b c d : Int} {x y : Int32} (hx : rgI a b x) (hy : rgI c d y) (h1 : -2147483648 ≤ a + c) (h2 : b + d ≤ 2147483647) : rgI (a + c) (b + d) (x + y) := by
  have e1 := hx.1; have e2 := hx.2; have e3 := hy.1; have e4 := hy.2
  have := ti_add (x := x) (y := y) (by omega) (by omega)
  constructor <;> omega
theorem rg_sub {a b c d : Int} {x y : Int32} (hx : rgI a b x) (hy : rgI c d y) (h1 : -2147483648 ≤ a - d) (h2 : b - c ≤ 2147483647) : rgI (a - d) (b - c) (x - y) := by
  have e1 := hx.1; have e2 := hx.2; have e3 := hy.1; have e4 := hy.2
  have := ti_sub (x := x) (y := y) (by omega) (by omega)
  constructor <;> omega
theorem rg_addE {a b c : Int} {x y : Int32} (hx : rgI a b x) (hy : rgI c c y) (h1 : -2147483648 ≤ a + c) (h2 : b + c ≤ 2147483647) : (x + y).toInt = x.toInt + c := by
  have e1 := hx.1; have e2 := hx.2; have e3 := hy.1; have e4 := hy.2
  have := ti_add (x := x) (y := y) (by omega) (by omega)
  omega
theorem rg_in {n : Nat} {a b : Int} {x : Int32} (h : rgI a b x) (ha : 0 ≤ a) (hb : b < (n : Int)) : vp_in x n := vp_in_iff.mpr ⟨Int.le_trans ha h.1, Int.lt_of_le_of_lt h.2 hb⟩
theorem rg_no {a b c d : Int} {x y : Int32} {P : Prop} (hx : rgI a b x) (hy : rgI c d y) (h : x < y) (q : d ≤ a) : P := by
  have := fz_lt.mp h; have h1 := hx.1; have h2 := hy.2; omega
theorem rg_no2 {a b c d : Int} {x y : Int32} {P : Prop} (hx : rgI a b x) (hy : rgI c d y) (h : x ≤ y) (q : d < a) : P := by
  have := fz_le.mp h; have h1 := hx.1; have h2 := hy.2; omega
theorem rg_noE {a b c d : Int} {x y : Int32} {P : Prop} (hx : rgI a b x) (hy : rgI c d y) (h : x = y) (q : d < a ∨ b < c) : P := by
  have h1 := hx.1; have h2 := hy.2; have h3 := hx.2; have h4 := hy.1; rw [h] at h1 h3; omega
theorem rg_ne0 {a b : Int} {x : Int32} (hx : rgI a b x) (q : 0 < a ∨ b < 0) : ¬ x = 0 := by
  intro h; have h1 := hx.1; have h2 := hx.2; rw [h] at h1 h2; have : (0 : Int32).toInt = 0 := rfl; omega
/-! ===== kinds ===== -/
def kt (Ty : TyM) (a tag : Nat) : Prop := ∃ n, Ty a = some (tag, n)
def conf (g : Gx) (Ty : TyM) (k : Kd) (e : va_E) : Prop := match k.1 with
  | 0 => ∃ f : Nat → Int32, e = .inl (g.2.1 1, k.2, .inl f)
  | 1 => ∃ f : Nat → Int64, e = .inl (g.2.1 2, k.2, .inr (.inl f))
  | 2 => ∃ f : Nat → Int32, e = .inl (g.2.1 0, k.2, .inl f)
  | 3 => ∃ f : Nat → Int32, e = .inl (g.2.1 3, k.2, .inl f)
  | 4 => ∃ f : Nat → Option Nat, e = .inl (g.2.1 4, k.2, .inr (.inr (.inr (.inr f)))) ∧ ∀ j t, f j = some t → Ty t = some (20, 0)
  | 5 => ∃ f : Nat → Option Nat, e = .inl (g.2.1 4, 2, .inr (.inr (.inr (.inr f)))) ∧ (∀ j t, f j = some t → Ty t = some (20, 0)) ∧ (k.2 = 0 ∨ ((f 0).isSome = (k.2 - 1).testBit 0 ∧ (f 1).isSome = (k.2 - 1).testBit 1))
  | 10 => ∃ t r h : Nat, e = .inr (0, [.ref t, .ref r, .ref h]) ∧ Ty t = some (20, 0) ∧ Ty r = some (18, 0) ∧ Ty h = some (0, 24)
  | 11 => ∃ (cs : Nat) (u w : Int64), e = .inr (1, [.ref cs, .long u, .long w]) ∧ Ty cs = some (1, 17)
  | 12 => ∃ (t a q : Nat) (x y : Int32), e = .inr (2, [.ref t, .ref a, .ref q, .int x, .int y]) ∧ Ty t = some (20, 0) ∧ Ty a = some (10, 0) ∧ Ty q = some (16, 0)
  | 13 => ∃ (t w v : Nat) (sz : Int32) (ms : Nat) (ml : Int32), e = .inr (3, [.ref t, .ref w, .ref v, .int sz, .ref ms, .int ml]) ∧ Ty t = some (20, 0) ∧ Ty w = some (0, 12) ∧ Ty v = some (0, 12) ∧ Ty ms = some (0, 24) ∧ rgI 0 12 sz ∧ (k.2 = 0 ∨ sz = nI (k.2 - 1))
  | 14 => ∃ (r : Nat) (t sz : Int32), e = .inr (4, [.ref r, .int t, .int sz]) ∧ Ty r = some (4, 12)
  | 15 => ∃ (a b q : Nat) (sz ml : Int32), e = .inr (5, [.ref a, .ref b, .ref q, .int sz, .int ml]) ∧ Ty a = some (0, 10) ∧ Ty b = some (0, 10) ∧ Ty q = some (0, 10) ∧ rgI 0 10 sz ∧ (k.2 = 0 ∨ sz = nI (k.2 - 1))
  | 16 => ∃ x y : Int32, e = .inr (6, [.int x, .int y])
  | 17 => ∃ (n : Nat) (sz : Int32), e = .inr (7, [.ref n, .int sz]) ∧ Ty n = some (1, 24) ∧ rgI 0 24 sz
  | 18 => ∃ (st : Nat) (sz : Int32) (w : Nat) (wt td dg dp cm : Int32) (le sk : Nat), e = .inr (8, [.ref st, .int sz, .ref w, .int wt, .int td, .int dg, .int dp, .int cm, .ref le, .ref sk]) ∧ Ty st = some (0, 40) ∧ Ty w = some (0, 40) ∧ Ty le = some (0, 7) ∧ Ty sk = some (0, 40) ∧ rgI 0 40 sz ∧ st ≠ w
  | 19 => ∃ (sg : Nat) (sz : Int32), e = .inr (9, [.ref sg, .int sz]) ∧ Ty sg = some (0, 80) ∧ rgI 0 80 sz ∧ (k.2 = 0 ∨ sz = nI (k.2 - 1))
  | 20 => ∃ (q1 q2 q3 : Nat) (th ub ac ng : Int32), e = .inr (10, [.ref q1, .ref q2, .ref q3, .int th, .int ub, .int ac, .int ng]) ∧ Ty q1 = some (0, 24) ∧ Ty q2 = some (0, 24) ∧ Ty q3 = some (0, 24)
  | 21 => ∃ dr : Int32, e = .inr (11, [.ref (g.2.2 0), .ref (g.2.2 1), .ref (g.2.2 2), .ref (g.2.2 3), .ref (g.2.2 4), .ref (g.2.2 5), .ref (g.2.2 6), .ref (g.2.2 7), .ref (g.2.2 8), .ref (g.2.2 9), .ref (g.2.2 10), .ref (g.2.2 11), .ref (g.2.2 12), .ref (g.2.2 13), .int dr]) ∧ Ty (g.2.2 0) = some (20, 0) ∧ Ty (g.2.2 1) = some (20, 0) ∧ Ty (g.2.2 2) = some (14, 0) ∧ kt Ty (g.2.2 3) 5 ∧ kt Ty (g.2.2 4) 19 ∧ Ty (g.2.2 5) = some (17, 0) ∧ Ty (g.2.2 6) = some (18, 0) ∧ Ty (g.2.2 7) = some (18, 0) ∧ Ty (g.2.2 8) = some (10, 0) ∧ Ty (g.2.2 9) = some (16, 0) ∧ Ty (g.2.2 10) = some (12, 0) ∧ kt Ty (g.2.2 11) 13 ∧ kt Ty (g.2.2 12) 15 ∧ Ty (g.2.2 13) = some (11, 0)
  | _ => False
def HT (g : Gx) (Ty : TyM) (H : Heap) : Prop := ∀ (a : Nat) (k : Kd), Ty a = some k → ∃ e, conf g Ty k e ∧ va_at g.1 vwCl (a, e) H
def AF (Ty : TyM) (sz : Nat) : Nat → Prop := fun q => (∃ k, Ty q = some k) ∨ sz ≤ q
theorem AF.of {Ty : TyM} {sz a : Nat} {k : Kd} (h : Ty a = some k) : AF Ty sz a := Or.inl ⟨k, h⟩
theorem HT.put {g : Gx} {Ty : TyM} {H H1 : Heap} {a : Nat} {k : Kd} {e : va_E} (h : HT g Ty H) (ha : Ty a = some k) (he : conf g Ty k e) (h1 : va_at g.1 vwCl (a, e) H1) (oq : ∀ q : Nat, q ≠ a → H1[q]? = H[q]?) : HT g Ty H1 := by
  intro b kb hb
  by_cases hab : b = a
  · subst hab
    rw [ha] at hb; cases hb
    exact ⟨e, he, h1⟩
  · obtain ⟨e2, c2, v2⟩ := h b kb hb
    exact ⟨e2, c2, v2.kept (oq b hab)⟩
theorem HT.kept {g : Gx} {Ty : TyM} {H H1 : Heap} (h : HT g Ty H) (oq : ∀ (q : Nat) (k : Kd), Ty q = some k → H1[q]? = H[q]?) : HT g Ty H1 := by
  intro b kb hb
  obtain ⟨e2, c2, v2⟩ := h b kb hb
  exact ⟨e2, c2, v2.kept (oq b kb hb)⟩
theorem HT.lt {g : Gx} {Ty : TyM} {H : Heap} {a : Nat} {k : Kd} (h : HT g Ty H) (ha : Ty a = some k) : a < H.size := by
  obtain ⟨e, -, v⟩ := h a k ha
  exact v.lt
theorem ne_kd {Ty : TyM} {a b : Nat} {k1 k2 : Kd} (h1 : Ty a = some k1) (h2 : Ty b = some k2) (hk : k1 ≠ k2) : a ≠ b := by
  intro h; subst h; rw [h1] at h2; exact hk (Option.some.inj h2)
/-- a method's start over a typed heap -/
def PcT (g : Gx) (Ty : TyM) (sz : Nat) (av : List Value) : Array Value → State → Prop := fun v U => v = av.toArray ∧ U.heap.size = sz ∧ KK g U ∧ HT g Ty U.heap
theorem PcT_blind {g : Gx} {Ty : TyM} {sz : Nat} {av : List Value} : FrameBlind (PcT g Ty sz av) := fun a U f mk q => by
  obtain ⟨q0, q1, qK, qH⟩ := q
  exact ⟨q0, q1, KK.same (u := U) (U := U.calling f mk a) rfl qK, qH⟩
theorem PcT_pre {g : Gx} {Ty : TyM} {s : State} {H : Heap} {av : List Value} (hK : KK g s) (hH : HT g Ty H) : ∀ U : State, U.heap = H → s.WarmedH U.vm → PcT g Ty H.size av av.toArray U := fun U hU hW => ⟨rfl, by rw [hU], KK.warm hW hK, by rw [hU]; exact hH⟩
/-- the start of a method that looks at no cell of ours -/
def PcN (g : Gx) (av : List Value) : Array Value → State → Prop := fun v U => v = av.toArray ∧ KK g U
theorem PcN_blind {g : Gx} {av : List Value} : FrameBlind (PcN g av) := fun a U f mk q => ⟨q.1, KK.same (u := U) (U := U.calling f mk a) rfl q.2⟩
theorem PcN_pre {g : Gx} {s : State} {H : Heap} {av : List Value} (hK : KK g s) : ∀ U : State, U.heap = H → s.WarmedH U.vm → PcN g av av.toArray U := fun U _ hW => ⟨rfl, KK.warm hW hK⟩
abbrev Wm (p : Program) (l : Launch) (e : Env) (ws : List Cond) (rm : Room) (s : State) (m : MethodId) (av : List Value) (below : List Frame) (meth : Method) (c : Code) (H : Heap) (locs : List Loc) (cells slots : Nat) (Qc : Array Value → State → Outcome → State → Prop) (mc ms : Nat) (free : Addr → Prop) (f : JFrame) : Prop := W p l e (headSpec ws rm).room s m av.toArray below meth c H locs cells slots (MQ below Qc av.toArray s mc ms free) f
abbrev QwI (g : Gx) (Ty : TyM) (sz : Nat) (post : Int32 → Prop) : Array Value → State → Outcome → State → Prop := va_Qi (fun r (_ : Unit) => post r) (fun _ t => HT g Ty t.heap) (AF Ty sz)
abbrev QwJ (g : Gx) (Ty : TyM) (sz : Nat) (post : Int64 → Prop) : Array Value → State → Outcome → State → Prop := va_Ql (fun r (_ : Unit) => post r) (fun _ t => HT g Ty t.heap) (AF Ty sz)
abbrev QwV (g : Gx) (Ty : TyM) (sz : Nat) : Array Value → State → Outcome → State → Prop := va_Qv (fun (_ : Unit) => True) (fun _ t => HT g Ty t.heap) (AF Ty sz)
