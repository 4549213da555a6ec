section HTB
variable {p : Program} {l : Launch} {e : Env} {R : Room} {s : State} {m : MethodId} {args : Array Value} {below : List Frame} {meth : Method} {c : Code} {H : Heap} {locs : List Loc} {cells slots : Nat} {Q : State → Prop}
variable {cc : ByteArray} {pc : Nat} {ls : Array Slot} {rest : List Value} {g : Gx} {A : Nat → Prop} {a : Nat} {H0 : Heap}
theorem hg_getN (hexec : p.tables.exec = Jvm.exec) (hb : c.code = cc) {own C host : String} {T : u_T} {N ci index : Nat} {Ts : List Cond} (hts : ∀ w ∈ Ts, w.before args s = true) (hin : ∀ w ∈ u_ws C T N, w ∈ Ts) (hown : s.vm.findClass own = some m.cls) (hK : KK g s) {fs : List Value} (ho : va_at g.1 vwCl (a, .inr (ci, fs)) H) (hc : vwCl[ci]? = some (C, T, N)) (k : Nat) (hk : k < N) (hlink : (Cond.fieldLinkNest own index (T k).1 (T k).2.1 (T k).2.2.1 host).before args s = true) {v : Value} (hv : fs[k]? = some v) (hdg : decode cc pc = .ok (.getfield index, 3))
    (kk : W p l e R s m args below meth c H locs cells slots Q (F0 m (pc + 3) ls (v :: rest))) : W p l e R s m args below meth c H locs cells slots Q (F0 m pc ls (.ref a :: rest)) :=
  va_getN (D := g.1) (ref := (T k).1) hexec hb hts hin hown hK.1 (vaP1 ho) 0 rfl hc k hk hlink (fun _ h => h) hv hdg kk
theorem hg_putN (hexec : p.tables.exec = Jvm.exec) (hb : c.code = cc) {own C host : String} {T : u_T} {N ci index : Nat} {Ts : List Cond} (hts : ∀ w ∈ Ts, w.before args s = true) (hin : ∀ w ∈ u_ws C T N, w ∈ Ts) (ty0 : Nat → FieldType) (hty : ∀ k, k < N → parseFieldDescriptor (T k).2.2.1 = some (ty0 k)) (hnm : ∀ a, a < N → ∀ b, b < N → a ≠ b → (T a).2.1 ≠ (T b).2.1) (hown : s.vm.findClass own = some m.cls) (hK : KK g s) (hS0 : va_S A H0 H locs) {fs : List Value} (ho : va_at g.1 vwCl (a, .inr (ci, fs)) H) (hAa : A a) (hc : vwCl[ci]? = some (C, T, N)) (k : Nat) (hk : k < N) (hlink : (Cond.fieldLinkNest own index (T k).1 (T k).2.1 (T k).2.2.1 host).before args s = true) (hfin : (T k).2.2.2 = false) {ty : FieldType} {v : Value} (hd : parseFieldDescriptor (T k).2.2.1 = some ty) (hn : narrow ty v = v) (hfit : fits ty v = true) (hl : k < fs.length)
    (hdg : decode cc pc = .ok (.putfield index, 3)) (kk : ∀ (H1 : Heap) (locs1 : List Loc), va_at g.1 vwCl (a, .inr (ci, fs.set k v)) H1 → H1.size = H.size → (∀ q : Nat, q ≠ a → H1[q]? = H[q]?) → va_S A H0 H1 locs1 → W p l e R s m args below meth c H1 locs1 cells slots Q (F0 m (pc + 3) ls rest)) : W p l e R s m args below meth c H locs cells slots Q (F0 m pc ls (v :: .ref a :: rest)) := by
  have hap := va_apart (own := own) hts hin ty0 hty hnm hK.1 hc
  obtain ⟨r, h1, cell, q1, q2, q3, q4⟩ := ho
  have hr : r = (C, T, N) := Option.some.inj (h1.symm.trans hc)
  subst hr
  obtain ⟨hS, hfc, kC, hkC, hkind⟩ := hK.1.1 ci _ hc
  obtain ⟨cf, kf, fi, f, hi, hsl⟩ := hS k hk
  have hlay := hts _ (hin _ (u_in_lay hk))
  unfold u_lay at hlay
  rw [if_neg (by rw [hfin]; decide)] at hlay
  have hst := (u_facts hfc hkC (u_lays hts hin hk) hi).1
  have h6 := u_store hfc hkC hkind hlay hi hd hn hfit
  refine va_WputK hexec hb (f := f) hown hlink hi hst (by rw [q2]; exact h6) q1 q3 (by rw [hsl]; exact k2_hasslot (q4 k hk)) rfl rfl hdg fun H' e1 e2 e3 => ?_
  rw [hsl] at e1 ⊢
  exact kk H' _ ⟨_, hc, t_OB.to (V := updV (vp_V fs) k v) ⟨_, e1, q2, q3, t_set q4 hap hk v⟩ (fun j _ => vp_updV_set hl v j)⟩ e2 e3 (hS0.put e2 e3 hAa)
end HTB

theorem rg_div {a b c : Int} {x y : Int32} (hx : rgI a b x) (hy : rgI c c y) (h1 : 0 ≤ a) (h2 : 0 < c) : rgI 0 (b / c) (x / y) := by
  have e1 := hx.1; have e2 := hx.2; have e3 := hy.1; have e4 := hy.2
  have hyc : y.toInt = c := by omega
  have ht : (x / y).toInt = x.toInt / c := by
    rw [Int32.toInt_div, hyc]
    rw [Int.tdiv_eq_ediv_of_nonneg (by omega)]
    have q1 : 0 ≤ x.toInt / c := Int.ediv_nonneg (by omega) (by omega)
    have q2 : x.toInt / c ≤ x.toInt := Int.ediv_le_self _ (by omega)
    have q3 := (rg_top x).2
    exact bm_id (by omega) (by omega)
  refine ⟨?_, ?_⟩
  · rw [ht]; exact Int.ediv_nonneg (by omega) (by omega)
  · rw [ht]; exact Int.ediv_le_ediv h2 e2
theorem rg_rem {a b c : Int} {x y : Int32} (hx : rgI a b x) (hy : rgI c c y) (h1 : 0 ≤ a) (h2 : 0 < c) : rgI 0 (c - 1) (x - x / y * y) := by
  have e1 := hx.1; have e2 := hx.2; have e3 := hy.1; have e4 := hy.2
  have hyc : y.toInt = c := by omega
  have hd := rg_div hx hy h1 h2
  have ht : (x / y).toInt = x.toInt / c := by
    rw [Int32.toInt_div, hyc]
    rw [Int.tdiv_eq_ediv_of_nonneg (by omega)]
    have q1 : 0 ≤ x.toInt / c := Int.ediv_nonneg (by omega) (by omega)
    have q2 : x.toInt / c ≤ x.toInt := Int.ediv_le_self _ (by omega)
    have q3 := (rg_top x).2
    exact bm_id (by omega) (by omega)
  have q3 := (rg_top x).2
  have m1 : x.toInt / c * c ≤ x.toInt := Int.ediv_mul_le _ (by omega)
  have m0 : 0 ≤ x.toInt / c * c := Int.mul_nonneg (Int.ediv_nonneg (by omega) (by omega)) (by omega)
  have hm : (x / y * y).toInt = x.toInt / c * c := by
    rw [ti_mul (by rw [ht, hyc]; omega) (by rw [ht, hyc]; omega), ht, hyc]
  have hs : (x - x / y * y).toInt = x.toInt - x.toInt / c * c := by
    rw [ti_sub (by rw [hm]; omega) (by rw [hm]; omega), hm]
  have hr : x.toInt - x.toInt / c * c = x.toInt % c := by
    have := Int.emod_def x.toInt c
    rw [this, Int.mul_comm]
  have l1 := Int.emod_nonneg x.toInt (show c ≠ 0 by omega)
  have l2 := Int.emod_lt_of_pos x.toInt h2
  constructor <;> omega
theorem rg_mul {a b c d : Int} {x y : Int32} (hx : rgI a b x) (hy : rgI c d y) (h1 : 0 ≤ a) (h2 : 0 ≤ c) (h3 : b * d ≤ 2147483647) : rgI (a * c) (b * d) (x * y) := by
  have e1 := hx.1; have e2 := hx.2; have e3 := hy.1; have e4 := hy.2
  have m1 : a * c ≤ x.toInt * y.toInt := Int.mul_le_mul e1 e3 h2 (by omega)
  have m2 : x.toInt * y.toInt ≤ b * d := Int.mul_le_mul e2 e4 (by omega) (by omega)
  have m0 : 0 ≤ a * c := Int.mul_nonneg h1 h2
  have := ti_mul (x := x) (y := y) (by omega) (by omega)
  constructor <;> omega
theorem rg_mx {a b c d e f : Int} {x y : Int32} (hx : rgI a b x) (hy : rgI c d y) (h1 : e ≤ a ∨ e ≤ c) (h2 : b ≤ f) (h3 : d ≤ f) (h4 : (e ≤ a ∧ e = a) ∨ (e ≤ c ∧ e = c) ∨ True) : rgI e f (if x < y then y else x) := by
  have e1 := hx.1; have e2 := hx.2; have e3 := hy.1; have e4 := hy.2
  split
  · rename_i q
    have := fz_lt.mp q
    constructor <;> omega
  · rename_i q
    have := fz_le.mp (nlt_le q)
    constructor <;> omega
theorem rg_mn {a b c d e f : Int} {x y : Int32} (hx : rgI a b x) (hy : rgI c d y) (h1 : b ≤ f ∨ d ≤ f) (h2 : e ≤ a) (h3 : e ≤ c) (h4 : True) : rgI e f (if y < x then y else x) := by
  have e1 := hx.1; have e2 := hx.2; have e3 := hy.1; have e4 := hy.2
  split
  · rename_i q
    have := fz_lt.mp q
    constructor <;> omega
  · rename_i q
    have := fz_le.mp (nlt_le q)
    constructor <;> omega
theorem rg_andk {k : Nat} (hk : k ≤ 30) {m : Int32} (hm : m.toBitVec.toNat = 2 ^ k - 1) (x : Int32) : rgI 0 (2 ^ k - 1) (x &&& m) := by
  obtain ⟨j, hj, e⟩ := pk_andE x k hm
  have h2 : 2 ^ k ≤ 2 ^ 30 := Nat.pow_le_pow_right (by decide) hk
  rw [e]
  have := nI_toInt (n := j) (by omega)
  constructor
  · omega
  · rw [this]
    have : ((2 : Int) ^ k) = ((2 ^ k : Nat) : Int) := by simp
    omega
theorem rg_and255 (x : Int32) : rgI 0 255 (x &&& 255) := rg_andk (k := 8) (by decide) (by decide) x
theorem rg_and63 (x : Int32) : rgI 0 63 (x &&& 63) := rg_andk (k := 6) (by decide) (by decide) x
theorem rg_and31 (x : Int32) : rgI 0 31 (x &&& 31) := rg_andk (k := 5) (by decide) (by decide) x
theorem rg_and1 (x : Int32) : rgI 0 1 (x &&& 1) := rg_andk (k := 1) (by decide) (by decide) x
/-- a table of kinds grows by cells that are new -/
def Ext (sz : Nat) (Ty Ty' : TyM) : Prop := (∀ a k, Ty a = some k → Ty' a = some k) ∧ ∀ a k, Ty' a = some k → Ty a = some k ∨ sz ≤ a
theorem Ext.rf {sz : Nat} {Ty : TyM} : Ext sz Ty Ty := ⟨fun _ _ h => h, fun _ _ h => Or.inl h⟩
theorem Ext.le {sz z : Nat} {A B : TyM} (h : sz ≤ z) (h2 : Ext z A B) : Ext sz A B := ⟨h2.1, fun a k q => (h2.2 a k q).elim Or.inl (fun w => Or.inr (Nat.le_trans h w))⟩
theorem Ext.tr {sz z : Nat} {A B C : TyM} (h : Ext sz A B) (hz : sz ≤ z) (h2 : Ext z B C) : Ext sz A C := ⟨fun a k q => h2.1 a k (h.1 a k q), fun a k q => (h2.2 a k q).elim (h.2 a k) (fun w => Or.inr (Nat.le_trans hz w))⟩
theorem AF.ofE {sz a : Nat} {Ty Ty1 : TyM} {k : Kd} (hE : Ext sz Ty Ty1) (h : Ty1 a = some k) : AF Ty sz a := (hE.2 a k h).elim (fun q => Or.inl ⟨k, q⟩) Or.inr
theorem AF.back {sz z q : Nat} {Ty Ty1 : TyM} (hE : Ext sz Ty Ty1) (hz : sz ≤ z) (h : AF Ty1 z q) : AF Ty sz q := h.elim (fun ⟨k, w⟩ => AF.ofE hE w) (fun w => Or.inr (Nat.le_trans hz w))
theorem turn_in {sz i d x1 x2 : Int32} {a b : Int} (hs : rgI 0 24 sz) (hi : rgI a b i) (ed : d = sz / 2) (hlt : i < d) (e1 : x1 = sz - 1) (e2 : x2 = x1 - i) (ha : 0 ≤ a := by decide) : vp_in x2 24 := by
  have s1 := hs.1; have s2 := hs.2; have i1 := hi.1; have i2 := hi.2
  have hd : d.toInt = sz.toInt / 2 := by
    rw [ed, Int32.toInt_div]
    show (sz.toInt.tdiv 2).bmod (2 ^ 32) = sz.toInt / 2
    rw [Int.tdiv_eq_ediv_of_nonneg s1]
    exact bm_id (by omega) (by omega)
  have hl := fz_lt.mp hlt
  have h1 : x1.toInt = sz.toInt - 1 := by rw [e1]; exact ti_sub (y := 1) (by show _ ≤ sz.toInt - 1; omega) (by show sz.toInt - 1 ≤ _; omega)
  have h2 : x2.toInt = x1.toInt - i.toInt := by rw [e2]; exact ti_sub (by omega) (by omega)
  exact vp_in_iff.mpr ⟨by omega, by omega⟩
