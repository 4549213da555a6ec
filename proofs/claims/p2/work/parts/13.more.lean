def PcH (g : Gx) (Ty : TyM) (av : List Value) : Array Value → State → Prop := fun v U => v = av.toArray ∧ KK g U ∧ HT g Ty U.heap
theorem PcH_blind {g : Gx} {Ty : TyM} {av : List Value} : FrameBlind (PcH g Ty av) := fun a U f mk q => by
  obtain ⟨q0, qK, qH⟩ := q
  exact ⟨q0, KK.same (u := U) (U := U.calling f mk a) rfl qK, qH⟩
theorem PcH_pre {g : Gx} {Ty : TyM} {s : State} {H : Heap} {av : List Value} (hK : KK g s) (hH : HT g Ty H) : ∀ U : State, U.heap = H → s.WarmedH U.vm → PcH g Ty av av.toArray U := fun U hU hW => ⟨rfl, KK.warm hW hK, by rw [hU]; exact hH⟩
theorem AF.mono {Ty : TyM} {a b q : Nat} (h : a ≤ b) (hq : AF Ty b q) : AF Ty a q := hq.elim Or.inl (fun x => Or.inr (Nat.le_trans h x))
theorem b01 {x : Int32} (h : rgI 0 1 x) : x = 0 ∨ x = 1 := by
  have h1 := h.1; have h2 := h.2
  rcases (show x.toInt = 0 ∨ x.toInt = 1 by omega) with q | q
  · exact Or.inl (Int32.toInt_inj.mp q)
  · exact Or.inr (Int32.toInt_inj.mp q)
theorem nz01 {x : Int32} (h : rgI 0 1 x) : narrow .boolean (.int x) = .int x := by rcases b01 h with rfl | rfl <;> rfl
theorem fz01 {x : Int32} (h : rgI 0 1 x) : fits .boolean (.int x) = true := by rcases b01 h with rfl | rfl <;> rfl
theorem up_all {Ty : TyM} {f : Nat → Option Nat} {k v : Nat} (h : ∀ j t, f j = some t → Ty t = some (20, 0)) (hv : Ty v = some (20, 0)) : ∀ j t, va_up f k (some v) j = some t → Ty t = some (20, 0) := by
  intro j t e
  unfold va_up at e
  by_cases hj : j = k
  · rw [if_pos hj] at e; cases e; exact hv
  · rw [if_neg hj] at e; exact h j t e
section HTB
variable {p : Program} {l : Launch} {e : Env} {R : Room} {s : State} {m : MethodId} {args : Array Value} {below : List Frame} {meth : Method} {c : Code} {H : Heap} {locs : List Loc} {cells slots : Nat} {Q : State → Prop}
variable {cc : ByteArray} {pc : Nat} {ls : Array Slot} {rest : List Value} {g : Gx} {A : Nat → Prop} {a : Nat} {H0 : Heap}
theorem hg_getN (hexec : p.tables.exec = Jvm.exec) (hb : c.code = cc) {own C host : String} {T : u_T} {N ci index : Nat} {Ts : List Cond} (hts : ∀ w ∈ Ts, w.before args s = true) (hin : ∀ w ∈ u_ws C T N, w ∈ Ts) (hown : s.vm.findClass own = some m.cls) (hK : KK g s) {fs : List Value} (ho : va_at g.1 vwCl (a, .inr (ci, fs)) H) (hc : vwCl[ci]? = some (C, T, N)) (k : Nat) (hk : k < N) (hlink : (Cond.fieldLinkNest own index (T k).1 (T k).2.1 (T k).2.2.1 host).before args s = true) {v : Value} (hv : fs[k]? = some v) (hdg : decode cc pc = .ok (.getfield index, 3))
    (kk : W p l e R s m args below meth c H locs cells slots Q (F0 m (pc + 3) ls (v :: rest))) : W p l e R s m args below meth c H locs cells slots Q (F0 m pc ls (.ref a :: rest)) :=
  va_getN (D := g.1) (ref := (T k).1) hexec hb hts hin hown hK.1 (vaP1 ho) 0 rfl hc k hk hlink (fun _ h => h) hv hdg kk
theorem hg_putN (hexec : p.tables.exec = Jvm.exec) (hb : c.code = cc) {own C host : String} {T : u_T} {N ci index : Nat} {Ts : List Cond} (hts : ∀ w ∈ Ts, w.before args s = true) (hin : ∀ w ∈ u_ws C T N, w ∈ Ts) (ty0 : Nat → FieldType) (hty : ∀ k, k < N → parseFieldDescriptor (T k).2.2.1 = some (ty0 k)) (hnm : ∀ a, a < N → ∀ b, b < N → a ≠ b → (T a).2.1 ≠ (T b).2.1) (hown : s.vm.findClass own = some m.cls) (hK : KK g s) (hS0 : va_S A H0 H locs) {fs : List Value} (ho : va_at g.1 vwCl (a, .inr (ci, fs)) H) (hAa : A a) (hc : vwCl[ci]? = some (C, T, N)) (k : Nat) (hk : k < N) (hlink : (Cond.fieldLinkNest own index (T k).1 (T k).2.1 (T k).2.2.1 host).before args s = true) (hfin : (T k).2.2.2 = false) {ty : FieldType} {v : Value} (hd : parseFieldDescriptor (T k).2.2.1 = some ty) (hn : narrow ty v = v) (hfit : fits ty v = true) (hl : k < fs.length)
    (hdg : decode cc pc = .ok (.putfield index, 3)) (kk : ∀ (H1 : Heap) (locs1 : List Loc), va_at g.1 vwCl (a, .inr (ci, fs.set k v)) H1 → H1.size = H.size → (∀ q : Nat, q ≠ a → H1[q]? = H[q]?) → va_S A H0 H1 locs1 → W p l e R s m args below meth c H1 locs1 cells slots Q (F0 m (pc + 3) ls rest)) : W p l e R s m args below meth c H locs cells slots Q (F0 m pc ls (v :: .ref a :: rest)) := by
  have hap := va_apart (own := own) hts hin ty0 hty hnm hK.1 hc
  obtain ⟨r, h1, cell, q1, q2, q3, q4⟩ := ho
  have hr : r = (C, T, N) := Option.some.inj (h1.symm.trans hc)
  subst hr
  obtain ⟨hS, hfc, kC, hkC, hkind⟩ := hK.1.1 ci _ hc
  obtain ⟨cf, kf, fi, f, hi, hsl⟩ := hS k hk
  have hlay := hts _ (hin _ (u_in_lay hk))
  unfold u_lay at hlay
  rw [if_neg (by rw [hfin]; decide)] at hlay
  have hst := (u_facts hfc hkC (u_lays hts hin hk) hi).1
  have h6 := u_store hfc hkC hkind hlay hi hd hn hfit
  refine va_WputK hexec hb (f := f) hown hlink hi hst (by rw [q2]; exact h6) q1 q3 (by rw [hsl]; exact k2_hasslot (q4 k hk)) rfl rfl hdg fun H' e1 e2 e3 => ?_
  rw [hsl] at e1 ⊢
  exact kk H' _ ⟨_, hc, t_OB.to (V := updV (vp_V fs) k v) ⟨_, e1, q2, q3, t_set q4 hap hk v⟩ (fun j _ => vp_updV_set hl v j)⟩ e2 e3 (hS0.put e2 e3 hAa)
end HTB
