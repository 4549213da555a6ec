/-! ===== making cells: tables of kinds grow ===== -/
theorem conf_ext {g : Gx} {Ty Ty' : TyM} {G : Gh} {a : Nat} {k : Kd} {e : va_E} (hE : ∀ a k, Ty a = some k → Ty' a = some k) (h : conf g Ty G a k e) : conf g Ty' G a k e := by
  obtain ⟨t, n⟩ := k
  by_cases t4 : t = 4
  · subst t4; obtain ⟨f, h1, h2⟩ := h; exact ⟨f, h1, fun j t q => hE _ _ (h2 j t q)⟩
  by_cases t5 : t = 5
  · subst t5; obtain ⟨f, h1, h2, h3⟩ := h; exact ⟨f, h1, fun j t q => hE _ _ (h2 j t q), h3⟩
  by_cases t10 : t = 10
  · subst t10; obtain ⟨h1, h2, h3, h4⟩ := h; exact ⟨h1, hE _ _ h2, hE _ _ h3, hE _ _ h4⟩
  by_cases t11 : t = 11
  · subst t11; obtain ⟨a1, a2, a3, h1, h2⟩ := h; exact ⟨a1, a2, a3, h1, hE _ _ h2⟩
  by_cases t12 : t = 12
  · subst t12; obtain ⟨a1, h1, h2, h3, h4, h5⟩ := h; exact ⟨a1, h1, hE _ _ h2, hE _ _ h3, hE _ _ h4, h5⟩
  by_cases t13 : t = 13
  · subst t13; obtain ⟨a1, a2, h1, h2, h3, h4, h5, h6⟩ := h; exact ⟨a1, a2, h1, hE _ _ h2, hE _ _ h3, hE _ _ h4, hE _ _ h5, h6⟩
  by_cases t14 : t = 14
  · subst t14; obtain ⟨a1, a2, h1, h2, h3⟩ := h; exact ⟨a1, a2, h1, hE _ _ h2, h3⟩
  by_cases t15 : t = 15
  · subst t15; obtain ⟨a1, a2, a3, a4, h1, h2, h3, h4, h5⟩ := h; exact ⟨a1, a2, a3, a4, h1, hE _ _ h2, hE _ _ h3, hE _ _ h4, h5⟩
  by_cases t17 : t = 17
  · subst t17; obtain ⟨a1, h1, h2, h3⟩ := h; exact ⟨a1, h1, hE _ _ h2, h3⟩
  by_cases t18 : t = 18
  · subst t18; obtain ⟨a1, a2, a3, a4, a5, a6, a7, a8, a9, h1, h2, h3, h4, h5, h6⟩ := h; exact ⟨a1, a2, a3, a4, a5, a6, a7, a8, a9, h1, hE _ _ h2, hE _ _ h3, hE _ _ h4, hE _ _ h5, h6⟩
  by_cases t19 : t = 19
  · subst t19; obtain ⟨a1, h1, h2, h3⟩ := h; exact ⟨a1, h1, hE _ _ h2, h3⟩
  by_cases t20 : t = 20
  · subst t20; obtain ⟨a1, a2, a3, a4, a5, a6, a7, h1, h2, h3, h4⟩ := h; exact ⟨a1, a2, a3, a4, a5, a6, a7, h1, hE _ _ h2, hE _ _ h3, hE _ _ h4⟩
  by_cases t21 : t = 21
  · subst t21
    obtain ⟨h0, h1, h2, h3, h4, h5, h6, h7, h8, h9, h10, h11, h12, h13, h14, h15⟩ := h
    exact ⟨h0, hE _ _ h1, hE _ _ h2, hE _ _ h3, hE _ _ h4, hE _ _ h5, hE _ _ h6, hE _ _ h7, hE _ _ h8, hE _ _ h9, hE _ _ h10, hE _ _ h11, hE _ _ h12, hE _ _ h13, hE _ _ h14, h15⟩
  by_cases t24 : t = 24
  · subst t24; obtain ⟨h1, h2, h3, h4, h5⟩ := h; exact ⟨h1, hE _ _ h2, hE _ _ h3, hE _ _ h4, h5⟩
  by_cases t22 : t = 22
  · subst t22
    obtain ⟨d, h0, h1, h2, h3, h4, h5, h6, h7, h8, h9, h10, h11, h12, h13, h14, h15, h16, h17, h18, h19, h20, h21, h22⟩ := h
    exact ⟨d, h0, hE _ _ h1, hE _ _ h2, hE _ _ h3, hE _ _ h4, hE _ _ h5, hE _ _ h6, hE _ _ h7, hE _ _ h8, hE _ _ h9, hE _ _ h10, hE _ _ h11, hE _ _ h12, hE _ _ h13, hE _ _ h14, hE _ _ h15, hE _ _ h16, hE _ _ h17, hE _ _ h18, hE _ _ h19, hE _ _ h20, hE _ _ h21, hE _ _ h22⟩
  by_cases t23 : t = 23
  · subst t23; obtain ⟨a1, a2, a3, a4, a5, a6, a7, h1, h2, h3, h4, h5, h6⟩ := h; exact ⟨a1, a2, a3, a4, a5, a6, a7, h1, hE _ _ h2, hE _ _ h3, hE _ _ h4, hE _ _ h5, h6⟩
  unfold conf at h ⊢
  split at h <;> simp_all
def tset (Ty : TyM) (a : Nat) (k : Kd) : TyM := fun b => if b = a then some k else Ty b
theorem ts_eq {Ty : TyM} {a : Nat} {k : Kd} : tset Ty a k a = some k := by unfold tset; rw [if_pos rfl]
theorem ts_ne {Ty : TyM} {a b : Nat} {k : Kd} (h : b ≠ a) : tset Ty a k b = Ty b := by unfold tset; rw [if_neg h]
theorem ts_up {Ty : TyM} {a b : Nat} {k j : Kd} (h : b ≠ a) (q : Ty b = some j) : tset Ty a k b = some j := (ts_ne h).trans q
theorem HT.free {g : Gx} {Ty : TyM} {G : Gh} {H : Heap} {q : Nat} (h : HT g Ty G H) (hq : H.size ≤ q) : Ty q = none := by
  cases e : Ty q with
  | none => rfl
  | some k => exact absurd (h.lt e) (by omega)
theorem HT.type {g : Gx} {Ty : TyM} {G : Gh} {H : Heap} {a : Nat} {k : Kd} {e : va_E} (h : HT g Ty G H) (hn : Ty a = none) (hv : va_at g.1 vwCl (a, e) H) (hc : conf g (tset Ty a k) G a k e) : HT g (tset Ty a k) G H := by
  intro b kb hb
  by_cases hab : b = a
  · subst hab
    rw [ts_eq] at hb; cases hb
    exact ⟨e, hc, hv⟩
  · rw [ts_ne hab] at hb
    obtain ⟨e2, c2, v2⟩ := h b kb hb
    exact ⟨e2, conf_ext (fun x y q => ts_up (fun z => by rw [z, hn] at q; cases q) q) c2, v2⟩
theorem HT.raw {g : Gx} {Ty : TyM} {G : Gh} {H H1 : Heap} {a : Nat} (h : HT g Ty G H) (hn : Ty a = none) (oq : ∀ q : Nat, q ≠ a → H1[q]? = H[q]?) : HT g Ty G H1 := h.kept (fun q k hq => oq q (fun z => by rw [z, hn] at hq; cases hq))
theorem HT.more {g : Gx} {Ty : TyM} {G : Gh} {H H1 : Heap} (h : HT g Ty G H) (o1 : ∀ q : Nat, q < H.size → H1[q]? = H[q]?) : HT g Ty G H1 := h.kept (fun q k hq => o1 q (h.lt hq))
theorem HT.grow {g : Gx} {Ty : TyM} {G : Gh} {H H1 : Heap} {q : Nat} {k : Kd} {e : va_E} (h : HT g Ty G H) (hq : H.size ≤ q) (o1 : ∀ q : Nat, q < H.size → H1[q]? = H[q]?) (hv : va_at g.1 vwCl (q, e) H1) (hc : conf g (tset Ty q k) G q k e) : HT g (tset Ty q k) G H1 := HT.type (h.more o1) (h.free hq) hv hc
theorem va_S.more {A : Nat → Prop} {H0 H H1 : Heap} {locs : List Loc} (h : va_S A H0 H locs) (z : H1.size = H.size + 1) (o1 : ∀ q : Nat, q < H.size → H1[q]? = H[q]?) : va_S A H0 H1 locs := ⟨Nat.le_trans h.1 (by omega), fun x h1 h2 => (o1 x (Nat.lt_of_lt_of_le h1 h.1)).trans (h.2.1 x h1 h2), h.2.2⟩
def AN (h0 sz : Nat) : Nat → Prop := fun q => q = h0 ∨ sz ≤ q
section HTM
variable {p : Program} {l : Launch} {e : Env} {R : Room} {s : State} {m : MethodId} {args : Array Value} {below : List Frame} {meth : Method} {c : Code} {H : Heap} {locs : List Loc} {cells slots : Nat} {Q : State → Prop}
variable {cc : ByteArray} {pc : Nat} {ls : Array Slot} {rest : List Value} {g : Gx} {A : Nat → Prop} {a : Nat} {H0 : Heap}
theorem hg_new (hexec : p.tables.exec = Jvm.exec) (hb : c.code = cc) {own C : String} {T : u_T} {N ci index : Nat} {Ts : List Cond} (hts : ∀ w ∈ Ts, w.before args s = true) (hin : ∀ w ∈ u_ws C T N, w ∈ Ts) (ty : Nat → FieldType) (hty : ∀ k, k < N → parseFieldDescriptor (T k).2.2.1 = some (ty k)) (hown : s.vm.findClass own = some m.cls) (hcl : (Cond.classLink own index C).before args s = true) (hinst : (Cond.instantiable C N).before args s = true) (hini : (Cond.initialized C).before args s = true)
    (hK : KK g s) (hS : va_S A H0 H locs) (hc : vwCl[ci]? = some (C, T, N)) {fs : List Value} (hfs : ∀ j, j < N → defaultValue (ty j) = vp_V fs j) (hcells : cells + 1 ≤ R.cells) (hslots : slots + N ≤ R.slots) (hdg : decode cc pc = .ok (.new index, 3))
    (kk : ∀ H1 : Heap, va_at g.1 vwCl (H.size, .inr (ci, fs)) H1 → H1.size = H.size + 1 → (∀ q : Nat, q < H.size → H1[q]? = H[q]?) → va_S A H0 H1 locs → W p l e R s m args below meth c H1 locs (cells + 1) (slots + N) Q (F0 m (pc + 3) ls (.ref H.size :: rest))) : W p l e R s m args below meth c H locs cells slots Q (F0 m pc ls rest) := by
  have hKn := hK.1.1 ci _ hc
  refine W.newcK hexec hb hown hcl hinst hini rfl hdg hcells hslots hKn.2.1 rfl fun H1 kC hkC e1 z1 o1 => ?_
  exact kk H1 ⟨_, hc, (u_born ty hts hin hKn hkC e1 hty).to hfs⟩ z1 o1 (hS.more z1 o1)
theorem hg_newQ (hexec : p.tables.exec = Jvm.exec) (hb : c.code = cc) {own C : String} {T : u_T} {N ci index : Nat} {Ts : List Cond} (hts : ∀ w ∈ Ts, w.before args s = true) (hin : ∀ w ∈ u_ws C T N, w ∈ Ts) (ty : Nat → FieldType) (hty : ∀ k, k < N → parseFieldDescriptor (T k).2.2.1 = some (ty k)) (hown : s.vm.findClass own = some m.cls) (hcl : (Cond.classLink own index C).before args s = true) (hinst : (Cond.instantiable C N).before args s = true) (hini : (Cond.initialized C).before args s = true)
    (hK : KK g s) (hS : va_S A H0 H locs) (hc : vwCl[ci]? = some (C, T, N)) {fs : List Value} (hfs : ∀ j, j < N → defaultValue (ty j) = vp_V fs j) (hcells : cells + 1 ≤ R.cells) (hslots : slots + N ≤ R.slots) (hdg : decode cc pc = .ok (.new index, 3)) {q : Nat} (hq : q = H.size)
    (kk : ∀ H1 : Heap, va_at g.1 vwCl (q, .inr (ci, fs)) H1 → H1.size = q + 1 → (∀ b : Nat, b < H.size → H1[b]? = H[b]?) → va_S A H0 H1 locs → W p l e R s m args below meth c H1 locs (cells + 1) (slots + N) Q (F0 m (pc + 3) ls (.ref q :: rest))) : W p l e R s m args below meth c H locs cells slots Q (F0 m pc ls rest) := by
  subst hq
  exact hg_new hexec hb hts hin ty hty hown hcl hinst hini hK hS hc hfs hcells hslots hdg kk
theorem hg_newi (hexec : p.tables.exec = Jvm.exec) (hb : c.code = cc) (harr : (Cond.arrayClass .int).before args s = true) (hK : KK g s) (hS : va_S A H0 H locs) {n : Int32} {N : Nat} (hn : ¬ n < 0) (hN : n.toNatClampNeg = N) (hbytes : N * 4 ≤ 536870912) (hcells : cells + 1 ≤ R.cells) (hslots : slots + N ≤ R.slots) (hdg : decode cc pc = .ok (.newarray .int, 2))
    (kk : ∀ H1 : Heap, va_at g.1 vwCl (H.size, .inl (g.2.1 1, N, .inl (fun _ => 0))) H1 → H1.size = H.size + 1 → (∀ q : Nat, q < H.size → H1[q]? = H[q]?) → va_S A H0 H1 locs → W p l e R s m args below meth c H1 locs (cells + 1) (slots + N) Q (F0 m (pc + 2) ls (.ref H.size :: rest))) : W p l e R s m args below meth c H locs cells slots Q (F0 m pc ls (.int n :: rest)) := by
  refine va_newaK (atype := .int) hexec hb harr rfl hdg rfl hn hN hbytes hcells hslots rfl fun H1 cA e1 z1 o1 hAr hNm => ?_
  have hcA : cA = g.2.1 1 := Option.some.inj (hNm.symm.trans (hK.1.2 1 _ rfl).2)
  subst hcA
  exact kk H1 e1 z1 o1 (hS.more z1 o1)
theorem hg_newl (hexec : p.tables.exec = Jvm.exec) (hb : c.code = cc) (harr : (Cond.arrayClass .long).before args s = true) (hK : KK g s) (hS : va_S A H0 H locs) {n : Int32} {N : Nat} (hn : ¬ n < 0) (hN : n.toNatClampNeg = N) (hbytes : N * 8 ≤ 536870912) (hcells : cells + 1 ≤ R.cells) (hslots : slots + N ≤ R.slots) (hdg : decode cc pc = .ok (.newarray .long, 2))
    (kk : ∀ H1 : Heap, va_at g.1 vwCl (H.size, .inl (g.2.1 2, N, .inr (.inl (fun _ => 0)))) H1 → H1.size = H.size + 1 → (∀ q : Nat, q < H.size → H1[q]? = H[q]?) → va_S A H0 H1 locs → W p l e R s m args below meth c H1 locs (cells + 1) (slots + N) Q (F0 m (pc + 2) ls (.ref H.size :: rest))) : W p l e R s m args below meth c H locs cells slots Q (F0 m pc ls (.int n :: rest)) := by
  refine va_newaK (atype := .long) hexec hb harr rfl hdg rfl hn hN hbytes hcells hslots rfl fun H1 cA e1 z1 o1 hAr hNm => ?_
  have hcA : cA = g.2.1 2 := Option.some.inj (hNm.symm.trans (hK.1.2 2 _ rfl).2)
  subst hcA
  exact kk H1 e1 z1 o1 (hS.more z1 o1)
theorem hg_newb (hexec : p.tables.exec = Jvm.exec) (hb : c.code = cc) (harr : (Cond.arrayClass .byte).before args s = true) (hK : KK g s) (hS : va_S A H0 H locs) {n : Int32} {N : Nat} (hn : ¬ n < 0) (hN : n.toNatClampNeg = N) (hbytes : N * 1 ≤ 536870912) (hcells : cells + 1 ≤ R.cells) (hslots : slots + N ≤ R.slots) (hdg : decode cc pc = .ok (.newarray .byte, 2))
    (kk : ∀ H1 : Heap, va_at g.1 vwCl (H.size, .inl (g.2.1 0, N, .inl (fun _ => 0))) H1 → H1.size = H.size + 1 → (∀ q : Nat, q < H.size → H1[q]? = H[q]?) → va_S A H0 H1 locs → W p l e R s m args below meth c H1 locs (cells + 1) (slots + N) Q (F0 m (pc + 2) ls (.ref H.size :: rest))) : W p l e R s m args below meth c H locs cells slots Q (F0 m pc ls (.int n :: rest)) := by
  refine va_newaK (atype := .byte) hexec hb harr rfl hdg rfl hn hN hbytes hcells hslots rfl fun H1 cA e1 z1 o1 hAr hNm => ?_
  have hcA : cA = g.2.1 0 := Option.some.inj (hNm.symm.trans (hK.1.2 0 _ rfl).2)
  subst hcA
  exact kk H1 e1 z1 o1 (hS.more z1 o1)
theorem hg_newz (hexec : p.tables.exec = Jvm.exec) (hb : c.code = cc) (harr : (Cond.arrayClass .boolean).before args s = true) (hK : KK g s) (hS : va_S A H0 H locs) {n : Int32} {N : Nat} (hn : ¬ n < 0) (hN : n.toNatClampNeg = N) (hbytes : N * 1 ≤ 536870912) (hcells : cells + 1 ≤ R.cells) (hslots : slots + N ≤ R.slots) (hdg : decode cc pc = .ok (.newarray .boolean, 2))
    (kk : ∀ H1 : Heap, va_at g.1 vwCl (H.size, .inl (g.2.1 3, N, .inl (fun _ => 0))) H1 → H1.size = H.size + 1 → (∀ q : Nat, q < H.size → H1[q]? = H[q]?) → va_S A H0 H1 locs → W p l e R s m args below meth c H1 locs (cells + 1) (slots + N) Q (F0 m (pc + 2) ls (.ref H.size :: rest))) : W p l e R s m args below meth c H locs cells slots Q (F0 m pc ls (.int n :: rest)) := by
  refine va_newaK (atype := .boolean) hexec hb harr rfl hdg rfl hn hN hbytes hcells hslots rfl fun H1 cA e1 z1 o1 hAr hNm => ?_
  have hcA : cA = g.2.1 3 := Option.some.inj (hNm.symm.trans (hK.1.2 3 _ rfl).2)
  subst hcA
  exact kk H1 e1 z1 o1 (hS.more z1 o1)
theorem hg_newq (hexec : p.tables.exec = Jvm.exec) (hb : c.code = cc) {own : String} {index : Nat} (hown : s.vm.findClass own = some m.cls) (hclink : (Cond.classLink own index "MountPeers$Tree").before args s = true) (hover : va_AO "MountPeers$Tree" s) (hK : KK g s) (hS : va_S A H0 H locs) {n : Int32} {N : Nat} (hn : ¬ n < 0) (hN : n.toNatClampNeg = N) (hbytes : N * 4 ≤ 536870912) (hcells : cells + 1 ≤ R.cells) (hslots : slots + N ≤ R.slots) (hdg : decode cc pc = .ok (.anewarray index, 3))
    (kk : ∀ H1 : Heap, va_at g.1 vwCl (H.size, .inl (g.2.1 4, N, .inr (.inr (.inr (.inr (fun _ => none)))))) H1 → H1.size = H.size + 1 → (∀ q : Nat, q < H.size → H1[q]? = H[q]?) → va_S A H0 H1 locs → W p l e R s m args below meth c H1 locs (cells + 1) (slots + N) Q (F0 m (pc + 3) ls (.ref H.size :: rest))) : W p l e R s m args below meth c H locs cells slots Q (F0 m pc ls (.int n :: rest)) := by
  subst hN
  refine W.anew hexec hb hown hclink (va_AO.use hover) rfl hdg rfl hn hbytes hcells hslots fun cA kA comp f1 f2 f3 f4 => ?_
  generalize hH1 : H.push ({ cls := cA, slots := Array.replicate n.toNatClampNeg .null, vm := .none } : Cell) = H1
  have z1 : H1.size = H.size + 1 := by rw [← hH1, Array.size_push]
  have e1 : H1[H.size]? = some (arrV cA n.toNatClampNeg (fun _ => .null)) := by rw [← hH1, Array.getElem?_push_size, ← arrV_new]
  have o1 : ∀ q : Nat, q < H.size → H1[q]? = H[q]? := fun q hq => by rw [← hH1, Array.getElem?_push, if_neg (Nat.ne_of_lt hq)]
  obtain ⟨kA2, comp2, q1, q2, q3, q4⟩ := (hK.1.2 4 _ rfl).2
  have hcA : cA = g.2.1 4 := Option.some.inj (f1.symm.trans q4)
  subst hcA
  exact kk H1 e1 z1 o1 (hS.more z1 o1)
theorem hg_putF (hexec : p.tables.exec = Jvm.exec) (hb : c.code = cc) {own C : String} {T : u_T} {N ci index : Nat} {Ts : List Cond} (hts : ∀ w ∈ Ts, w.before args s = true) (hin : ∀ w ∈ u_ws C T N, w ∈ Ts) (ty0 : Nat → FieldType) (hty : ∀ k, k < N → parseFieldDescriptor (T k).2.2.1 = some (ty0 k)) (hnm : ∀ a, a < N → ∀ b, b < N → a ≠ b → (T a).2.1 ≠ (T b).2.1) (hown : s.vm.findClass own = some m.cls) (hK : KK g s) (hS0 : va_S A H0 H locs) {fs : List Value} (ho : va_at g.1 vwCl (a, .inr (ci, fs)) H) (hAa : A a) (hc : vwCl[ci]? = some (C, T, N)) (k : Nat) (hk : k < N) (hlink : (Cond.fieldLink own index (T k).1 (T k).2.1 (T k).2.2.1).before args s = true) (hfin : (T k).2.2.2 = true) (hin2 : meth.name = "<init>") (hdecl : (T k).1 = own) {ty : FieldType} {v : Value} (hd : parseFieldDescriptor (T k).2.2.1 = some ty) (hn : narrow ty v = v) (hfit : fits ty v = true) (hl : k < fs.length)
    (hdg : decode cc pc = .ok (.putfield index, 3)) (kk : ∀ (H1 : Heap) (locs1 : List Loc), va_at g.1 vwCl (a, .inr (ci, fs.set k v)) H1 → H1.size = H.size → (∀ q : Nat, q ≠ a → H1[q]? = H[q]?) → va_S A H0 H1 locs1 → W p l e R s m args below meth c H1 locs1 cells slots Q (F0 m (pc + 3) ls rest)) : W p l e R s m args below meth c H locs cells slots Q (F0 m pc ls (v :: .ref a :: rest)) := by
  have hap := va_apart (own := own) hts hin ty0 hty hnm hK.1 hc
  obtain ⟨r, h1, cell, q1, q2, q3, q4⟩ := ho
  have hr : r = (C, T, N) := Option.some.inj (h1.symm.trans hc)
  subst hr
  obtain ⟨hS, hfc, kC, hkC, hkind⟩ := hK.1.1 ci _ hc
  obtain ⟨cf, kf, fi, f, hi, hsl⟩ := hS k hk
  have hlay := hts _ (hin _ (u_in_lay hk))
  unfold u_lay at hlay
  rw [if_pos hfin] at hlay
  have hst := (u_facts hfc hkC (u_lays hts hin hk) hi).1
  have hcf : m.cls = cf := by
    obtain ⟨_, _, c', _, _, _, -, -, hf', -, -, -, hown2, -⟩ := Cond.laysFinal_spec hlay
    have e1 : c' = cf := by have := hi.symm.trans hf'; simp at this; exact this.1.symm
    rw [hdecl] at hown2
    rw [← e1]; exact Option.some.inj (hown.symm.trans hown2)
  have h6 := u_fits hfc hkC hkind (Or.inr hlay) hi hd hn hfit
  refine W.putFinK hexec hb hown hlink hi hst hcf hin2 (by rw [q2]; exact h6) q1 q3 (by rw [hsl]; exact k2_hasslot (q4 k hk)) rfl rfl hdg fun H' e1 e2 e3 => ?_
  rw [hsl] at e1 ⊢
  exact kk H' _ ⟨_, hc, t_OB.to (V := updV (vp_V fs) k v) ⟨_, e1, q2, q3, t_set q4 hap hk v⟩ (fun j _ => vp_updV_set hl v j)⟩ e2 e3 (hS0.put e2 e3 hAa)
end HTM
/-- a constructor's start: its own cell is made, and has no kind yet -/
def PcC (g : Gx) (Ty : TyM) (G : Gh) (sz h0 : Nat) (e0 : va_E) (av : List Value) : Array Value → State → Prop := fun v U => v = av.toArray ∧ U.heap.size = sz ∧ KK g U ∧ HT g Ty G U.heap ∧ va_at g.1 vwCl (h0, e0) U.heap
theorem PcC_blind {g : Gx} {Ty : TyM} {G : Gh} {sz h0 : Nat} {e0 : va_E} {av : List Value} : FrameBlind (PcC g Ty G sz h0 e0 av) := fun a U f mk q => by
  obtain ⟨q0, q1, qK, qH, qR⟩ := q
  exact ⟨q0, q1, KK.same (u := U) (U := U.calling f mk a) rfl qK, qH, qR⟩
theorem PcC_pre {g : Gx} {Ty : TyM} {G : Gh} {s : State} {H : Heap} {h0 : Nat} {e0 : va_E} {av : List Value} (hK : KK g s) (hH : HT g Ty G H) (hr : va_at g.1 vwCl (h0, e0) H) : ∀ U : State, U.heap = H → s.WarmedH U.vm → PcC g Ty G H.size h0 e0 av av.toArray U := fun U hU hW => ⟨rfl, by rw [hU], KK.warm hW hK, by rw [hU]; exact hH, by rw [hU]; exact hr⟩
/-- the same, of one that makes an array of trees -/
def PcA (g : Gx) (Ty : TyM) (G : Gh) (sz h0 : Nat) (e0 : va_E) (av : List Value) : Array Value → State → Prop := fun v U => v = av.toArray ∧ U.heap.size = sz ∧ KK g U ∧ va_AO "MountPeers$Tree" U ∧ HT g Ty G U.heap ∧ va_at g.1 vwCl (h0, e0) U.heap
theorem PcA_blind {g : Gx} {Ty : TyM} {G : Gh} {sz h0 : Nat} {e0 : va_E} {av : List Value} : FrameBlind (PcA g Ty G sz h0 e0 av) := fun a U f mk q => by
  obtain ⟨q0, q1, qK, qA, qH, qR⟩ := q
  exact ⟨q0, q1, KK.same (u := U) (U := U.calling f mk a) rfl qK, va_AO.moved (u := U) (U := U.calling f mk a) (Vm.Alike.refl U.vm) qA, qH, qR⟩
theorem PcA_pre {g : Gx} {Ty : TyM} {G : Gh} {s : State} {H : Heap} {h0 : Nat} {e0 : va_E} {av : List Value} (hK : KK g s) (hAO : va_AO "MountPeers$Tree" s) (hH : HT g Ty G H) (hr : va_at g.1 vwCl (h0, e0) H) : ∀ U : State, U.heap = H → s.WarmedH U.vm → PcA g Ty G H.size h0 e0 av av.toArray U := fun U hU hW => ⟨rfl, by rw [hU], KK.warm hW hK, va_AO.moved hW.alike hAO, by rw [hU]; exact hH, by rw [hU]; exact hr⟩
abbrev QcC (g : Gx) (Ty : TyM) (G : Gh) (sz h0 mc : Nat) : Array Value → State → Outcome → State → Prop := va_Qv (fun (_ : Unit) => True) (fun _ t => HT g Ty G t.heap ∧ t.heap.size = sz + mc) (AN h0 sz)
/-- a tree more: its cell at q, its rows from z on -/
abbrev tree4 (Ty : TyM) (q z : Nat) : TyM := tset (tset (tset (tset Ty z (0, 24)) (z + 1) (0, 24)) (z + 2) (0, 24)) q (20, 0)
theorem tree4_q {Ty : TyM} {q z : Nat} : tree4 Ty q z q = some (20, 0) := ts_eq
theorem ext_ts {sz a : Nat} {Ty A : TyM} {k : Kd} (h : Ext sz Ty A) (hn : A a = none) (ha : sz ≤ a) : Ext sz Ty (tset A a k) := ⟨fun b kb q => ts_up (fun e => by have := h.1 b kb q; rw [e, hn] at this; cases this) (h.1 b kb q), fun b kb q => by
  by_cases e : b = a
  · rw [e]; exact Or.inr ha
  · rw [ts_ne e] at q; exact h.2 b kb q⟩
theorem tree4_ext {g : Gx} {Ty : TyM} {G : Gh} {H : Heap} {q sz : Nat} (hH : HT g Ty G H) (hq : Ty q = none) (h1 : sz ≤ q) (h2 : sz ≤ H.size) (h3 : q < H.size := by omega) : Ext sz Ty (tree4 Ty q H.size) := by
  refine ext_ts (ext_ts (ext_ts (ext_ts Ext.rf (hH.free (Nat.le_refl _)) h2) ?_ (by omega)) ?_ (by omega)) ?_ h1
  · rw [ts_ne (by omega)]; exact hH.free (by omega)
  · rw [ts_ne (by omega), ts_ne (by omega)]; exact hH.free (by omega)
  · rw [ts_ne (by omega), ts_ne (by omega), ts_ne (by omega)]; exact hq
theorem va_upS {f : Nat → Option Nat} {k : Nat} {o : Option Nat} : va_up f k o k = o := by unfold va_up; rw [if_pos rfl]
theorem va_upN {f : Nat → Option Nat} {k j : Nat} {o : Option Nat} (h : j ≠ k) : va_up f k o j = f j := by unfold va_up; rw [if_neg h]
theorem HT.putK {g : Gx} {Ty : TyM} {G : Gh} {H H1 : Heap} {a : Nat} {f : Nat → Option Nat} (h : HT g Ty G H) (ha : Ty a = some (5, 2)) (h1 : va_at g.1 vwCl (a, .inl (g.2.1 4, 2, .inr (.inr (.inr (.inr f))))) H1) (hall : ∀ j t, f j = some t → Ty t = some (20, 0)) (hi : a = g.2.2 3) (oq : ∀ q : Nat, q ≠ a → H1[q]? = H[q]?) : HT g Ty (gset (gset G 3 (oB (f 0))) 4 (oB (f 1))) H1 := by
  refine HT.putG _ h ha ⟨f, rfl, hall, hi, ?_, ?_⟩ h1 oq fun b kb eb hb hc => ?_
  · rw [gs_ne (by decide), gs_eq]
  · rw [gs_eq]
  · obtain ⟨t, n⟩ := kb
    refine ⟨fun j hj => ?_, fun _ => ⟨fun i hi => ?_, rfl⟩, fun _ => rfl⟩
    · have q1 := cf_own hc hj
      rw [← dep_own hj] at q1
      have n3 : j ≠ 3 := fun q => by subst q; exact hb (q1.trans hi.symm)
      have n4 : j ≠ 4 := fun q => by subst q; exact hb (q1.trans hi.symm)
      rw [gs_ne n4, gs_ne n3]
    · rw [gs_ne (by omega), gs_ne (by omega)]
theorem keep_new {G G1 : Gh} {i : Int32} {f f' : Nat → Option Nat} {v : Nat} (e : G1 = gset (gset G 3 (oB (f' 0))) 4 (oB (f' 1))) (ef : va_up f i.toNatClampNeg (some v) = f') (hi : rgI 0 1 i) (h0 : oB (f 0) = G.1 3) (h1 : oB (f 1) = G.1 4) : (i = 0 ∧ G1 = gset G 3 1) ∨ (i = 1 ∧ G1 = gset G 4 1) := by
  rcases b01 hi with rfl | rfl
  · refine Or.inl ⟨rfl, ?_⟩
    have a0 : f' 0 = some v := by rw [← ef]; exact va_upS
    have a1 : f' 1 = f 1 := by rw [← ef]; exact va_upN (by decide)
    rw [e, a0, a1, h1]
    exact gs_id (gs_ne (by decide)).symm
  · refine Or.inr ⟨rfl, ?_⟩
    have a0 : f' 0 = f 0 := by rw [← ef]; exact va_upN (by decide)
    have a1 : f' 1 = some v := by rw [← ef]; exact va_upS
    rw [e, a0, a1, h0, gs_id (i := 3) rfl]
    rfl
theorem keep_old {G : Gh} {i : Int32} (h : kp G i) : (i = 0 ∧ G = gset G 3 1) ∨ (i = 1 ∧ G = gset G 4 1) := by
  rcases h with ⟨rfl, q⟩ | ⟨rfl, q⟩
  · exact Or.inl ⟨rfl, (gs_id q.symm).symm⟩
  · exact Or.inr ⟨rfl, (gs_id q.symm).symm⟩
theorem ne_none {Ty : TyM} {a q : Nat} {k : Kd} (h : Ty a = some k) (n : Ty q = none) : a ≠ q := fun e => by rw [e, n] at h; cases h
theorem ne_lo {a n k : Nat} (h : a < n) : a ≠ n + k := Nat.ne_of_lt (Nat.lt_of_lt_of_le h (Nat.le_add_right n k))
theorem ad_ne {n i j : Nat} (h : i ≠ j) : n + i ≠ n + j := fun e => h (Nat.add_left_cancel e)
theorem ad_0 {n j : Nat} (h : j ≠ 0) : n ≠ n + j := fun e => h (Nat.add_left_cancel (n := n) (by rw [Nat.add_zero]; exact e.symm))
theorem AN_no {h0 n a z : Nat} (h : h0 < n) (ha : n ≤ a) (hz : n ≤ z) : ¬ AN a z h0 := fun q => by
  rcases q with q | q
  · exact absurd (Nat.lt_of_lt_of_le h ha) (by rw [q]; exact Nat.lt_irrefl _)
  · exact absurd (Nat.lt_of_lt_of_le h (Nat.le_trans hz q)) (Nat.lt_irrefl _)
theorem AN_in {h0 n a z q : Nat} (h : AN a z q) (ha : n ≤ a) (hz : n ≤ z) : AN h0 n q := Or.inr (by
  rcases h with h | h
  · rw [h]; exact ha
  · exact Nat.le_trans hz h)
