/-! THE CLAIM OUT OF ONE WALK OF THE LAW'S BODY. Your part is whole_start (and what it stands on); all else here is the same for every law, but numbers. -/
def R_law : String := "MountPeersLaw"
def lw_P (b : Addr) (xs : List Int32) (args : Array Value) (s : State) : Prop := args = #[.ref b] ∧ s.IntsAt b xs ∧ xs.length ≤ 5 ∧ (Jvm.Cond.and given_1 narrow_1).before args s = true
def lw_Q (_ : Array Value) (s : State) (o : Outcome) (t : State) : Prop := o = .returned (some (.int 1)) ∧ Framed s o t [] 600002 7302232
def lw_Z (below : List Frame) (a : Array Value) (s : State) : State → Prop := fun t => ∃ o, t.status = .running ∧ Ended t below o ∧ lw_Q a s o t
/-- the law's own end, with 1 on the stack, nothing written that was there before, its room as the claim has it -/
theorem lw_ret {p : Program} {l : Launch} {e : Env} {s : State} {m : MethodId} {below : List Frame} {meth : Method} {c : Code} {b : Nat} (hx : p.tables.exec = Jvm.exec) (hb : c.code = code) (hr : meth.sig.returnType = ret) (hlocks : meth.locks = false) {pc : Nat} {H : Heap} {ls : Array Slot} (hdg : decode code pc = .ok (.ireturn, 1)) : W p l e room_1 s m #[Value.ref b] below meth c H [] 600002 7302232 (lw_Z below #[Value.ref b] s) (F0 m pc ls [.int 1]) := by
  intro T hT X
  obtain ⟨fs, hret, hrun, hended, hW, hframe⟩ := X.leave (v := some (.int 1)) (hlocks := hlocks) (fun h => by rw [hr] at h; cases h)
  have hmeth' : T.vm.method? m = some meth := X.method'
  refine ⟨T.setFrames fs, ?_, .returned (some (.int 1)), hrun, hended, rfl, ⟨_, rfl⟩, hW, hframe⟩
  jvm_step X.here [X.here.top, hx, hb, hdg, hmeth', hr, ret, narrow_b1]
  (try refine ⟨rfl, ?_⟩); (try refine ⟨rfl, ?_⟩)
  first | (intro acts; rw [hret _ acts rfl rfl rfl]) | rw [hret _ _ rfl rfl rfl]
  exact Steps.refl _
/-- what holds at the law's entry: the machine, the code, the tables' words (any of lw_tbl by 'hts w (by decide +kernel)'), the script of L ints xs at the cell b, what the Statement gives of the start (any of its parts by flat_of_before) -/
def lw_At (p : Program) (s : State) (m : MethodId) (meth : Method) (c : Code) (b L : Nat) (xs : Nat → Int32) : Prop :=
  p.tables.exec = Jvm.exec ∧ c.code = code ∧ meth.sig.returnType = ret ∧ c.maxLocals = 8 ∧ s.vm.findClass R_law = some m.cls ∧ (∀ w ∈ lw_tbl, w.before #[Value.ref b] s = true) ∧ va_X b L xs s s.heap ∧ b < s.heap.size ∧ meth.locks = false ∧ (Jvm.Cond.and given_1 narrow_1).before #[Value.ref b] s = true
/-! ===== the law: what holds between its calls ===== -/
/-- class and reference remember the same -/
def EQ5 (g : Gx) (G : Gh) : Prop := G.1 0 = G.1 102 ∧ G.1 1 = G.1 133 ∧ G.1 2 = G.1 137 ∧ (G.1 3 = 1 ↔ ¬ G.2.1 (g.2.2 141) 0 = 0) ∧ (G.1 4 = 1 ↔ ¬ G.2.1 (g.2.2 141) 1 = 0)
/-- what the class's side may change -/
def CE (g : Gx) (G G1 : Gh) : Prop := (∀ i, 100 ≤ i → G1.1 i = G.1 i) ∧ (∀ b, b ≠ g.2.2 51 → G1.2.1 b = G.2.1 b) ∧ G1.2.2 = G.2.2
def L51 (g : Gx) : Prop := g.2.2 100 ≠ g.2.2 51 ∧ g.2.2 121 ≠ g.2.2 51 ∧ g.2.2 140 ≠ g.2.2 51 ∧ g.2.2 141 ≠ g.2.2 51
section LWs
variable {g : Gx} {G G1 G2 : Gh} {B B2 : Int} {N A R : List Nat}
theorem CE.rf : CE g G G := ⟨fun _ _ => rfl, fun _ _ => rfl, rfl⟩
theorem CE.gs {i : Nat} {v : Int32} (e : G1 = gset G i v) (hi : i < 100) : CE g G G1 := by
  subst e
  exact ⟨fun j hj => gs_ne (by omega), fun _ _ => rfl, rfl⟩
theorem CE.tx (h : TXR g G G1) : CE g G G1 := ⟨fun i hi => h.2.1 i (by omega) (by omega) (by omega), h.2.2.1, h.2.2.2⟩
theorem CE.of (e : G1 = G) : CE g G G1 := by rw [e]; exact CE.rf
theorem CE.sign {r : Int32} (h : SignR G G1 r) : CE g G G1 := h.elim (fun q => CE.of q.2.2) (fun q => CE.gs q.2.2 (by decide))
theorem CE.cut {r a : Int32} (h : CutR G G1 r a) : CE g G G1 := h.elim (fun q => CE.of q.2.2) (fun q => CE.gs q.2.2.2 (by decide))
theorem CE.heard {r a b : Int32} (h : HeardR G G1 r a b) : CE g G G1 := h.elim (fun q => CE.of q.2.2) (fun q => CE.gs q.2.2 (by decide))
theorem CE.keep {r a : Int32} (h : KeepR G G1 r a) : CE g G G1 := h.elim (fun q => CE.of q.2.2) (fun q => q.2.elim (fun z => CE.gs z.2 (by decide)) (fun z => CE.gs z.2 (by decide)))
theorem OI.ce (h : OI g B G) (hc : CE g G G1) (h5 : L51 g) : OI g B G1 := by
  obtain ⟨a, b, c, d, e, f, r, t, u, v, w⟩ := h
  obtain ⟨hn, hr, hq⟩ := hc
  have r1 := hr _ h5.1
  have r2 := hr _ h5.2.1
  have r3 := hr _ h5.2.2.1
  have r4 := hr _ h5.2.2.2
  exact ⟨by rw [hn 102 (by decide)]; exact a, by rw [hn 104 (by decide)]; exact b, by rw [hn 113 (by decide)]; exact c, by rw [hn 122 (by decide)]; exact d, by rw [hn 133 (by decide)]; exact e, by rw [hn 137 (by decide)]; exact f, by rw [hq]; exact r, by rw [hq]; exact t, by rw [r1]; exact u, by rw [hn 122 (by decide), r2]; exact v, by rw [r3, r4]; exact w⟩
theorem OI.up (h : OI g B G) (hb : B ≤ B2) : OI g B2 G := ⟨h.a102, h.a104, h.a113, h.a122, h.a133, h.a137, h.r111, h.r112, h.ti.hi hb, h.un2 hb rfl rfl, h.ke2 hb rfl rfl⟩
theorem OI.fg (h : OI g B G) (e : G1 = gset (gset G 105 0) 133 0) : OI g B G1 := by
  subst e
  refine ⟨?_, ?_, ?_, ?_, ?_, ?_, h.r111, h.r112, h.ti, ?_, h.ke⟩
  · rw [gs_ne (by decide), gs_ne (by decide)]; exact h.a102
  · rw [gs_ne (by decide), gs_ne (by decide)]; exact h.a104
  · rw [gs_ne (by decide), gs_ne (by decide)]; exact h.a113
  · rw [gs_ne (by decide), gs_ne (by decide)]; exact h.a122
  · rw [gs_eq]; exact ⟨by decide, by decide⟩
  · rw [gs_ne (by decide), gs_ne (by decide)]; exact h.a137
  · rw [gs_ne (by decide), gs_ne (by decide)]; exact h.un
theorem OI.dn (h : OI g B G) (e : G1 = gset (gset G 105 0) 137 0) : OI g B G1 := by
  subst e
  refine ⟨?_, ?_, ?_, ?_, ?_, ?_, h.r111, h.r112, h.ti, ?_, h.ke⟩
  · rw [gs_ne (by decide), gs_ne (by decide)]; exact h.a102
  · rw [gs_ne (by decide), gs_ne (by decide)]; exact h.a104
  · rw [gs_ne (by decide), gs_ne (by decide)]; exact h.a113
  · rw [gs_ne (by decide), gs_ne (by decide)]; exact h.a122
  · rw [gs_ne (by decide), gs_ne (by decide)]; exact h.a133
  · rw [gs_eq]; exact ⟨by decide, by decide⟩
  · rw [gs_ne (by decide), gs_ne (by decide)]; exact h.un
theorem EQ5.r (h : EQ5 g G) (f : FR N A R G G1) (hN : ∀ i ∈ ([0, 1, 2, 3, 4, 102, 133, 137] : List Nat), i ∉ N) (hA : NA (g.2.2 141) A) : EQ5 g G1 := by
  have q : ∀ i ∈ ([0, 1, 2, 3, 4, 102, 133, 137] : List Nat), G1.1 i = G.1 i := fun i hi => f.1 i (hN i hi)
  have r := f.2.1 _ hA
  exact ⟨by rw [q 0 (by decide), q 102 (by decide)]; exact h.1, by rw [q 1 (by decide), q 133 (by decide)]; exact h.2.1, by rw [q 2 (by decide), q 137 (by decide)]; exact h.2.2.1, by rw [q 3 (by decide), r]; exact h.2.2.2.1, by rw [q 4 (by decide), r]; exact h.2.2.2.2⟩
theorem EQ5.of (h : EQ5 g G) (f : FR N A R G1 G2) (hA : NA (g.2.2 141) A) (b : G1.2.1 (g.2.2 141) = G.2.1 (g.2.2 141)) (p0 : G2.1 0 = G2.1 102) (p1 : G2.1 1 = G2.1 133) (p2 : G2.1 2 = G2.1 137) (q3 : G2.1 3 = G.1 3) (q4 : G2.1 4 = G.1 4) : EQ5 g G2 := ⟨p0, p1, p2, by rw [q3, f.2.1 _ hA, b]; exact h.2.2.2.1, by rw [q4, f.2.1 _ hA, b]; exact h.2.2.2.2⟩
theorem pr_eq {i j : Nat} (f : FR N A R G1 G2) (hi : i ∉ N) (hj : j ∉ N) (ai : G1.1 i = G.1 i) (aj : G1.1 j = G.1 j) (e : G.1 i = G.1 j) : G2.1 i = G2.1 j := by rw [f.1 i hi, f.1 j hj, ai, aj]; exact e
theorem EQ5.tx (h : EQ5 g G) (t : TXR g G G1) (f : FR N A R G1 G2) (z : rgI 0 0 (G2.1 102)) (hN : ∀ i ∈ ([0, 1, 2, 3, 4, 133, 137] : List Nat), i ∉ N) (hA : NA (g.2.2 141) A) (h5 : L51 g) : EQ5 g G2 := by
  obtain ⟨t0, tn, tr, _⟩ := t
  have key : ∀ i ∈ ([1, 2, 3, 4, 133, 137] : List Nat), i ≠ 0 ∧ i ≠ 5 ∧ i ≠ 6 := by decide
  have a : ∀ i ∈ ([1, 2, 3, 4, 133, 137] : List Nat), G1.1 i = G.1 i := fun i hi => tn i (key i hi).1 (key i hi).2.1 (key i hi).2.2
  have q0 : G2.1 0 = 0 := (f.1 0 (hN 0 (by decide))).trans t0
  have q2 : G2.1 102 = 0 := (b01 (rg_w z (by decide) (by decide))).elim id (fun e => absurd z.2 (by rw [e]; decide))
  exact h.of f hA (tr _ h5.2.2.2) (q0.trans q2.symm) (pr_eq f (hN 1 (by decide)) (hN 133 (by decide)) (a 1 (by decide)) (a 133 (by decide)) h.2.1) (pr_eq f (hN 2 (by decide)) (hN 137 (by decide)) (a 2 (by decide)) (a 137 (by decide)) h.2.2.1) ((f.1 3 (hN 3 (by decide))).trans (a 3 (by decide))) ((f.1 4 (hN 4 (by decide))).trans (a 4 (by decide)))
theorem i_no {a b : Int32} (h1 : a < b) (h2 : b ≤ a) : False := by
  have := fz_lt.mp h1; have := fz_le.mp h2
  omega
theorem EQ5.sign {r r2 : Int32} (hD : LD g) (h : EQ5 g G) (t : SignR G G1 r) (f : FR [105, 102] [(g.2.2 101)] [] G1 G2) (z : SignN (G1.1 102) (G2.1 102) r2) : r = r2 ∧ EQ5 g G2 := by
  have hA : NA (g.2.2 141) [(g.2.2 101)] := ⟨hD 141 (by decide) 101 (by decide) (by decide), trivial⟩
  have fin : (∀ i, i ≠ 0 → G1.1 i = G.1 i) → G1.2.1 (g.2.2 141) = G.2.1 (g.2.2 141) → G1.1 0 = G2.1 102 → EQ5 g G2 := fun a b e => h.of f hA b ((f.1 0 (by decide)).trans e) (pr_eq f (by decide) (by decide) (a 1 (by decide)) (a 133 (by decide)) h.2.1) (pr_eq f (by decide) (by decide) (a 2 (by decide)) (a 137 (by decide)) h.2.2.1) ((f.1 3 (by decide)).trans (a 3 (by decide))) ((f.1 4 (by decide)).trans (a 4 (by decide)))
  rcases t with ⟨t1, t2, t3⟩ | ⟨t1, t2, t3⟩
  · have n : G1.1 102 = G.1 0 := by rw [t3]; exact h.1.symm
    rw [n] at z
    rcases z with ⟨z1, z2, z3⟩ | ⟨z1, z2, z3⟩
    · exact ⟨t1.trans z1.symm, fin (fun i _ => by rw [t3]) (by rw [t3]) (by rw [z3, t3])⟩
    · exact (i_no t2 z2).elim
  · have n : G1.1 102 = G.1 0 := by rw [t3]; exact (gs_ne (by decide)).trans h.1.symm
    rw [n] at z
    rcases z with ⟨z1, z2, z3⟩ | ⟨z1, z2, z3⟩
    · exact (i_no z2 t2).elim
    · exact ⟨t1.trans z1.symm, fin (fun i hi => by rw [t3]; exact gs_ne hi) (by rw [t3]; rfl) (by rw [z3, t3]; exact gs_eq)⟩
theorem EQ5.cut {r r2 x : Int32} (h : EQ5 g G) (t : CutR G G1 r x) (f : FR [105, 102] [] [] G1 G2) (z : CutN (G1.1 102) (G2.1 102) r2 x) : r = r2 ∧ EQ5 g G2 := by
  have hA : NA (g.2.2 141) [] := trivial
  have fin : (∀ i, i ≠ 0 → G1.1 i = G.1 i) → G1.2.1 (g.2.2 141) = G.2.1 (g.2.2 141) → G1.1 0 = G2.1 102 → EQ5 g G2 := fun a b e => h.of f hA b ((f.1 0 (by decide)).trans e) (pr_eq f (by decide) (by decide) (a 1 (by decide)) (a 133 (by decide)) h.2.1) (pr_eq f (by decide) (by decide) (a 2 (by decide)) (a 137 (by decide)) h.2.2.1) ((f.1 3 (by decide)).trans (a 3 (by decide))) ((f.1 4 (by decide)).trans (a 4 (by decide)))
  rcases t with ⟨t1, t2, t3⟩ | ⟨t1, t2, t4, t3⟩
  · have n : G1.1 102 = G.1 0 := by rw [t3]; exact h.1.symm
    rw [n] at z
    rcases z with ⟨z1, z2, z3⟩ | ⟨z1, z2, z4, z3⟩
    · exact ⟨t1.trans z1.symm, fin (fun i _ => by rw [t3]) (by rw [t3]) (by rw [z3, t3])⟩
    · exact (t2.elim (fun q => z2 q) (fun q => i_no q z4)).elim
  · have n : G1.1 102 = G.1 0 := by rw [t3]; exact (gs_ne (by decide)).trans h.1.symm
    rw [n] at z
    rcases z with ⟨z1, z2, z3⟩ | ⟨z1, z2, z4, z3⟩
    · exact (z2.elim (fun q => t2 q) (fun q => i_no q t4)).elim
    · exact ⟨t1.trans z1.symm, fin (fun i hi => by rw [t3]; exact gs_ne hi) (by rw [t3]; rfl) (by rw [z3, t3]; exact gs_eq)⟩
theorem EQ5.heard {r r2 x y : Int32} (h : EQ5 g G) (t : HeardR G G1 r x y) (f : FR [105, 133] [] [] G1 G2) (z : HeardN (G1.1 133) (G2.1 133) r2 x y) : r = r2 ∧ EQ5 g G2 := by
  have hA : NA (g.2.2 141) [] := trivial
  have fin : (∀ i, i ≠ 1 → G1.1 i = G.1 i) → G1.2.1 (g.2.2 141) = G.2.1 (g.2.2 141) → G1.1 1 = G2.1 133 → EQ5 g G2 := fun a b e => h.of f hA b (pr_eq f (by decide) (by decide) (a 0 (by decide)) (a 102 (by decide)) h.1) ((f.1 1 (by decide)).trans e) (pr_eq f (by decide) (by decide) (a 2 (by decide)) (a 137 (by decide)) h.2.2.1) ((f.1 3 (by decide)).trans (a 3 (by decide))) ((f.1 4 (by decide)).trans (a 4 (by decide)))
  rcases t with ⟨t1, t2, t3⟩ | ⟨t1, t2, t3⟩
  · have n : G1.1 133 = G.1 1 := by rw [t3]; exact h.2.1.symm
    rw [n] at z
    rcases z with ⟨z1, z2, z3⟩ | ⟨z1, z2, z3⟩
    · exact ⟨t1.trans z1.symm, fin (fun i _ => by rw [t3]) (by rw [t3]) (by rw [z3, t3])⟩
    · exact absurd z2 t2
  · have n : G1.1 133 = G.1 1 := by rw [t3]; exact (gs_ne (by decide)).trans h.2.1.symm
    rw [n] at z
    rcases z with ⟨z1, z2, z3⟩ | ⟨z1, z2, z3⟩
    · exact absurd t2 z2
    · exact ⟨t1.trans z1.symm, fin (fun i hi => by rw [t3]; exact gs_ne hi) (by rw [t3]; rfl) (by rw [z3, t3]; exact gs_eq)⟩
theorem see_row {a b c : Int32} {r : Nat} (h1 : r ≠ g.2.2 52) (h2 : r ≠ g.2.2 53) (h3 : r ≠ g.2.2 54) : (seeG g G a b c).2.1 r = G.2.1 r := by
  show (see3 g (see2 g (see1 g G a) b) c).2.1 r = _
  unfold see3
  rw [aset_ne h3]
  unfold see2
  rw [aset_ne h2]
  unfold see1
  rw [aset_ne h1]
/-- the rows of what was seen lie apart from all others -/
def LE (g : Gx) : Prop := (∀ i, i ∈ ([52, 53, 54] : List Nat) → ∀ j, j ∈ ([100, 101, 103, 115, 116, 121, 123, 124, 125, 126, 129, 130, 131, 132, 134, 135, 136, 138, 140, 141, 111, 112, 51] : List Nat) → g.2.2 i ≠ g.2.2 j) ∧ g.2.2 52 ≠ g.2.2 53 ∧ g.2.2 52 ≠ g.2.2 54 ∧ g.2.2 53 ≠ g.2.2 54 ∧ (g.2.2 134 ≠ g.2.2 51 ∧ g.2.2 135 ≠ g.2.2 51 ∧ g.2.2 136 ≠ g.2.2 51)
theorem LE.row {a b c : Int32} (h : LE g) {j : Nat} (hj : j ∈ ([100, 101, 103, 115, 116, 121, 123, 124, 125, 126, 129, 130, 131, 132, 134, 135, 136, 138, 140, 141, 111, 112, 51] : List Nat)) : (seeG g G a b c).2.1 (g.2.2 j) = G.2.1 (g.2.2 j) := see_row (h.1 52 (by decide) j hj).symm (h.1 53 (by decide) j hj).symm (h.1 54 (by decide) j hj).symm
theorem OI.see {a b c : Int32} (h : OI g B G) (hE : LE g) (e : G1 = seeG g G a b c) : OI g B G1 := by
  have hn : ∀ i, i ≠ 2 → G1.1 i = G.1 i := fun i hi => by rw [e]; exact gs_ne hi
  have hq : G1.2.2 = G.2.2 := by rw [e]; rfl
  have r1 : G1.2.1 (g.2.2 100) = G.2.1 (g.2.2 100) := by rw [e]; exact hE.row (by decide)
  have r2 : G1.2.1 (g.2.2 121) = G.2.1 (g.2.2 121) := by rw [e]; exact hE.row (by decide)
  have r3 : G1.2.1 (g.2.2 140) = G.2.1 (g.2.2 140) := by rw [e]; exact hE.row (by decide)
  have r4 : G1.2.1 (g.2.2 141) = G.2.1 (g.2.2 141) := by rw [e]; exact hE.row (by decide)
  obtain ⟨a, b, c, d, e, f, r, t, u, v, w⟩ := h
  exact ⟨by rw [hn 102 (by decide)]; exact a, by rw [hn 104 (by decide)]; exact b, by rw [hn 113 (by decide)]; exact c, by rw [hn 122 (by decide)]; exact d, by rw [hn 133 (by decide)]; exact e, by rw [hn 137 (by decide)]; exact f, by rw [hq]; exact r, by rw [hq]; exact t, by rw [r1]; exact u, by rw [hn 122 (by decide), r2]; exact v, by rw [r3, r4]; exact w⟩
theorem OI.saw {r a b c : Int32} (h : OI g B G) (hE : LE g) (t : SawR g G G1 r a b c) : OI g B G1 := by
  rcases t with ⟨-, -, e⟩ | ⟨-, -, e⟩
  · rw [e]; exact h
  · exact h.see hE e
theorem EQ5.saw {r r2 x y w : Int32} (hD : LD g) (hE : LE g) (h : EQ5 g G) (t : SawR g G G1 r x y w) (f : FR [105, 137] [(g.2.2 134), (g.2.2 135), (g.2.2 136)] [] G1 G2) (z : SawN (G1.1 137) (G2.1 137) r2 x y w) : r = r2 ∧ EQ5 g G2 := by
  have hA : NA (g.2.2 141) [(g.2.2 134), (g.2.2 135), (g.2.2 136)] := ⟨hD 141 (by decide) 134 (by decide) (by decide), hD 141 (by decide) 135 (by decide) (by decide), hD 141 (by decide) 136 (by decide) (by decide), trivial⟩
  have fin : (∀ i, i ≠ 2 → G1.1 i = G.1 i) → G1.2.1 (g.2.2 141) = G.2.1 (g.2.2 141) → G1.1 2 = G2.1 137 → EQ5 g G2 := fun a b e => h.of f hA b (pr_eq f (by decide) (by decide) (a 0 (by decide)) (a 102 (by decide)) h.1) (pr_eq f (by decide) (by decide) (a 1 (by decide)) (a 133 (by decide)) h.2.1) ((f.1 2 (by decide)).trans e) ((f.1 3 (by decide)).trans (a 3 (by decide))) ((f.1 4 (by decide)).trans (a 4 (by decide)))
  rcases t with ⟨t1, t2, t3⟩ | ⟨t1, t2, t3⟩
  · have n : G1.1 137 = G.1 2 := by rw [t3]; exact h.2.2.1.symm
    rw [n] at z
    rcases z with ⟨z1, z2, z3⟩ | ⟨z1, z2, z3⟩
    · exact ⟨t1.trans z1.symm, fin (fun i _ => by rw [t3]) (by rw [t3]) (by rw [z3, t3])⟩
    · exact absurd z2 t2
  · have n : G1.1 137 = G.1 2 := by
      have q : G1.1 137 = G.1 137 := by rw [t3]; exact gs_ne (by decide)
      exact q.trans h.2.2.1.symm
    rw [n] at z
    rcases z with ⟨z1, z2, z3⟩ | ⟨z1, z2, z3⟩
    · exact absurd t2 z2
    · exact ⟨t1.trans z1.symm, fin (fun i hi => by rw [t3]; exact gs_ne hi) (by rw [t3]; exact hE.row (by decide)) (by rw [z3, t3]; exact gs_eq)⟩
/-- both sides have seen the same -/
def RW3 (g : Gx) (G : Gh) : Prop := G.2.1 (g.2.2 52) = G.2.1 (g.2.2 134) ∧ G.2.1 (g.2.2 53) = G.2.1 (g.2.2 135) ∧ G.2.1 (g.2.2 54) = G.2.1 (g.2.2 136)
theorem RW3.c (h : RW3 g G) (hc : CE g G G1) (hE : LE g) : RW3 g G1 := by
  have q := hc.2.1
  exact ⟨by rw [q _ (hE.1 52 (by decide) 51 (by decide)), q _ hE.2.2.2.2.1]; exact h.1, by rw [q _ (hE.1 53 (by decide) 51 (by decide)), q _ hE.2.2.2.2.2.1]; exact h.2.1, by rw [q _ (hE.1 54 (by decide) 51 (by decide)), q _ hE.2.2.2.2.2.2]; exact h.2.2⟩
theorem RW3.r (h : RW3 g G) (f : FR N A R G G1) (a1 : NA (g.2.2 52) A) (a2 : NA (g.2.2 53) A) (a3 : NA (g.2.2 54) A) (b1 : NA (g.2.2 134) A) (b2 : NA (g.2.2 135) A) (b3 : NA (g.2.2 136) A) : RW3 g G1 := ⟨by rw [f.2.1 _ a1, f.2.1 _ b1]; exact h.1, by rw [f.2.1 _ a2, f.2.1 _ b2]; exact h.2.1, by rw [f.2.1 _ a3, f.2.1 _ b3]; exact h.2.2⟩
theorem RW3.saw {r r2 a b c : Int32} (hE : LE g) (h : RW3 g G) (e2 : G.1 2 = G.1 137) (hm : rgI 0 10 (G.1 137)) (t : SawR g G G1 r a b c) (f : FR [105, 137] [(g.2.2 134), (g.2.2 135), (g.2.2 136)] [] G1 G2) (w : SawW g G1 G2 r2 a b c) (er : r = r2) : RW3 g G2 := by
  have n1 : ∀ i, i ∈ ([52, 53, 54] : List Nat) → NA (g.2.2 i) [(g.2.2 134), (g.2.2 135), (g.2.2 136)] := fun i hi => ⟨hE.1 i hi 134 (by decide), hE.1 i hi 135 (by decide), hE.1 i hi 136 (by decide), trivial⟩
  have f1 := f.2.1 _ (n1 52 (by decide))
  have f2 := f.2.1 _ (n1 53 (by decide))
  have f3 := f.2.1 _ (n1 54 (by decide))
  rcases t with ⟨t1, -, t3⟩ | ⟨t1, -, t3⟩
  · rcases w with ⟨-, w1, w2, w3⟩ | ⟨wn, -⟩
    · exact ⟨by rw [f1, w1, t3]; exact h.1, by rw [f2, w2, t3]; exact h.2.1, by rw [f3, w3, t3]; exact h.2.2⟩
    · exact absurd (er.symm.trans t1) wn
  · have hr : ¬ r = -1 := fun q => by
      have z := rg_addE (x := G.1 2) (y := 1) (a := 0) (b := 10) (c := 1) (by rw [e2]; exact hm) ⟨by decide, by decide⟩ (by decide) (by decide)
      rw [← t1, q] at z
      have z1 : (-1 : Int32).toInt = -1 := by decide
      have := hm.1
      rw [e2] at z
      omega
    rcases w with ⟨w0, -⟩ | ⟨-, w1, w2, w3⟩
    · exact absurd (er.trans w0) hr
    · have q : G1.1 137 = G.1 2 := by
        have q : G1.1 137 = G.1 137 := by rw [t3]; exact gs_ne (by decide)
        exact q.trans e2.symm
      have s1 : G1.2.1 (g.2.2 52) = upd (G.2.1 (g.2.2 52)) (G.1 2).toNatClampNeg a := by
        rw [t3]
        show (see3 g (see2 g (see1 g G a) b) c).2.1 (g.2.2 52) = _
        unfold see3
        rw [aset_ne hE.2.2.1]
        unfold see2
        rw [aset_ne hE.2.1]
        unfold see1
        exact aset_eq
      have s2 : G1.2.1 (g.2.2 53) = upd (G.2.1 (g.2.2 53)) (G.1 2).toNatClampNeg b := by
        rw [t3]
        show (see3 g (see2 g (see1 g G a) b) c).2.1 (g.2.2 53) = _
        unfold see3
        rw [aset_ne hE.2.2.2.1]
        unfold see2
        rw [aset_eq]
        unfold see1
        rw [aset_ne hE.2.1.symm]
        rfl
      have s3 : G1.2.1 (g.2.2 54) = upd (G.2.1 (g.2.2 54)) (G.1 2).toNatClampNeg c := by
        rw [t3]
        show (see3 g (see2 g (see1 g G a) b) c).2.1 (g.2.2 54) = _
        unfold see3
        rw [aset_eq]
        unfold see2
        rw [aset_ne hE.2.2.2.1.symm]
        unfold see1
        rw [aset_ne hE.2.2.1.symm]
        rfl
      have o1 : G1.2.1 (g.2.2 134) = G.2.1 (g.2.2 134) := by rw [t3]; exact hE.row (by decide)
      have o2 : G1.2.1 (g.2.2 135) = G.2.1 (g.2.2 135) := by rw [t3]; exact hE.row (by decide)
      have o3 : G1.2.1 (g.2.2 136) = G.2.1 (g.2.2 136) := by rw [t3]; exact hE.row (by decide)
      exact ⟨by rw [f1, w1, s1, o1, q, h.1], by rw [f2, w2, s2, o2, q, h.2.1], by rw [f3, w3, s3, o3, q, h.2.2]⟩
theorem EQ5.fg {r r2 : Int32} (h : EQ5 g G) (t : r = G.1 1 ∧ G1 = gset G 1 0) (z : r2 = G1.1 133 ∧ G2 = gset (gset G1 105 0) 133 0) : r = r2 ∧ EQ5 g G2 := by
  obtain ⟨t1, t3⟩ := t
  obtain ⟨z1, z3⟩ := z
  have f : FR [105, 133] [] [] G1 G2 := FR.n (FR.n FR.rf rfl (by decide)) z3 (by decide)
  have a : ∀ i, i ≠ 1 → G1.1 i = G.1 i := fun i hi => by rw [t3]; exact gs_ne hi
  have e1 : G1.1 1 = 0 := by rw [t3]; exact gs_eq
  have e2 : G2.1 133 = 0 := by rw [z3]; exact gs_eq
  refine ⟨by rw [t1, z1, a 133 (by decide)]; exact h.2.1, h.of f trivial (by rw [t3]; rfl) (pr_eq f (by decide) (by decide) (a 0 (by decide)) (a 102 (by decide)) h.1) ((f.1 1 (by decide)).trans (e1.trans e2.symm)) (pr_eq f (by decide) (by decide) (a 2 (by decide)) (a 137 (by decide)) h.2.2.1) ((f.1 3 (by decide)).trans (a 3 (by decide))) ((f.1 4 (by decide)).trans (a 4 (by decide)))⟩
theorem EQ5.dn {r r2 : Int32} (h : EQ5 g G) (t : r = G.1 2 ∧ G1 = gset G 2 0) (z : r2 = G1.1 137 ∧ G2 = gset (gset G1 105 0) 137 0) : r = r2 ∧ EQ5 g G2 := by
  obtain ⟨t1, t3⟩ := t
  obtain ⟨z1, z3⟩ := z
  have f : FR [105, 137] [] [] G1 G2 := FR.n (FR.n FR.rf rfl (by decide)) z3 (by decide)
  have a : ∀ i, i ≠ 2 → G1.1 i = G.1 i := fun i hi => by rw [t3]; exact gs_ne hi
  have e1 : G1.1 2 = 0 := by rw [t3]; exact gs_eq
  have e2 : G2.1 137 = 0 := by rw [z3]; exact gs_eq
  refine ⟨by rw [t1, z1, a 137 (by decide)]; exact h.2.2.1, h.of f trivial (by rw [t3]; rfl) (pr_eq f (by decide) (by decide) (a 0 (by decide)) (a 102 (by decide)) h.1) (pr_eq f (by decide) (by decide) (a 1 (by decide)) (a 133 (by decide)) h.2.1) ((f.1 2 (by decide)).trans (e1.trans e2.symm)) ((f.1 3 (by decide)).trans (a 3 (by decide))) ((f.1 4 (by decide)).trans (a 4 (by decide)))⟩
theorem EQ5.keep {r r2 x : Int32} (h : EQ5 g G) (t : KeepR G G1 r x) (f : FR [105] [(g.2.2 141), (g.2.2 140)] [] G1 G2) (z : KeepN (G1.2.1 (g.2.2 141)) (G2.2.1 (g.2.2 141)) r2 x) : r = r2 ∧ EQ5 g G2 := by
  have nn : ∀ i ∈ ([0, 1, 2, 3, 4, 102, 133, 137] : List Nat), G2.1 i = G1.1 i := fun i hi => f.1 i (by revert i; decide)
  have fin : ∀ k' : Nat → Int32, G2.2.1 (g.2.2 141) = k' → (∀ i, i ≠ 3 → i ≠ 4 → G1.1 i = G.1 i) → (G1.1 3 = 1 ↔ ¬ k' 0 = 0) → (G1.1 4 = 1 ↔ ¬ k' 1 = 0) → EQ5 g G2 := fun k' e a b3 b4 => by
    refine ⟨?_, ?_, ?_, ?_, ?_⟩
    · rw [nn 0 (by decide), nn 102 (by decide), a 0 (by decide) (by decide), a 102 (by decide) (by decide)]; exact h.1
    · rw [nn 1 (by decide), nn 133 (by decide), a 1 (by decide) (by decide), a 133 (by decide) (by decide)]; exact h.2.1
    · rw [nn 2 (by decide), nn 137 (by decide), a 2 (by decide) (by decide), a 137 (by decide) (by decide)]; exact h.2.2.1
    · rw [nn 3 (by decide), e]; exact b3
    · rw [nn 4 (by decide), e]; exact b4
  have two : ¬ (1 : Int32) = 0 := by decide
  rcases t with ⟨t1, t2, t3⟩ | ⟨t1, t2⟩
  · rcases z with ⟨z1, z2, z3⟩ | ⟨z1, z2, z3⟩
    · refine ⟨t1.trans z1.symm, fin _ z3 (fun i _ _ => by rw [t3]) ?_ ?_⟩
      · rw [t3]; exact h.2.2.2.1
      · rw [t3]; exact h.2.2.2.2
    · exfalso
      rcases b01 z2 with q | q
      · rcases t2 with w | w
        · rw [q] at w; exact absurd w (by decide)
        · rw [q] at w; exact absurd w (by decide)
      · rcases t2 with w | w
        · rw [q] at w; exact absurd w (by decide)
        · rw [q] at w; exact absurd w (by decide)
  · rcases z with ⟨z1, z2, z3⟩ | ⟨z1, z2, z3⟩
    · exfalso
      rcases t2 with ⟨q, -⟩ | ⟨q, -⟩
      · rcases z2 with w | w
        · rw [q] at w; exact absurd w (by decide)
        · rw [q] at w; exact absurd w (by decide)
      · rcases z2 with w | w
        · rw [q] at w; exact absurd w (by decide)
        · rw [q] at w; exact absurd w (by decide)
    · refine ⟨t1.trans z1.symm, ?_⟩
      rcases t2 with ⟨q, t3⟩ | ⟨q, t3⟩
      · refine fin _ z3 (fun i h3 _ => by rw [t3]; exact gs_ne h3) ?_ ?_
        · rw [q, t3]
          show ((gset G 3 1).1 3 = 1 ↔ ¬ upd (G.2.1 (g.2.2 141)) 0 1 0 = 0)
          rw [gs_eq, upd_eq]
          exact ⟨fun _ => two, fun _ => rfl⟩
        · rw [q, t3]
          show ((gset G 3 1).1 4 = 1 ↔ ¬ upd (G.2.1 (g.2.2 141)) 0 1 1 = 0)
          rw [gs_ne (by decide), upd_ne (by decide)]
          exact h.2.2.2.2
      · refine fin _ z3 (fun i _ h4 => by rw [t3]; exact gs_ne h4) ?_ ?_
        · rw [q, t3]
          show ((gset G 4 1).1 3 = 1 ↔ ¬ upd (G.2.1 (g.2.2 141)) 1 1 0 = 0)
          rw [gs_ne (by decide), upd_ne (by decide)]
          exact h.2.2.2.1
        · rw [q, t3]
          show ((gset G 4 1).1 4 = 1 ↔ ¬ upd (G.2.1 (g.2.2 141)) 1 1 1 = 0)
          rw [gs_eq, upd_eq]
          exact ⟨fun _ => two, fun _ => rfl⟩
theorem EQ5.again {r r2 x : Int32} (hD : LD g) (h : EQ5 g G) (t : (r = 1 ∧ kp G x) ∨ (r = 0 ∧ ¬ kp G x)) (f : FR [105, 122] [(g.2.2 100)] [] G G2) (z : AgainN (G.2.1 (g.2.2 141)) r2 x) : r = r2 ∧ EQ5 g G2 := by
  have hA : NA (g.2.2 141) [(g.2.2 100)] := ⟨hD 141 (by decide) 100 (by decide) (by decide), trivial⟩
  refine ⟨?_, h.r f (by decide) hA⟩
  have key : kp G x ↔ (rgI 0 1 x ∧ ¬ G.2.1 (g.2.2 141) x.toNatClampNeg = 0) := by
    constructor
    · rintro (⟨q, w⟩ | ⟨q, w⟩)
      · rw [q]; exact ⟨⟨by decide, by decide⟩, h.2.2.2.1.mp w⟩
      · rw [q]; exact ⟨⟨by decide, by decide⟩, h.2.2.2.2.mp w⟩
    · rintro ⟨q, w⟩
      rcases b01 q with e | e
      · rw [e] at w; exact Or.inl ⟨e, h.2.2.2.1.mpr w⟩
      · rw [e] at w; exact Or.inr ⟨e, h.2.2.2.2.mpr w⟩
  rcases t with ⟨t1, t2⟩ | ⟨t1, t2⟩
  · rcases z with ⟨z1, z2⟩ | ⟨z1, z2⟩
    · rw [t1, z1]
    · exact absurd (key.mp t2) z2
  · rcases z with ⟨z1, z2⟩ | ⟨z1, z2⟩
    · exact absurd (key.mpr z2) t2
    · rw [t1, z1]
theorem OI.frc (h : OI g B G) (f : FR N A R G G1) (hN : ∀ i ∈ ([102, 104, 113, 122, 133, 137] : List Nat), i ∉ N) (hR : R = []) (a1 : NA (g.2.2 100) A) (a2 : NA (g.2.2 121) A) (a3 : NA (g.2.2 140) A) (a4 : NA (g.2.2 141) A) : OI g B G1 := by
  subst hR
  obtain ⟨a, b, c, d, e, f', r, t, u, v, w⟩ := h
  have hn : ∀ i ∈ ([102, 104, 113, 122, 133, 137] : List Nat), G1.1 i = G.1 i := fun i hi => f.1 i (hN i hi)
  have r1 := f.2.1 _ a1
  have r2 := f.2.1 _ a2
  have r3 := f.2.1 _ a3
  have r4 := f.2.1 _ a4
  have hq : ∀ i, G1.2.2 i = G.2.2 i := fun i => f.2.2 i (fun z => nomatch z)
  exact ⟨by rw [hn 102 (by decide)]; exact a, by rw [hn 104 (by decide)]; exact b, by rw [hn 113 (by decide)]; exact c, by rw [hn 122 (by decide)]; exact d, by rw [hn 133 (by decide)]; exact e, by rw [hn 137 (by decide)]; exact f', by rw [hq]; exact r, by rw [hq]; exact t, by rw [r1]; exact u, by rw [hn 122 (by decide), r2]; exact v, by rw [r3, r4]; exact w⟩
end LWs
/-- what stands fast while the law runs -/
def LA (g : Gx) (s : State) : Prop := KK g s ∧ OC g (fun q => s.heap.size ≤ q) s s.heap ∧ XO (fun q => s.heap.size ≤ q) s s.heap ∧ LD g ∧ L51 g ∧ LE g ∧ LD1 g
/-- both objects are new -/
def FS (g : Gx) (G : Gh) : Prop := (G.2.1 (g.2.2 70) = P0 ∧ G.2.1 (g.2.2 71) = Z0 ∧ G.2.1 (g.2.2 72) = Z0 ∧ G.2.1 (g.2.2 73) = Z0 ∧ G.2.1 (g.2.2 74) = Z0) ∧ (∀ i ∈ ([0, 1, 2, 3, 4, 21, 22, 24, 25, 26, 27, 28, 102, 104, 105, 113, 122, 127, 133, 137, 139] : List Nat), G.1 i = 0) ∧ G.1 20 = 1 ∧ G.1 23 = 1 ∧ G.2.1 (g.2.2 100) = nowF ∧ ∀ i ∈ ([111, 124, 125, 126] : List Nat), G.2.1 (g.2.2 i) = Z0
/-- the world before the call: N the class's object, N + 40 the reference's, N + 63 the row of one long, beside the typed heap -/
def LW (g : Gx) (N : Nat) (Ty : TyM) (G : Gh) (H : Heap) : Prop := HT g Ty G H ∧ OI g 1 G ∧ (EQ5 g G ∧ RW3 g G) ∧ FS g G ∧ Ty N = some (21, 0) ∧ Ty (N + 40) = some (22, 0) ∧ Ty (N + 63) = none ∧ (∃ f, va_at g.1 vwCl (N + 63, .inl (g.2.1 2, 1, .inr (.inl f))) H) ∧ ∀ a k, Ty a = some k → N ≤ a
theorem af_in {Ty : TyM} {N z : Nat} (hN : ∀ a k, Ty a = some k → N ≤ a) (hz : N ≤ z) : ∀ q, AF Ty z q → N ≤ q := fun q h => h.elim (fun ⟨k, w⟩ => hN q k w) (fun w => Nat.le_trans hz w)
theorem ext_in {Ty Ty1 : TyM} {N z : Nat} (hE : Ext z Ty Ty1) (hN : ∀ a k, Ty a = some k → N ≤ a) (hz : N ≤ z) : ∀ a k, Ty1 a = some k → N ≤ a := fun a k h => (hE.2 a k h).elim (hN a k) (fun w => Nat.le_trans hz w)
theorem vaS_af {Ty : TyM} {H0 H : Heap} {locs : List Loc} (h : va_S (fun q => H0.size ≤ q) H0 H locs) : va_S (AF Ty H0.size) H0 H locs := ⟨h.1, fun q h1 h2 => h.2.1 q h1 (fun z => h2 (Or.inr z)), fun q hq => Or.inr (h.2.2 q hq)⟩
abbrev lvL (s : State) (b i : Nat) : List (Nat × Value) := [(4, .int (nI i)), (3, .ref (s.heap.size + 63)), (2, .ref (s.heap.size + 40)), (1, .ref s.heap.size), (0, .ref b)]
section LCs
variable {p : Program} {l : Launch} {e : Env} {s : State} {m : MethodId} {below : List Frame} {meth : Method} {c : Code} {b L : Nat} {xs : Nat → Int32} {g : Gx} {H : Heap} {locs : List Loc} {cells slots : Nat} {Q : State → Prop} {ls : Array Slot} {rest : List Value} {i : Nat}
/-- what a call of the law finds -/
def LcX (p : Program) (l : Launch) (s : State) (m : MethodId) (meth : Method) (c : Code) (b L : Nat) (xs : Nat → Int32) (g : Gx) (i : Nat) (cells slots : Nat) : Prop := l.stackTraces = false ∧ L ≤ 5 ∧ lw_At p s m meth c b L xs ∧ LA g s ∧ i + 5 ≤ L ∧ cells + 160 ≤ 600002 ∧ slots + 3160 ≤ 7302232
/-- what stands behind it -/
def LcT (p : Program) (l : Launch) (e : Env) (s : State) (m : MethodId) (below : List Frame) (meth : Method) (c : Code) (b : Nat) (i : Nat) (cells slots : Nat) (pc : Nat) (Q : State → Prop) : Prop := ∀ (H : Heap) (locs : List Loc) (ls : Array Slot), va_S (fun q => s.heap.size ≤ q) s.heap H locs → lv_has ls 8 (lvL s b i) → W p l e room_1 s m #[Value.ref b] below meth c H locs (cells + 160) (slots + 3160) Q (F0 m pc ls [])
theorem lw_g2 (hts : ∀ w ∈ lw_tbl, w.before #[Value.ref b] s = true) : ∀ w ∈ (Cond.initialized "MountPeersLaw" :: GW), w.before #[Value.ref b] s = true := fun w h => by
  rcases List.mem_cons.mp h with h | h
  · rw [h]; exact hts _ (List.mem_filter.mp mw_75).1
  · exact hts _ (List.mem_filter.mp h).1
theorem lw_arg {pc : Nat} {k : Nat} {kI : Int} (hx : p.tables.exec = Jvm.exec) (hb : c.code = code) (hX : va_X b L xs s s.heap) (hbl : b < s.heap.size) (hS : va_S (fun q => s.heap.size ≤ q) s.heap H locs) (hl : lv_has ls 8 (lvL s b i)) (hi : i + 5 ≤ L) (hL : L ≤ 5) (hk : k ≤ 4) (hkI : Int32.ofInt kI = nI k)
    (d0 : decode code pc = .ok (.aload_n 0, 1)) (d1 : decode code (pc + 1) = .ok (.iload 4, 2)) (d3 : decode code (pc + 1 + 2) = .ok (.iconst kI, 1)) (d4 : decode code (pc + 1 + 2 + 1) = .ok (.iadd, 1)) (d5 : decode code (pc + 1 + 2 + 1 + 1) = .ok (.iaload, 1))
    (kk : W p l e room_1 s m #[Value.ref b] below meth c H locs cells slots Q (F0 m (pc + 6) ls (.int (xs (i + k)) :: rest))) : W p l e room_1 s m #[Value.ref b] below meth c H locs cells slots Q (F0 m pc ls rest) := by
  refine lv_aload_n hx hb d0 rfl (lv_at hl 4 rfl) ?_
  refine lv_iload hx hb d1 (lv_at hl 0 rfl) ?_
  refine lv_iconst (v := nI k) hx hb d3 hkI ?_
  refine lv_iadd hx hb d4 ?_
  rw [nI_add]
  have hz : (nI (i + k)).toInt = ((i + k : Nat) : Int) := nI_toInt (by omega)
  refine va_sld hx hb hX hbl (Nat.not_le.mpr hbl) hS (vp_in_iff.mpr ⟨by omega, by omega⟩) d5 ?_
  rw [show (nI (i + k)).toNatClampNeg = i + k from cl_of hz]
  exact kk
theorem vx_noX {R : Room} {args : Array Value} {mc ms : Nat} {gf : JFrame} {Qa : State → Outcome → State → Prop} {free : Addr → Prop} (h : vx_Run p l e R s m args below meth c H locs cells slots mc ms gf rest Qa (fun _ _ _ => False) free) : va_Run p l e R s m args below meth c H locs cells slots mc ms gf rest Qa free := fun T hT X => by
  rcases h T hT X with h | ⟨_, _, _, _, _, _, _, _, _, _, _, _, hF, _⟩
  · exact h
  · exact hF.elim
theorem gwSW {c1 : Cond} {own : String} {idx : Nat} {y : MethodName} {bs : ByteArray} {n : Nat} {r : Option FieldType} {hh : List (Nat × Nat × Nat × Nat)} (h1 : Cond.methodLink own idx y ∈ GW) (h2 : Cond.static y ∈ GW) (h4 : Cond.initialized y.cls ∈ GW) (h5 : Cond.codeWith y bs n r hh ∈ GW) : GoodIn (c1 :: GW) (va_wsS own idx y (Cond.codeWith y bs n r hh :: GW)) := by
  intro w hw
  rcases List.mem_append.mp hw with h | h
  · simp only [List.mem_cons, List.not_mem_nil, or_false] at h
    rcases h with rfl | rfl | rfl
    · exact ⟨List.mem_cons_of_mem _ h1, gwg h1⟩
    · exact ⟨List.mem_cons_of_mem _ h2, gwg h2⟩
    · exact ⟨List.mem_cons_of_mem _ h4, gwg h4⟩
  · rcases List.mem_cons.mp h with rfl | h
    · exact ⟨List.mem_cons_of_mem _ h5, gwg h5⟩
    · exact ⟨List.mem_cons_of_mem _ h, gwg h⟩
theorem lcmp_0 (x : Int64) : lg_cmp x x = 0 := by
  have h : ¬ x < x := fun w => absurd (Int64.lt_iff_toInt_lt.mp w) (by omega)
  simp [lg_cmp, h]
end LCs
