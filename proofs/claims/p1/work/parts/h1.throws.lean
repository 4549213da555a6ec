/-! ===== `throw new NoSuchElementException(text)': her constructor passes its text on by the link 13, which the rows of 02 (link 7) don't take ===== -/
section NSX
variable {p : Program} {l : Launch} {e : Env} {R : Room} {s : State} {m : MethodId} {args : Array Value} {below : List Frame} {meth : Method} {c : Code} {W0 : State} {H : Heap} {locs : List Loc} {cells slots : Nat}
abbrev nsE : String := "java/util/NoSuchElementException"
abbrev rtE : String := "java/lang/RuntimeException"
def nsLast (own : String) (ic : Nat) : List Cond := [.methodLink own ic (Bundle.initS nsE), .instantiable nsE 6, .selects nsE Bundle.tFill0 Bundle.tFill0, .selects nsE Bundle.tFill Bundle.tFill,
  .lays nsE Bundle.tN "cause" "Ljava/lang/Throwable;", .lays nsE Bundle.tN "stackTrace" Bundle.steD, .lays nsE Bundle.tN "suppressedExceptions" Bundle.listD, .lays nsE Bundle.tN "detailMessage" "Ljava/lang/String;",
  .isRef (.static Bundle.tN "UNASSIGNED_STACK" Bundle.steD), .isRef (.static Bundle.tN "SUPPRESSED_SENTINEL" Bundle.listD),
  .fieldLink Bundle.tN 198 Bundle.tN "backtrace" "Ljava/lang/Object;", .lays Bundle.tN Bundle.tN "backtrace" "Ljava/lang/Object;", .lays nsE Bundle.tN "backtrace" "Ljava/lang/Object;"]
/-- what the throw asks of the tables and of the two statics -/
def NsOk (own : String) (ic : Nat) (args : Array Value) (s : State) : Prop :=
  (∀ w ∈ Bundle.throwableAtoms, w.before args s = true) ∧
  (∀ w ∈ Bundle.throwableSAtoms, w.before args s = true) ∧
  (∀ w ∈ Bundle.passSAtoms nsE rtE 13 prog_30_method_4_code, w.before args s = true) ∧
  (∀ w ∈ Bundle.chainSAtoms rtE ["java/lang/Exception"], w.before args s = true) ∧
  ∀ w ∈ nsLast own ic, w.before args s = true
theorem n30_0 : decode prog_30_method_4_code 0 = .ok (.aload_n 0, 1) := by decide +kernel
theorem n30_1 : decode prog_30_method_4_code 1 = .ok (.aload_n 1, 1) := by decide +kernel
theorem n30_2 : decode prog_30_method_4_code 2 = .ok (.invokespecial 13, 3) := by decide +kernel
theorem n30_5 : decode prog_30_method_4_code 5 = .ok (.return_, 1) := by decide +kernel
set_option maxHeartbeats 1000000 in
theorem nx_throw (X : Stand p l e R s m args below meth c W0 [] cells slots) (hexec : p.tables.exec = Jvm.exec) (htr : e.platform.stackTraces = false) {own : String} {ic : Nat} (hown : s.vm.findClass own = some m.cls) (K : NsOk own ic args s)
    {a : Addr} {cX : ClassId} {kX : Class} (hfX : s.vm.findClass nsE = some cX) (hkX : s.vm.classes[cX]? = some kX) (hcell : W0.heap[a]? = some (freshCell cX kX)) (hnew : s.heap.size ≤ a) {msg : Value} (hmsg : msg.isRef = true)
    {g : JFrame} (hg : g.method = m) (hsize : g.locals.size = c.maxLocals) (hlocked : g.locked = none) (hent : g.entered = []) {rest : List Value} (hst : g.stack = msg :: .ref a :: .ref a :: rest)
    (d6 : decode c.code g.pc = .ok (.invokespecial ic, 3)) (d9 : decode c.code (g.pc + 3) = .ok (.athrow, 1)) (hout : ∀ x ∈ c.exceptionTable.toList, covers x (g.pc + 3) = false)
    (hF : 5 < R.frames) (hLo : 2 * g.monitorRoom + ((Value.ref a :: rest).map fun v => v.category).sum + 81 ≤ R.locals) (hlocks : meth.locks = false) :
    ∃ U : State, Steps p.tables e below (W0.setTop g) U ∧ U.status = .running ∧ Ended U below (.threw a) ∧ s.WarmedH U.vm ∧ s.sameButNew ({ U with vm := s.vm } : State) [] cells slots ∧
      ∃ ce, U.heap[a]? = some ce ∧ ce.vm = .none ∧ s.vm.findClass nsE = some ce.cls := by
  have hpl : e.platform.magicAccessors = ({} : Platform).magicAccessors := by rw [X.admits.platform]
  obtain ⟨T, Z0, L, -, Y⟩ := ThrowableC.of_atoms (args := args) (s := s) (pl := e.platform) (by rw [X.admits.platform]) (by rw [X.admits.platform]) hpl K.1
  obtain ⟨Z, M, LZ, LM, hnZ⟩ := Init0T.ofS_atoms (args := args) hpl L Y K.2.1
  obtain ⟨P2, Ps, hlen, L2, hL, h2m, k2, k3⟩ := Bundle.chainS (args := args) hpl hnZ ["java/lang/Exception"] rtE (by decide +kernel) (by decide +kernel) K.2.2.2.1
  obtain ⟨P1, L1, h1m, h1s⟩ := PassC.ofS_atoms (args := args) (s := s) hpl (X := nsE) (Y := rtE) (by decide +kernel) ⟨by decide, by decide⟩ n30_0 n30_1 n30_2 n30_5 K.2.2.1
  have h12 : P1.sup = P2.m := Option.some.inj (h1s.symm.trans h2m)
  have w : ∀ x, x ∈ nsLast own ic → x.holds args s none s [] = true := fun x hx => K.2.2.2.2 x hx
  have hcl : cX = P1.m.cls := Option.some.inj (hfX.symm.trans (findClass_of_methodNamed h1m))
  subst hcl
  obtain ⟨c1, k1, hc1, hk1, hord, -, -, -⟩ := Cond.instantiable_spec (w (.instantiable nsE 6) (by simp [nsLast]))
  have e1 : c1 = P1.m.cls := Option.some.inj (hc1.symm.trans hfX)
  subst e1
  have e2 : k1 = kX := Option.some.inj (hk1.symm.trans hkX)
  subst e2
  -- the two fillInStackTrace that are taken
  have sel : ∀ (y : MethodName) (mm : MethodId), s.methodFound? y.cls y.name y.desc = some mm → s.methodNamed? y = some mm → (Cond.selects nsE y y).holds args s none s [] = true → selectMethod e.platform s.vm P1.m.cls mm = .method mm := by
    intro y mm hf hy hs
    obtain ⟨c2, r2, m2, q1, q2, q3, q4, -⟩ := Cond.selects_spec hs
    have z1 : c2 = P1.m.cls := Option.some.inj (q1.symm.trans hfX)
    have z2 : r2 = mm := Option.some.inj (q2.symm.trans hf)
    have z3 : m2 = mm := Option.some.inj (q3.symm.trans hy)
    rw [z1, z2, z3] at q4
    rw [Launch.admits_selectMethod X.admits]
    exact q4
  have s0 := sel _ _ (State.methodFound?_of_named Y.fill0 (by decide)) Y.fill0 (w (.selects nsE Bundle.tFill0 Bundle.tFill0) (by simp [nsLast]))
  have sF := sel _ _ (State.methodFound?_of_named Y.fill (by decide)) Y.fill (w (.selects nsE Bundle.tFill Bundle.tFill) (by simp [nsLast]))
  -- Throwable's statics, as they were
  obtain ⟨sc, hsc, hst0⟩ := Y.statics
  obtain ⟨u0, hu⟩ := Cond.staticRefV Y.unassigned L.unassignedStatic L.statics hsc hst0 (w (.isRef (.static Bundle.tN "UNASSIGNED_STACK" Bundle.steD)) (by simp [nsLast]))
  obtain ⟨v0, hv⟩ := Cond.staticRefV Y.sentinel L.sentinelStatic L.statics hsc hst0 (w (.isRef (.static Bundle.tN "SUPPRESSED_SENTINEL" Bundle.listD)) (by simp [nsLast]))
  obtain ⟨sc', hsc', hvm', -, hkp⟩ := X.same.2.2.2.2.2 T.aS sc hsc
  have hW0 : W0.heap[T.aS]? = some sc' := hsc'
  have hkp' : ∀ i : Nat, sc'.slots[i]? = sc.slots[i]? := fun i => hkp i (fun q => nomatch q)
  have hun : sc'.vm ≠ .unknown := by
    rw [hvm']
    intro q
    rw [q] at hst0
    cases hst0
  have hne : T.aS ≠ a := Nat.ne_of_lt (Nat.lt_of_lt_of_le (Array.getElem?_eq_some_iff.mp hsc).1 hnew)
  -- her fields: where they lie, and that they lie apart
  obtain ⟨cb, ib, fB, b1, b2, b3, b4, -, bn, bt, bf⟩ := Cond.ownField (t := .object "java/lang/Object") Y.found L.cls (by decide +kernel) (w (.fieldLink Bundle.tN 198 Bundle.tN "backtrace" "Ljava/lang/Object;") (by simp [nsLast])) (w (.lays Bundle.tN Bundle.tN "backtrace" "Ljava/lang/Object;") (by simp [nsLast])) e.platform hpl
  obtain ⟨iM, hM⟩ := Y.msg
  obtain ⟨tC, dC, hC, nC⟩ := Cond.laysAt hfX hkX Y.cause (w (.lays nsE Bundle.tN "cause" "Ljava/lang/Throwable;") (by simp [nsLast]))
  obtain ⟨tS, dS, hS, nS⟩ := Cond.laysAt hfX hkX Y.stack (w (.lays nsE Bundle.tN "stackTrace" Bundle.steD) (by simp [nsLast]))
  obtain ⟨tP, dP, hP, nP⟩ := Cond.laysAt hfX hkX Y.supp (w (.lays nsE Bundle.tN "suppressedExceptions" Bundle.listD) (by simp [nsLast]))
  obtain ⟨tM, -⟩ := Cond.laysAt hfX hkX hM (w (.lays nsE Bundle.tN "detailMessage" "Ljava/lang/String;") (by simp [nsLast]))
  obtain ⟨tB, dB, hB, nB⟩ := Cond.laysAt hfX hkX bf (w (.lays nsE Bundle.tN "backtrace" "Ljava/lang/Object;") (by simp [nsLast]))
  have xC := Cond.laysApart hB hC nB nC (by rw [bn, Y.causeName]; decide)
  have xS := Cond.laysApart hB hS nB nS (by rw [bn, Y.stackName]; decide)
  have xP := Cond.laysApart hB hP nB nP (by rw [bn, Y.suppName]; decide)
  have hback : ((preparedCellV T.toThrowableT (freshCell P1.m.cls k1) a u0 v0).withEntry W0.cur).slots[fB.slot]? = some .null := by
    have q := fresh_default (c := P1.m.cls) tB
    rw [bt] at q
    simpa [preparedCellV, Cell.setSlot, Cell.withEntry, Array.getElem?_setIfInBounds, xC, xS, xP, xC.symm, xS.symm, xP.symm, defaultValue] using q
  have hskip : SkipFacts T e.platform s (fun u => u) u0 ((preparedCellV T.toThrowableT (freshCell P1.m.cls k1) a u0 v0).withEntry W0.cur) :=
    ⟨{ ci198 := cb, i198 := ib, fBack := fB }, ⟨b1, b2, b3, b4⟩, hback, fun _ _ => rfl⟩
  -- the call, and the throw
  obtain ⟨tm, -, -, -, vm1, t1, -, -, -, -, -, -, -, hW1, go1⟩ := Steps.initColdS (tb := p.tables) (e := e) (below := below) (s := s) (U := W0) X.here hexec X.warmed hpl hown (t := Bundle.initS nsE) rfl rfl ⟨by decide, by decide⟩
    (w (.methodLink own ic (Bundle.initS nsE)) (by simp [nsLast])) (K.2.2.1 (.instanceMethod (Bundle.initS nsE)) (by simp [Bundle.passSAtoms])) (bytes := prog_30_method_4_code) (maxL := 2) (K.2.2.1 (.code (Bundle.initS nsE) prog_30_method_4_code 2 none) (by simp [Bundle.passSAtoms])) (f := g) hg (a := a) (msg := msg) (rest := .ref a :: rest) hst d6
  have z4 : tm = P1.m := Option.some.inj (t1.symm.trans h1m)
  subst z4
  obtain ⟨vm2, X2, go2⟩ := (X.noted hW1).ctorMessageOffV hexec (g := { g with stack := .ref a :: rest }) hg hsize T L Z LZ M LM (P1 :: P2 :: Ps)
    (fun P q => by
      rcases List.mem_cons.mp q with q | q
      · rw [q]; exact L1
      · rcases List.mem_cons.mp q with q | q
        · rw [q]; exact L2
        · exact hL P q) ⟨h12, k2, k3⟩ (u0 := u0) (sen := v0) (self := a) hmsg (cell := freshCell P1.m.cls k1) (cellS := sc') hcell (fun _ => by simp) (by simp) rfl rfl s0 sF hW0 hne hun (by rw [hkp']; exact hu) (by rw [hkp']; exact hv)
    (Takes.of_laid hkX hord tC (by rw [Y.causeType]; rfl)) (Takes.of_laid hkX hord tS (by rw [Y.stackType]; exact fits_refV_array _ u0)) (Takes.of_laid hkX hord tP (by rw [Y.suppType]; exact fits_refV_object _ v0)) (Takes.of_laid hkX hord tM (by rw [Y.msgType]; exact fits_refV_object _ ⟨msg, hmsg⟩))
    Y.objLocals hskip htr [] d6 (by simp only [List.length_cons, hlen]; exact hF) (by simp only [List.length_cons, hlen]; exact hLo)
  obtain ⟨go3, hrun, hended, hWU, hsame⟩ := X2.athrowLeaves hexec (g := { g with stack := .ref a :: rest, pc := g.pc + 3 }) hg hlocked hent hout (a := a) (rest := rest) rfl d9
  refine ⟨_, go1 _ (fun acts => ?_), hrun, hended, hWU, hsame.weaken (fun y hy hlt => ?_) (Nat.le_refl _) (Nat.le_refl _), _, heapAt_setCell_self (s := (W0.setVm vm1).setVm vm2) _ (Array.getElem?_eq_some_iff.mp hcell).1, rfl, hfX⟩
  · rw [doInvoke_state]
    exact go2 _ go3
  · have hb : y.base = a := by
      simp only [List.nil_append, List.mem_cons, List.not_mem_nil, or_false] at hy
      rcases hy with rfl | rfl | rfl | rfl | rfl <;> rfl
    rw [hb] at hlt
    exact absurd hlt (Nat.not_lt.mpr hnew)
end NSX
section NSW
variable {p : Program} {l : Launch} {e : Env} {R : Room} {s : State} {m : MethodId} {args : Array Value} {below : List Frame} {meth : Method} {c : Code} {H : Heap} {locs : List Loc} {cells slots : Nat} {free : Addr → Prop} {ls : Array Slot} {rest : List Value}
variable {Qc : Array Value → State → Outcome → State → Prop} {XC : String → State → State → Prop}
def nsDw : List Cond := [.declares (Bundle.initS rtE), .declares (Bundle.initS "java/lang/Exception"), .declares (Bundle.initS Bundle.tN)]
/-- what a throw of the class finds ahead of it: Throwable's two statics, the texts -/
def XO (A : Nat → Prop) (U : State) (H : Heap) : Prop := vx_Zq Bundle.tN "UNASSIGNED_STACK" Bundle.steD A U H ∧ vx_Zq Bundle.tN "SUPPRESSED_SENTINEL" Bundle.listD A U H ∧
  (∃ t sa, vk_R RX11 147 t sa U) ∧ (∃ t sa, vk_R RX11 171 t sa U) ∧ (∃ t sa, vk_R RX11 177 t sa U) ∧ ∃ t sa, vk_R RX11 400 t sa U
theorem XO.kept {A : Nat → Prop} {U : State} {H H1 : Heap} (h : XO A U H) (hq : ∀ a : Nat, a < H.size → ¬ A a → H1[a]? = H[a]?) : XO A U H1 := ⟨h.1.kept hq, h.2.1.kept hq, h.2.2⟩
theorem XO.narrow {A B : Nat → Prop} {U : State} {H : Heap} (h : XO A U H) (hAB : ∀ q, B q → A q) : XO B U H := ⟨h.1.narrow hAB, h.2.1.narrow hAB, h.2.2⟩
theorem XO.warm {A : Nat → Prop} {u U : State} {H : Heap} (hW : u.WarmedH U.vm) (h : XO A u H) : XO A U H := by
  obtain ⟨b, d, ⟨t1, s1, r1⟩, ⟨t2, s2, r2⟩, ⟨t3, s3, r3⟩, t4, s4, r4⟩ := h
  exact ⟨b.moved hW.alike, d.moved hW.alike, ⟨t1, s1, r1.warm hW⟩, ⟨t2, s2, r2.warm hW⟩, ⟨t3, s3, r3.warm hW⟩, t4, s4, r4.warm hW⟩
theorem XO.same {A : Nat → Prop} {u U : State} {H : Heap} (hv : u.vm = U.vm) (h : XO A u H) : XO A U H := h.warm (by rw [← hv]; exact State.WarmedH.refl u)
theorem nq1 : ∀ w ∈ Bundle.throwableAtoms.filter vx_no, w ∈ GW := by decide +kernel
theorem nq2 : ∀ w ∈ Bundle.throwableSAtoms, w ∈ GW := by decide +kernel
theorem nq3 : ∀ w ∈ Bundle.passSAtoms nsE rtE 13 prog_30_method_4_code, w ∈ GW ∨ w ∈ nsDw := by decide +kernel
theorem nq4 : ∀ w ∈ Bundle.chainSAtoms rtE ["java/lang/Exception"], w ∈ GW ∨ w ∈ nsDw := by decide +kernel
theorem nq5 : ∀ w ∈ (nsLast RX11 149).filter vx_no, w ∈ GW := by decide +kernel
theorem dec_of {x : MethodName} {bs : ByteArray} {n : Nat} {r : Option FieldType} (h1 : (Cond.instanceMethod x).before args s = true) (h2 : (Cond.code x bs n r).before args s = true) : (Cond.declares x).before args s = true := by
  obtain ⟨mm, me, hn, hm, hst, -⟩ := Cond.instanceMethod_spec h1
  obtain ⟨me', c', hm', -, -, -, -, -, -, hsig⟩ := Cond.code_spec hn h2
  have z : me = me' := Option.some.inj (hm.symm.trans hm')
  subst z
  simp [Cond.before, Cond.holds, Cond.value, hn, hm, hst, hsig]
theorem nsOk_of {A : Nat → Prop} (hG : ∀ w ∈ GW, w.before args s = true) (hO : XO A s s.heap) : NsOk RX11 149 args s := by
  have o : ∀ w, (w ∈ GW ∨ w ∈ nsDw) → w.before args s = true := fun w q => q.elim (hG w) (fun q => by
    simp only [nsDw, List.mem_cons, List.not_mem_nil, or_false] at q
    rcases q with q | q | q
    · rw [q]; exact dec_of (hG _ mw_1235) (hG _ mw_1236)
    · rw [q]; exact dec_of (hG _ mw_1238) (hG _ mw_1239)
    · rw [q]; exact dec_of (hG _ mw_1241) (hG _ mw_1242))
  have k := fun L (h : ∀ w ∈ List.filter vx_no L, w ∈ GW) => vx_own (args := args) (s := s) (L := L) (fun w q => hG w (h w q)) (vx_isRefq hO.1.1) (vx_isRefq hO.2.1.1) hO.1.2.word hO.2.1.2.word
  exact ⟨k _ nq1, fun w q => hG w (nq2 w q), fun w q => o w (nq3 w q), fun w q => o w (nq4 w q), k _ nq5⟩
set_option maxHeartbeats 1000000 in
theorem nx_row {cc : ByteArray} {pc n4 : Nat} {i4 : Instr} (hexec : p.tables.exec = Jvm.exec) (hb : c.code = cc) (hl : l.stackTraces = false) {text : String} {is mc ms sa : Nat} {A : Nat → Prop} (hown : s.vm.findClass RX11 = some m.cls)
    (hG : ∀ w ∈ GW, w.before args s = true) (hO : XO A s s.heap) (hstr : vk_R RX11 is text sa s) (hS : va_S A s.heap H locs) (hsize : ls.size = c.maxLocals)
    (d0 : decode cc pc = .ok (.new 145, 3)) (d3 : decode cc (pc + 3) = .ok (.dup, 1)) (d4 : decode cc (pc + 4) = .ok (i4, n4)) (hi : (i4 = .ldc is ∧ n4 = 2) ∨ (i4 = .ldc_w is ∧ n4 = 3)) (d6 : decode cc (pc + 4 + n4) = .ok (.invokespecial 149, 3)) (d9 : decode cc (pc + 4 + n4 + 3) = .ok (.athrow, 1))
    (hout : ∀ x ∈ c.exceptionTable.toList, False) (hRframes : 5 < R.frames) (hRlocals : (rest.map fun v => v.category).sum + 82 ≤ R.locals) (hRcells : cells + 1 ≤ R.cells) (hRslots : slots + 6 ≤ R.slots) (hlocks : meth.locks = false)
    (hx : ∀ t : State, s.vm.Alike t.vm → H.size ≤ t.heap.size → (∀ q : Nat, q < H.size → t.heap[q]? = H[q]?) → XC nsE s t) (hf : ∀ z ∈ locs, free z.base) (hc : cells + 1 ≤ mc) (hs : slots + 6 ≤ ms) :
    W p l e R s m args below meth c H locs cells slots (vx_MQ below Qc XC args s mc ms free) (F0 m pc ls rest) := by
  intro T hT X
  have htr : e.platform.stackTraces = false := (show e.platform.stackTraces = l.stackTraces by rw [X.admits.platform]).trans hl
  have Y := vx_rebase X (R' := { frames := R.frames, locals := R.locals, cells := 1, slots := 6 }) (Nat.le_refl _) (Nat.le_refl _) hRcells hRslots
  obtain ⟨s', hA⟩ : ∃ z, z = (T.setVm s.vm).setFrames (.invoking m args :: below) := ⟨_, rfl⟩
  rw [← hA] at Y
  have hvm : s'.vm = s.vm := by rw [hA]; rfl
  have hhp : s'.heap = H := by rw [hA]; exact hT
  have hW0 : s.WarmedH s'.vm := by rw [hvm]; exact State.WarmedH.refl s
  have hG' : ∀ w ∈ GW, w.before args s' = true := fun w q => vx_ot_at hW0 hvm.symm (by unfold vx_ot; rw [(List.mem_filter.mp q).2]; simp) (hG w q)
  have hO' : XO A s' s'.heap := by rw [hhp]; exact (hO.kept hS.2.1).warm hW0
  have hown' : s'.vm.findClass RX11 = some m.cls := by rw [hvm]; exact hown
  obtain ⟨vm1, cX, kX, hfX, hkX, -, -, X1, go1⟩ := Y.newCold hexec (own := RX11) (C := nsE) (index := 145) (n := 6) hown' (hG' _ mw_1191) (hG' _ mw_1192) (hG' _ mw_98) (g := F0 m pc ls rest) rfl (by rw [hb]; exact d0) (Nat.le_refl _) (Nat.le_refl _)
  generalize hT1 : (T.setVm vm1).pushCell { cls := cX, slots := kX.instanceTypes.map defaultValue, vm := .none } = T1 at X1 go1
  have hcA : T1.heap[T.heap.size]? = some (freshCell cX kX) := by rw [← hT1]; exact State.heap_pushCell_size _ _
  have d3' : decode c.code (pc + 3) = .ok (.dup, 1) := by rw [hb]; exact d3
  have hstr' : vk_R RX11 is text sa s' := vk_R.warm hW0 hstr
  obtain ⟨U, hsteps, hrun, hend, hW, hsame, ce, hce, hv, hcl⟩ := nx_throw X1 hexec htr hown' (nsOk_of hG' hO') hfX hkX hcA (by rw [hhp, hT]; exact Nat.le_refl _) (msg := .ref sa) rfl
    (g := { method := m, pc := pc + 4 + n4, locals := ls, stack := .ref sa :: .ref T.heap.size :: .ref T.heap.size :: rest, locked := none }) rfl hsize rfl rfl (rest := rest) rfl (by rw [hb]; exact d6) (by rw [hb]; exact d9) (fun x q => (hout x q).elim) hRframes
    (by simp only [List.map_cons, List.sum_cons, show (Value.ref T.heap.size).category = 1 from rfl]; omega) hlocks
  obtain ⟨f1, f2⟩ := vx_frame hsame
  rw [hhp] at f1 f2
  have hWs : s.WarmedH U.vm := State.WarmedH.trans hW0 hW
  rw [hvm] at hcl
  have hall : s.sameButNew ({ U with vm := s.vm } : State) locs mc ms := by
    subst hA
    obtain ⟨e1, e2⟩ := hsame
    rw [State.setFrames_setFrames] at e1
    have h2 : (T.setVm s.vm).sameButNew ({ U with vm := s.vm } : State) [] (0 + 1) (0 + 6) := ⟨e1, e2⟩
    have h3 := X.same.trans h2
    rw [List.append_nil] at h3
    exact h3.mono hc hs
  refine ⟨U, ?_, .threw T.heap.size, hrun, hend, Or.inr ⟨T.heap.size, rfl, nsE, ce, locs, hx U hWs.alike f1 (fun q hq => f2 q hq (fun z hz => nomatch hz)), hce, hv, hcl, hWs, hall, hf⟩⟩
  refine go1 _ ?_
  show Steps p.tables e below (T1.setTop { method := m, pc := pc + 3, locals := ls, stack := .ref T.heap.size :: rest, locked := none }) _
  jvm_step X1.here [X1.here.top, hexec, d3', Value.category]
  rcases hi with ⟨q1, q2⟩ | ⟨q1, q2⟩
  · subst q1; subst q2
    exact X1.ldcString hexec (own := RX11) (text := text) (index := is) (a := sa) hown' hstr'.1 hstr'.2 (g := { method := m, pc := pc + 4, locals := ls, stack := .ref T.heap.size :: .ref T.heap.size :: rest, locked := none }) rfl (by rw [hb]; exact d4) _ hsteps
  · subst q1; subst q2
    exact X1.ldcStringW hexec (own := RX11) (text := text) (index := is) (a := sa) hown' hstr'.1 hstr'.2 (g := { method := m, pc := pc + 4, locals := ls, stack := .ref T.heap.size :: .ref T.heap.size :: rest, locked := none }) rfl (by rw [hb]; exact d4) _ hsteps
end NSW
/-! ===== the three methods of the class that throw ===== -/
/-- a method's start over a typed heap, where it may throw -/
def PcX (g : Gx) (Ty : TyM) (G : Gh) (sz : Nat) (av : List Value) : Array Value → State → Prop := fun v U => v = av.toArray ∧ U.heap.size = sz ∧ KK g U ∧ HT g Ty G U.heap ∧ XO (AF Ty sz) U U.heap
theorem PcX_blind {g : Gx} {Ty : TyM} {G : Gh} {sz : Nat} {av : List Value} : FrameBlind (PcX g Ty G sz av) := fun a U f mk q => by
  obtain ⟨q0, q1, qK, qH, qO⟩ := q
  exact ⟨q0, q1, KK.same (u := U) (U := U.calling f mk a) rfl qK, qH, XO.same (u := U) (U := U.calling f mk a) rfl qO⟩
theorem PcX_pre {g : Gx} {Ty : TyM} {G : Gh} {s : State} {H : Heap} {locs : List Loc} {av : List Value} (hK : KK g s) (hH : HT g Ty G H) (hO : XO (AF Ty s.heap.size) s s.heap) (hS : va_S (AF Ty s.heap.size) s.heap H locs) : ∀ U : State, U.heap = H → s.WarmedH U.vm → PcX g Ty G H.size av av.toArray U := fun U hU hW => ⟨rfl, by rw [hU], KK.warm hW hK, by rw [hU]; exact hH, by rw [hU]; exact ((hO.kept hS.2.1).warm hW).narrow (fun q h => AF.mono hS.1 h)⟩
/-- what holds when it has thrown -/
abbrev XcT (g : Gx) (Ty : TyM) (G : Gh) (sz : Nat) : String → State → State → Prop := vx_X (fun (_ : Unit) => True) (fun E _ t => E = nsE ∧ HT g Ty G t.heap) (AF Ty sz)
theorem XcT_of {g : Gx} {Ty : TyM} {G : Gh} {s t : State} {H : Heap} {locs : List Loc} (hH : HT g Ty G H) (hS : va_S (AF Ty s.heap.size) s.heap H locs) (h1 : H.size ≤ t.heap.size) (h2 : ∀ q : Nat, q < H.size → t.heap[q]? = H[q]?) : XcT g Ty G s.heap.size nsE s t :=
  ⟨(), trivial, ⟨rfl, hH.kept (fun q k hq => h2 q (hH.lt hq))⟩, Nat.le_trans hS.1 h1, fun q hq hn => (h2 q (Nat.lt_of_lt_of_le hq hS.1)).trans (hS.2.1 q hq hn)⟩
/-- what holds when it has thrown, and why -/
abbrev XcP (P : Prop) (g : Gx) (Ty : TyM) (G : Gh) (sz : Nat) : String → State → State → Prop := vx_X (fun (_ : Unit) => P) (fun E _ t => E = nsE ∧ HT g Ty G t.heap) (AF Ty sz)
theorem XcP_of {P : Prop} {g : Gx} {Ty : TyM} {G : Gh} {s t : State} {H : Heap} {locs : List Loc} (hP : P) (hH : HT g Ty G H) (hS : va_S (AF Ty s.heap.size) s.heap H locs) (h1 : H.size ≤ t.heap.size) (h2 : ∀ q : Nat, q < H.size → t.heap[q]? = H[q]?) : XcP P g Ty G s.heap.size nsE s t :=
  ⟨(), hP, ⟨rfl, hH.kept (fun q k hq => h2 q (hH.lt hq))⟩, Nat.le_trans hS.1 h1, fun q hq hn => (h2 q (Nat.lt_of_lt_of_le hq hS.1)).trans (hS.2.1 q hq hn)⟩
/-- what is told of the root, and of nothing else, when the object is new -/
def okM (a w : Int32) : Prop := a = 0 ∧ (w = 0 ∨ w = 1 ∨ w = 2 ∨ w = 3 ∨ w = 4 ∨ w = 5)
def valM (w : Int32) : Int32 := if w = 0 then 24 else if w = 1 then 4 else 0
def okA (a d : Int32) : Prop := ¬ F_X10_hasPlace 1 a d = 0
theorem has_zero {a x : Int32} {t : Int32} (h : x = F_X10_has t a) (ht : t = 1) (c : ¬ x = 0) : a = 0 := by
  rw [ht] at h
  rcases fr_has a with e | ⟨e, -⟩
  · exact e
  · exact absurd (h.trans e) c
theorem has_n {a w x : Int32} {t : Int32} (h : x = F_X10_has t a) (ht : t = 1) (c : x = 0) : ¬ okM a w := fun q => by
  rw [ht, c, q.1] at h
  exact absurd h (by decide)
theorem at_24 {a d x : Int32} {f : Nat → Int32} (h : x = F_X10_mountAt f a d) (hf : f = P0) (ok : okA a d) : x = 24 := by
  rcases fr_place a d with ⟨e, -⟩ | ⟨rfl, rfl | rfl | rfl | rfl⟩
  · exact absurd e ok
  all_goals (rw [h, hf]; decide +kernel)
theorem vpl_0 {f : Nat → Int64} {x : Int64} {i : Int32} (hi : i = 0) : vp_updL f i.toNatClampNeg x 0 = x := by
  rw [hi]
  unfold vp_updL
  rfl

set_option maxHeartbeats 4000000 in
set_option maxRecDepth 100000 in
theorem c_X11_at_z (l : Launch) (hst : l.stackTraces = false) (g : Gx) (Ty : TyM) (G : Gh) (sz : Nat) (h0 : Nat) (a0 : Int32) (a1 : Int32) (k_h0 : Ty h0 = some (21, 0)) (h20 : G.1 20 = 1) (h21 : G.1 21 = 0) (hp70 : G.2.1 (g.2.2 70) = P0) (hp71 : G.2.1 (g.2.2 71) = Z0) (hp72 : G.2.1 (g.2.2 72) = Z0) : vx_Met l yX11_at (wsG yX11_at cX11_at 3 (some .int)) ({ frames := 7, cells := 1, slots := 6, locals := 119 }) (PcX g Ty G sz [.ref h0, .int a0, .int a1]) (QwI g Ty sz (fun r u => u = (Ty, G) ∧ okA a0 a1 ∧ r = 24)) (XcP (¬ okA a0 a1) g Ty G sz) 1 6 (AF Ty sz) := by
  refine vx_ofW (cc := cX11_at) (maxL := 3) (ret := (some .int)) (by decide) rfl ?_
  intro p e s m args below meth c s₁ B hml hnx hv
  obtain ⟨rfl, hsz, hK, hH, hO⟩ := hv
  subst hsz
  have hx := B.exec
  have hb := B.bytes
  have hr := B.returns
  have hts := atoms_spec (ws := (wsG yX11_at cX11_at 3 (some .int))) B.pre
  have hG : ∀ w ∈ GW, w.before ([.ref h0, .int a0, .int a1] : List Value).toArray s = true := fun w h => hts w (List.mem_cons_of_mem _ h)
  have hown : s.vm.findClass RX11 = some m.cls := findClass_of_methodNamed B.named
  have hlocks := B.notSynchronized
  have hl := lv_entry [.ref h0, .int a0, .int a1] (n := 3) (Nat.le_of_ble_eq_true rfl)
  rw [lg_entry_eq]
  generalize (lg_sl [.ref h0, .int a0, .int a1] ++ List.replicate (3 - (lg_sl [.ref h0, .int a0, .int a1]).length) Slot.unset).toArray = ls at hl ⊢
  have hl : lv_has ls 3 [(0, .ref h0), (1, .int a0), (2, .int a1)] := hl
  have hS : va_S (AF Ty s.heap.size) s.heap s.heap [] := va_S.rf
  refine lv_aload_n hx hb dX11_at_0 rfl (lv_at hl 0 rfl) ?_
  obtain ⟨_, ⟨rfl, kq_2, kq_3, kq_4, kq_5, kq_6, kq_7, kq_8, kq_9, kq_10, kq_11, kq_12, kq_13, kq_14, kq_15, t_17⟩, o_c_1⟩ := hH h0 _ k_h0
  refine hg_get hx hb hG igX11 hown hK o_c_1 rfl 0 (by decide) (hG _ mw_357) rfl dX11_at_1 ?_
  refine lv_iload_n hx hb dX11_at_4 rfl (lv_at hl 1 rfl) ?_
  refine lv_iload_n hx hb dX11_at_5 rfl (lv_at hl 2 rfl) ?_
  obtain ⟨_, ⟨rfl, kq_25, kq_26, kq_27, t_28⟩, o_c_24⟩ := hH (g.2.2 0) _ kq_2
  refine vp_callSi (W.runV (As := [.int a0, .int a1]) (rest := []) ⟨hx, hb, hml, hown, hts⟩ (c_X10_hasPlace l g Ty G (g.2.2 0) a0 a1 kq_2) (cwV 2 hts (gwV mw_1145 mw_641 mw_642 mw_77 mw_643) rfl rfl rfl hv_X10_hasPlace ⟨Nat.le_of_ble_eq_true rfl, Nat.le_of_ble_eq_true rfl⟩) ⟨PcH_blind, hg_recv hK o_c_24 rfl, PcH_pre hK hH⟩ rfl rfl hl.1 rfl (lv_room (Nat.le_of_ble_eq_true rfl)) dX11_at_6 ⟨Nat.zero_le _, Nat.zero_le _⟩) (fun x_13 hx_13 => ?_)
  refine lv_if_ne (tgt := 22) hx hb dX11_at_9 (by decide) (fun c_14 => ?_) (fun c_14 => ?_)
  · refine lv_aload_n hx hb dX11_at_22 rfl (lv_at hl 0 rfl) ?_
    refine hg_get hx hb hG igX11 hown hK o_c_1 rfl 0 (by decide) (hG _ mw_357) rfl dX11_at_23 ?_
    refine lv_iload_n hx hb dX11_at_26 rfl (lv_at hl 1 rfl) ?_
    refine lv_iload_n hx hb dX11_at_27 rfl (lv_at hl 2 rfl) ?_
    refine vp_callSi (W.runV (As := [.int a0, .int a1]) (rest := []) ⟨hx, hb, hml, hown, hts⟩ (c_X10_mountAt l g Ty G (g.2.2 0) a0 a1 kq_2) (cwV 2 hts (gwV mw_582 mw_579 mw_580 mw_77 mw_581) rfl rfl rfl hv_X10_mountAt ⟨Nat.le_of_ble_eq_true rfl, Nat.le_of_ble_eq_true rfl⟩) ⟨PcH_blind, hg_recv hK o_c_24 rfl, PcH_pre hK hH⟩ rfl rfl hl.1 rfl (lv_room (Nat.le_of_ble_eq_true rfl)) dX11_at_28 ⟨Nat.zero_le _, Nat.zero_le _⟩) (fun x_20 hx_20 => ?_)
    exact vx_ret (W.widen (Nat.zero_le _) (Nat.zero_le _) (W.iret hx hb hr (fun t ht hWm => ⟨⟨x_20, (Ty, G), rfl, ⟨rfl, (show okA a0 a1 from fun q => c_14 (hx_13.2.2.trans (by rw [h20]; exact q))), at_24 hx_20.2 hp70 (show okA a0 a1 from fun q => c_14 (hx_13.2.2.trans (by rw [h20]; exact q)))⟩, by show HT g Ty G t.heap; rw [ht]; exact hH⟩, hS.F ht⟩) hS.2.2 dX11_at_31))
  · obtain ⟨tx, sa, hstr⟩ := hO.2.2.2.2.1
    exact nx_row hx hb hst hown hG hO hstr hS (hl.1.trans hml.symm) dX11_at_12 dX11_at_15 dX11_at_16 (Or.inl ⟨rfl, rfl⟩) dX11_at_18 dX11_at_21 hnx (Nat.le_of_ble_eq_true rfl) (Nat.le_of_ble_eq_true rfl) (Nat.le_of_ble_eq_true rfl) (Nat.le_of_ble_eq_true rfl) hlocks (fun t _ h1 h2 => XcP_of (show ¬ okA a0 a1 from fun q => q ((by rw [← h20]; exact hx_13.2.2.symm.trans c_14)))  hH hS h1 h2) hS.2.2 (Nat.le_refl _) (Nat.le_refl _)

set_option maxHeartbeats 4000000 in
set_option maxRecDepth 100000 in
theorem c_X11_mount_z (l : Launch) (hst : l.stackTraces = false) (g : Gx) (Ty : TyM) (G : Gh) (sz : Nat) (h0 : Nat) (a0 : Int32) (a1 : Int32) (k_h0 : Ty h0 = some (21, 0)) (h20 : G.1 20 = 1) (h21 : G.1 21 = 0) (hp70 : G.2.1 (g.2.2 70) = P0) (hp71 : G.2.1 (g.2.2 71) = Z0) (hp72 : G.2.1 (g.2.2 72) = Z0) : vx_Met l yX11_mount (wsG yX11_mount cX11_mount 3 (some .int)) ({ frames := 7, cells := 1, slots := 6, locals := 119 }) (PcX g Ty G sz [.ref h0, .int a0, .int a1]) (QwI g Ty sz (fun r u => u = (Ty, G) ∧ okM a0 a1 ∧ r = valM a1)) (XcP (¬ okM a0 a1) g Ty G sz) 1 6 (AF Ty sz) := by
  refine vx_ofW (cc := cX11_mount) (maxL := 3) (ret := (some .int)) (by decide) rfl ?_
  intro p e s m args below meth c s₁ B hml hnx hv
  obtain ⟨rfl, hsz, hK, hH, hO⟩ := hv
  subst hsz
  have hx := B.exec
  have hb := B.bytes
  have hr := B.returns
  have hts := atoms_spec (ws := (wsG yX11_mount cX11_mount 3 (some .int))) B.pre
  have hG : ∀ w ∈ GW, w.before ([.ref h0, .int a0, .int a1] : List Value).toArray s = true := fun w h => hts w (List.mem_cons_of_mem _ h)
  have hown : s.vm.findClass RX11 = some m.cls := findClass_of_methodNamed B.named
  have hlocks := B.notSynchronized
  have hl := lv_entry [.ref h0, .int a0, .int a1] (n := 3) (Nat.le_of_ble_eq_true rfl)
  rw [lg_entry_eq]
  generalize (lg_sl [.ref h0, .int a0, .int a1] ++ List.replicate (3 - (lg_sl [.ref h0, .int a0, .int a1]).length) Slot.unset).toArray = ls at hl ⊢
  have hl : lv_has ls 3 [(0, .ref h0), (1, .int a0), (2, .int a1)] := hl
  have hS : va_S (AF Ty s.heap.size) s.heap s.heap [] := va_S.rf
  obtain ⟨_, ⟨rfl, kq_2, kq_3, kq_4, kq_5, kq_6, kq_7, kq_8, kq_9, kq_10, kq_11, kq_12, kq_13, kq_14, kq_15, t_17⟩, o_c_1⟩ := hH h0 _ k_h0
  obtain ⟨_, ⟨rfl, kq_25, kq_26, kq_27, t_28⟩, o_c_24⟩ := hH (g.2.2 0) _ kq_2
  refine lv_aload_n hx hb dX11_mount_0 rfl (lv_at hl 0 rfl) ?_
  refine hg_get hx hb hG igX11 hown hK o_c_1 rfl 0 (by decide) (hG _ mw_357) rfl dX11_mount_1 ?_
  refine lv_iload_n hx hb dX11_mount_4 rfl (lv_at hl 1 rfl) ?_
  refine vp_callSi (W.runV (As := [.int a0]) (rest := []) ⟨hx, hb, hml, hown, hts⟩ (c_X10_has l g Ty G (g.2.2 0) a0 kq_2) (cwV 1 hts (gwV mw_603 mw_604 mw_605 mw_77 mw_606) rfl rfl rfl hv_X10_has ⟨Nat.le_of_ble_eq_true rfl, Nat.le_of_ble_eq_true rfl⟩) ⟨PcH_blind, hg_recv hK o_c_24 rfl, PcH_pre hK hH⟩ rfl rfl hl.1 rfl (lv_room (Nat.le_of_ble_eq_true rfl)) dX11_mount_5 ⟨Nat.zero_le _, Nat.zero_le _⟩) (fun x_13 hx_13 => ?_)
  refine lv_if_ne (tgt := 21) hx hb dX11_mount_8 (by decide) (fun c_14 => ?_) (fun c_14 => ?_)
  · refine lv_iload_n hx hb dX11_mount_21 rfl (lv_at hl 2 rfl) ?_
    by_cases d_0 : a1 = 0
    · refine lv_tableIn (tgt := 60) hx hb dX11_mount_22 (by rw [d_0]; decide) (by rw [d_0]; decide) (off := 38) (by rw [d_0]; rfl) (by decide) ?_
      refine lv_aload_n hx hb dX11_mount_60 rfl (lv_at hl 0 rfl) ?_
      refine hg_get hx hb hG igX11 hown hK o_c_1 rfl 0 (by decide) (hG _ mw_357) rfl dX11_mount_61 ?_
      refine lv_iload_n hx hb dX11_mount_64 rfl (lv_at hl 1 rfl) ?_
      refine vp_callSi (W.runV (As := [.int a0]) (rest := []) ⟨hx, hb, hml, hown, hts⟩ (c_X10_parentOf l g Ty G (g.2.2 0) a0 kq_2) (cwV 1 hts (gwV mw_969 mw_683 mw_684 mw_77 mw_685) rfl rfl rfl hv_X10_parentOf ⟨Nat.le_of_ble_eq_true rfl, Nat.le_of_ble_eq_true rfl⟩) ⟨PcH_blind, hg_recv hK o_c_24 rfl, PcH_pre hK hH⟩ rfl rfl hl.1 rfl (lv_room (Nat.le_of_ble_eq_true rfl)) dX11_mount_65 ⟨Nat.zero_le _, Nat.zero_le _⟩) (fun x_20 hx_20 => ?_)
      exact vx_ret (W.widen (Nat.zero_le _) (Nat.zero_le _) (W.iret hx hb hr (fun t ht hWm => ⟨⟨x_20, (Ty, G), rfl, ⟨rfl, ⟨(has_zero hx_13.2.2 h20 c_14), Or.inl d_0⟩, by rw [hx_20, hp70, (has_zero hx_13.2.2 h20 c_14), d_0]; decide +kernel⟩, by show HT g Ty G t.heap; rw [ht]; exact hH⟩, hS.F ht⟩) hS.2.2 dX11_mount_68))
    by_cases d_1 : a1 = 1
    · refine lv_tableIn (tgt := 69) hx hb dX11_mount_22 (by rw [d_1]; decide) (by rw [d_1]; decide) (off := 47) (by rw [d_1]; rfl) (by decide) ?_
      refine lv_aload_n hx hb dX11_mount_69 rfl (lv_at hl 0 rfl) ?_
      refine hg_get hx hb hG igX11 hown hK o_c_1 rfl 0 (by decide) (hG _ mw_357) rfl dX11_mount_70 ?_
      refine lv_iload_n hx hb dX11_mount_73 rfl (lv_at hl 1 rfl) ?_
      refine vp_callSi (W.runV (As := [.int a0]) (rest := []) ⟨hx, hb, hml, hown, hts⟩ (c_X10_dirOf l g Ty G (g.2.2 0) a0 kq_2) (cwV 1 hts (gwV mw_968 mw_849 mw_850 mw_77 mw_851) rfl rfl rfl hv_X10_dirOf ⟨Nat.le_of_ble_eq_true rfl, Nat.le_of_ble_eq_true rfl⟩) ⟨PcH_blind, hg_recv hK o_c_24 rfl, PcH_pre hK hH⟩ rfl rfl hl.1 rfl (lv_room (Nat.le_of_ble_eq_true rfl)) dX11_mount_74 ⟨Nat.zero_le _, Nat.zero_le _⟩) (fun x_20 hx_20 => ?_)
      exact vx_ret (W.widen (Nat.zero_le _) (Nat.zero_le _) (W.iret hx hb hr (fun t ht hWm => ⟨⟨x_20, (Ty, G), rfl, ⟨rfl, ⟨(has_zero hx_13.2.2 h20 c_14), Or.inr (Or.inl d_1)⟩, by rw [hx_20, hp70, (has_zero hx_13.2.2 h20 c_14), d_1]; decide +kernel⟩, by show HT g Ty G t.heap; rw [ht]; exact hH⟩, hS.F ht⟩) hS.2.2 dX11_mount_77))
    by_cases d_2 : a1 = 2
    · refine lv_tableIn (tgt := 78) hx hb dX11_mount_22 (by rw [d_2]; decide) (by rw [d_2]; decide) (off := 56) (by rw [d_2]; rfl) (by decide) ?_
      refine lv_aload_n hx hb dX11_mount_78 rfl (lv_at hl 0 rfl) ?_
      refine hg_get hx hb hG igX11 hown hK o_c_1 rfl 0 (by decide) (hG _ mw_357) rfl dX11_mount_79 ?_
      refine lv_iload_n hx hb dX11_mount_82 rfl (lv_at hl 1 rfl) ?_
      refine vp_callSi (W.runV (As := [.int a0]) (rest := []) ⟨hx, hb, hml, hown, hts⟩ (c_X10_groupOf l g Ty G (g.2.2 0) a0 kq_2) (cwV 1 hts (gwV mw_607 mw_608 mw_609 mw_77 mw_610) rfl rfl rfl hv_X10_groupOf ⟨Nat.le_of_ble_eq_true rfl, Nat.le_of_ble_eq_true rfl⟩) ⟨PcH_blind, hg_recv hK o_c_24 rfl, PcH_pre hK hH⟩ rfl rfl hl.1 rfl (lv_room (Nat.le_of_ble_eq_true rfl)) dX11_mount_83 ⟨Nat.zero_le _, Nat.zero_le _⟩) (fun x_20 hx_20 => ?_)
      exact vx_ret (W.widen (Nat.zero_le _) (Nat.zero_le _) (W.iret hx hb hr (fun t ht hWm => ⟨⟨x_20, (Ty, G), rfl, ⟨rfl, ⟨(has_zero hx_13.2.2 h20 c_14), Or.inr (Or.inr (Or.inl d_2))⟩, by rw [hx_20, hp71, (has_zero hx_13.2.2 h20 c_14), d_2]; decide +kernel⟩, by show HT g Ty G t.heap; rw [ht]; exact hH⟩, hS.F ht⟩) hS.2.2 dX11_mount_86))
    by_cases d_3 : a1 = 3
    · refine lv_tableIn (tgt := 87) hx hb dX11_mount_22 (by rw [d_3]; decide) (by rw [d_3]; decide) (off := 65) (by rw [d_3]; rfl) (by decide) ?_
      refine lv_aload_n hx hb dX11_mount_87 rfl (lv_at hl 0 rfl) ?_
      refine hg_get hx hb hG igX11 hown hK o_c_1 rfl 0 (by decide) (hG _ mw_357) rfl dX11_mount_88 ?_
      refine lv_iload_n hx hb dX11_mount_91 rfl (lv_at hl 1 rfl) ?_
      refine vp_callSi (W.runV (As := [.int a0]) (rest := []) ⟨hx, hb, hml, hown, hts⟩ (c_X10_masterOf l g Ty G (g.2.2 0) a0 kq_2) (cwV 1 hts (gwV mw_611 mw_612 mw_613 mw_77 mw_614) rfl rfl rfl hv_X10_masterOf ⟨Nat.le_of_ble_eq_true rfl, Nat.le_of_ble_eq_true rfl⟩) ⟨PcH_blind, hg_recv hK o_c_24 rfl, PcH_pre hK hH⟩ rfl rfl hl.1 rfl (lv_room (Nat.le_of_ble_eq_true rfl)) dX11_mount_92 ⟨Nat.zero_le _, Nat.zero_le _⟩) (fun x_20 hx_20 => ?_)
      exact vx_ret (W.widen (Nat.zero_le _) (Nat.zero_le _) (W.iret hx hb hr (fun t ht hWm => ⟨⟨x_20, (Ty, G), rfl, ⟨rfl, ⟨(has_zero hx_13.2.2 h20 c_14), Or.inr (Or.inr (Or.inr (Or.inl d_3)))⟩, by rw [hx_20, hp72, (has_zero hx_13.2.2 h20 c_14), d_3]; decide +kernel⟩, by show HT g Ty G t.heap; rw [ht]; exact hH⟩, hS.F ht⟩) hS.2.2 dX11_mount_95))
    by_cases d_4 : a1 = 4
    · refine lv_tableIn (tgt := 96) hx hb dX11_mount_22 (by rw [d_4]; decide) (by rw [d_4]; decide) (off := 74) (by rw [d_4]; rfl) (by decide) ?_
      refine lv_aload_n hx hb dX11_mount_96 rfl (lv_at hl 0 rfl) ?_
      refine hg_get hx hb hG igX11 hown hK o_c_1 rfl 0 (by decide) (hG _ mw_357) rfl dX11_mount_97 ?_
      refine lv_iload_n hx hb dX11_mount_100 rfl (lv_at hl 1 rfl) ?_
      refine vp_callSi (W.runV (As := [.int a0]) (rest := []) ⟨hx, hb, hml, hown, hts⟩ (c_X10_kindOf l g Ty G (g.2.2 0) a0 kq_2) (cwV 1 hts (gwV mw_1256 mw_694 mw_695 mw_77 mw_696) rfl rfl rfl hv_X10_kindOf ⟨Nat.le_of_ble_eq_true rfl, Nat.le_of_ble_eq_true rfl⟩) ⟨PcH_blind, hg_recv hK o_c_24 rfl, PcH_pre hK hH⟩ rfl rfl hl.1 rfl (lv_room (Nat.le_of_ble_eq_true rfl)) dX11_mount_101 ⟨Nat.zero_le _, Nat.zero_le _⟩) (fun x_20 hx_20 => ?_)
      exact vx_ret (W.widen (Nat.zero_le _) (Nat.zero_le _) (W.iret hx hb hr (fun t ht hWm => ⟨⟨x_20, (Ty, G), rfl, ⟨rfl, ⟨(has_zero hx_13.2.2 h20 c_14), Or.inr (Or.inr (Or.inr (Or.inr (Or.inl d_4))))⟩, by rw [hx_20, hp71, hp72, h20, h21, (has_zero hx_13.2.2 h20 c_14), d_4]; decide +kernel⟩, by show HT g Ty G t.heap; rw [ht]; exact hH⟩, hS.F ht⟩) hS.2.2 dX11_mount_104))
    by_cases d_5 : a1 = 5
    · refine lv_tableIn (tgt := 105) hx hb dX11_mount_22 (by rw [d_5]; decide) (by rw [d_5]; decide) (off := 83) (by rw [d_5]; rfl) (by decide) ?_
      refine lv_aload_n hx hb dX11_mount_105 rfl (lv_at hl 0 rfl) ?_
      refine hg_get hx hb hG igX11 hown hK o_c_1 rfl 0 (by decide) (hG _ mw_357) rfl dX11_mount_106 ?_
      refine lv_iload_n hx hb dX11_mount_109 rfl (lv_at hl 1 rfl) ?_
      refine vp_callSi (W.runV (As := [.int a0]) (rest := []) ⟨hx, hb, hml, hown, hts⟩ (c_X10_stepsTo l g Ty G (g.2.2 0) a0 kq_2) (cwV 1 hts (gwV mw_962 mw_679 mw_680 mw_77 mw_681) rfl rfl rfl hv_X10_stepsTo ⟨Nat.le_of_ble_eq_true rfl, Nat.le_of_ble_eq_true rfl⟩) ⟨PcH_blind, hg_recv hK o_c_24 rfl, PcH_pre hK hH⟩ rfl rfl hl.1 rfl (lv_room (Nat.le_of_ble_eq_true rfl)) dX11_mount_110 ⟨Nat.zero_le _, Nat.zero_le _⟩) (fun x_20 hx_20 => ?_)
      exact vx_ret (W.widen (Nat.zero_le _) (Nat.zero_le _) (W.iret hx hb hr (fun t ht hWm => ⟨⟨x_20, (Ty, G), rfl, ⟨rfl, ⟨(has_zero hx_13.2.2 h20 c_14), Or.inr (Or.inr (Or.inr (Or.inr (Or.inr (d_5)))))⟩, by rw [hx_20, hp70, (has_zero hx_13.2.2 h20 c_14), d_5]; decide +kernel⟩, by show HT g Ty G t.heap; rw [ht]; exact hH⟩, hS.F ht⟩) hS.2.2 dX11_mount_113))
    refine lv_tableOut (tgt := 114) hx hb dX11_mount_22 (by have := lv_neT (a := 0) d_0 rfl; have := lv_neT (a := 1) d_1 rfl; have := lv_neT (a := 2) d_2 rfl; have := lv_neT (a := 3) d_3 rfl; have := lv_neT (a := 4) d_4 rfl; have := lv_neT (a := 5) d_5 rfl; omega) (by decide) ?_
    obtain ⟨tx, sa, hstr⟩ := hO.2.2.2.1
    exact nx_row hx hb hst hown hG hO hstr hS (hl.1.trans hml.symm) dX11_mount_114 dX11_mount_117 dX11_mount_118 (Or.inl ⟨rfl, rfl⟩) dX11_mount_120 dX11_mount_123 hnx (Nat.le_of_ble_eq_true rfl) (Nat.le_of_ble_eq_true rfl) (Nat.le_of_ble_eq_true rfl) (Nat.le_of_ble_eq_true rfl) hlocks (fun t _ h1 h2 => XcP_of (fun q => by rcases q.2 with w | w | w | w | w | w; exact d_0 w; exact d_1 w; exact d_2 w; exact d_3 w; exact d_4 w; exact d_5 w) hH hS h1 h2) hS.2.2 (Nat.le_refl _) (Nat.le_refl _)
  · obtain ⟨tx, sa, hstr⟩ := hO.2.2.1
    exact nx_row hx hb hst hown hG hO hstr hS (hl.1.trans hml.symm) dX11_mount_11 dX11_mount_14 dX11_mount_15 (Or.inl ⟨rfl, rfl⟩) dX11_mount_17 dX11_mount_20 hnx (Nat.le_of_ble_eq_true rfl) (Nat.le_of_ble_eq_true rfl) (Nat.le_of_ble_eq_true rfl) (Nat.le_of_ble_eq_true rfl) hlocks (fun t _ h1 h2 => XcP_of (has_n hx_13.2.2 h20 c_14) hH hS h1 h2) hS.2.2 (Nat.le_refl _) (Nat.le_refl _)

set_option maxHeartbeats 4000000 in
set_option maxRecDepth 100000 in
theorem c_X11_row_z (l : Launch) (hst : l.stackTraces = false) (g : Gx) (Ty : TyM) (G : Gh) (sz : Nat) (h0 : Nat) (a0 : Int32) (k_h0 : Ty h0 = some (21, 0)) (h27 : G.1 27 = 0) : vx_Met l yX11_row (wsG yX11_row cX11_row 2 (some .long)) ({ frames := 7, cells := 1, slots := 6, locals := 119 }) (PcX g Ty G sz [.ref h0, .int a0]) (va_Ql (fun (_ : Int64) (u : TyM × Gh) => False) (fun u t => HT g u.1 u.2 t.heap) (AF Ty sz)) (XcP True g Ty G sz) 1 6 (AF Ty sz) := by
  refine vx_ofW (cc := cX11_row) (maxL := 2) (ret := (some .long)) (by decide) rfl ?_
  intro p e s m args below meth c s₁ B hml hnx hv
  obtain ⟨rfl, hsz, hK, hH, hO⟩ := hv
  subst hsz
  have hx := B.exec
  have hb := B.bytes
  have hr := B.returns
  have hts := atoms_spec (ws := (wsG yX11_row cX11_row 2 (some .long))) B.pre
  have hG : ∀ w ∈ GW, w.before ([.ref h0, .int a0] : List Value).toArray s = true := fun w h => hts w (List.mem_cons_of_mem _ h)
  have hown : s.vm.findClass RX11 = some m.cls := findClass_of_methodNamed B.named
  have hlocks := B.notSynchronized
  have hl := lv_entry [.ref h0, .int a0] (n := 2) (Nat.le_of_ble_eq_true rfl)
  rw [lg_entry_eq]
  generalize (lg_sl [.ref h0, .int a0] ++ List.replicate (2 - (lg_sl [.ref h0, .int a0]).length) Slot.unset).toArray = ls at hl ⊢
  have hl : lv_has ls 2 [(0, .ref h0), (1, .int a0)] := hl
  have hS : va_S (AF Ty s.heap.size) s.heap s.heap [] := va_S.rf
  obtain ⟨_, ⟨rfl, kq_2, kq_3, kq_4, kq_5, kq_6, kq_7, kq_8, kq_9, kq_10, kq_11, kq_12, kq_13, kq_14, kq_15, t_17⟩, o_c_1⟩ := hH h0 _ k_h0
  obtain ⟨_, ⟨q_20, rfl, kq_20, rq_21, t_22⟩, o_c_19⟩ := hH (g.2.2 5) _ kq_7
  refine lv_iload_n hx hb dX11_row_0 rfl (lv_at hl 1 rfl) ?_
  refine lv_if_lt (tgt := 15) hx hb dX11_row_1 (by decide) (fun c_1 => ?_) (fun c_1 => ?_)
  · obtain ⟨tx, sa, hstr⟩ := hO.2.2.2.2.2
    exact nx_row hx hb hst hown hG hO hstr hS (hl.1.trans hml.symm) dX11_row_15 dX11_row_18 dX11_row_19 (Or.inr ⟨rfl, rfl⟩) dX11_row_22 dX11_row_25 hnx (Nat.le_of_ble_eq_true rfl) (Nat.le_of_ble_eq_true rfl) (Nat.le_of_ble_eq_true rfl) (Nat.le_of_ble_eq_true rfl) hlocks (fun t _ h1 h2 => XcP_of trivial hH hS h1 h2) hS.2.2 (Nat.le_refl _) (Nat.le_refl _)
  · refine lv_iload_n hx hb dX11_row_4 rfl (lv_at hl 1 rfl) ?_
    refine lv_aload_n hx hb dX11_row_5 rfl (lv_at hl 0 rfl) ?_
    refine hg_get hx hb hG igX11 hown hK o_c_1 rfl 5 (by decide) (hG _ mw_362) rfl dX11_row_6 ?_
    refine hg_getN hx hb hG igX7 hown hK o_c_19 rfl 1 (by decide) ((hK.2.1 _ nwf_189).use rfl) rfl dX11_row_9 ?_
    refine lv_icmp_lt (tgt := 26) hx hb dX11_row_12 (by decide) (fun c_2 => ?_) (fun c_2 => ?_)
    · exact absurd (show a0 < 0 by rw [← h27]; exact c_2) c_1
    · obtain ⟨tx, sa, hstr⟩ := hO.2.2.2.2.2
      exact nx_row hx hb hst hown hG hO hstr hS (hl.1.trans hml.symm) dX11_row_15 dX11_row_18 dX11_row_19 (Or.inr ⟨rfl, rfl⟩) dX11_row_22 dX11_row_25 hnx (Nat.le_of_ble_eq_true rfl) (Nat.le_of_ble_eq_true rfl) (Nat.le_of_ble_eq_true rfl) (Nat.le_of_ble_eq_true rfl) hlocks (fun t _ h1 h2 => XcP_of trivial hH hS h1 h2) hS.2.2 (Nat.le_refl _) (Nat.le_refl _)

theorem cast_of {args : Array Value} {s : State} (h : (Cond.instantiable nsE 6).before args s = true) : (Cond.castable nsE nsE).before args s = true := by
  obtain ⟨c, k, hc, hk, hord, -⟩ := Cond.instantiable_spec h
  simp [Cond.before, Cond.holds, Cond.value, hc, Vm.assignable, Vm.assignableAux, hk, hord, Vm.isSubclass, Vm.isSubclassAux]

/-- a helper's start: the row of one long beside the typed heap -/
def PcY (g : Gx) (Ty : TyM) (G : Gh) (sz b0 : Nat) (av : List Value) : Array Value → State → Prop := fun v U => v = av.toArray ∧ U.heap.size = sz ∧ KK g U ∧ HT g Ty G U.heap ∧ XO (AF Ty sz) U U.heap ∧ ∃ f, va_at g.1 vwCl (b0, .inl (g.2.1 2, 1, .inr (.inl f))) U.heap
theorem PcY_blind {g : Gx} {Ty : TyM} {G : Gh} {sz b0 : Nat} {av : List Value} : FrameBlind (PcY g Ty G sz b0 av) := fun a U f mk q => by
  obtain ⟨q0, q1, qK, qH, qO, qb⟩ := q
  exact ⟨q0, q1, KK.same (u := U) (U := U.calling f mk a) rfl qK, qH, XO.same (u := U) (U := U.calling f mk a) rfl qO, qb⟩
theorem PcY_pre {g : Gx} {Ty : TyM} {G : Gh} {s : State} {H : Heap} {locs : List Loc} {b0 : Nat} {f : Nat → Int64} {av : List Value} (hK : KK g s) (hH : HT g Ty G H) (hO : XO (AF Ty s.heap.size) s s.heap) (hS : va_S (AF Ty s.heap.size) s.heap H locs) (ob : va_at g.1 vwCl (b0, .inl (g.2.1 2, 1, .inr (.inl f))) H) : ∀ U : State, U.heap = H → s.WarmedH U.vm → PcY g Ty G H.size b0 av av.toArray U := fun U hU hW => by
  obtain ⟨a1, a2, a3, a4, a5⟩ := PcX_pre (av := av) hK hH hO hS U hU hW
  exact ⟨a1, a2, a3, a4, a5, f, by rw [hU]; exact ob⟩
/-- what a helper leaves behind -/
abbrev QwY (g : Gx) (Ty : TyM) (G : Gh) (sz b0 : Nat) (P : Int32 → (Nat → Int64) → Prop) : Array Value → State → Outcome → State → Prop := va_Qi (fun r (u : TyM × Gh × (Nat → Int64)) => u.1 = Ty ∧ u.2.1 = G ∧ P r u.2.2) (fun u t => HT g u.1 u.2.1 t.heap ∧ va_at g.1 vwCl (b0, .inl (g.2.1 2, 1, .inr (.inl u.2.2))) t.heap) (fun q => AF Ty sz q ∨ q = b0)
theorem ob_kept {g : Gx} {Ty : TyM} {sz b0 : Nat} {H H1 : Heap} {f : Nat → Int64} (kb : Ty b0 = none) (hsz : H.size = sz) (ob : va_at g.1 vwCl (b0, .inl (g.2.1 2, 1, .inr (.inl f))) H) (hk : ∀ q : Nat, q < H.size → ¬ AF Ty sz q → H1[q]? = H[q]?) : va_at g.1 vwCl (b0, .inl (g.2.1 2, 1, .inr (.inl f))) H1 := by
  have lt : b0 < H.size := (Array.getElem?_eq_some_iff.mp (show H[b0]? = some _ from ob)).1
  show H1[b0]? = some _
  rw [hk b0 lt (fun q => q.elim (fun ⟨k, w⟩ => by rw [kb] at w; cases w) (fun w => by omega))]
  exact ob

set_option maxHeartbeats 4000000 in
set_option maxRecDepth 100000 in
theorem c_L_at_z (l : Launch) (hst : l.stackTraces = false) (g : Gx) (Ty : TyM) (G : Gh) (sz : Nat) (h0 b0 : Nat) (a0 : Int32) (a1 : Int32) (k_h0 : Ty h0 = some (21, 0)) (k_b0 : Ty b0 = none) (h20 : G.1 20 = 1) (h21 : G.1 21 = 0) (hp70 : G.2.1 (g.2.2 70) = P0) (hp71 : G.2.1 (g.2.2 71) = Z0) (hp72 : G.2.1 (g.2.2 72) = Z0) : vx_Met l yL_at (Cond.codeWith yL_at cL_at 5 (some .int) [(0, 10, 13, 13)] :: GW) ({ frames := 8, cells := 1, slots := 6, locals := 150 }) (PcY g Ty G sz b0 [.ref h0, .int a0, .int a1, .ref b0]) (QwY g Ty G sz b0 (fun r f => (okA a0 a1 ∧ r = 0 ∧ f 0 = (24 : Int32).toInt64) ∨ (¬ (okA a0 a1) ∧ r = 1))) (fun _ _ _ => False) 1 6 (fun q => AF Ty sz q ∨ q = b0) := by
  refine vx_ofWH (cc := cL_at) (maxL := 5) (ret := (some .int)) (hh := [(0, 10, 13, 13)]) (by decide) rfl ?_
  intro p e s m args below meth c s₁ B hml hv
  obtain ⟨rfl, hsz, hK, hH, hO, fb, ob⟩ := hv
  subst hsz
  have hx := B.exec
  have hb := B.bytes
  have hr := B.returns
  have hts := atoms_spec (ws := (Cond.codeWith yL_at cL_at 5 (some .int) [(0, 10, 13, 13)] :: GW)) B.pre
  have hG : ∀ w ∈ GW, w.before ([.ref h0, .int a0, .int a1, .ref b0] : List Value).toArray s = true := fun w h => hts w (List.mem_cons_of_mem _ h)
  have htab := vx_table (x := yL_at) B (hts _ List.mem_cons_self)
  have hown : s.vm.findClass "MountPeersLaw" = some m.cls := findClass_of_methodNamed B.named
  have hlocks := B.notSynchronized
  have hl := lv_entry [.ref h0, .int a0, .int a1, .ref b0] (n := 5) (Nat.le_of_ble_eq_true rfl)
  rw [lg_entry_eq]
  generalize (lg_sl [.ref h0, .int a0, .int a1, .ref b0] ++ List.replicate (5 - (lg_sl [.ref h0, .int a0, .int a1, .ref b0]).length) Slot.unset).toArray = ls at hl ⊢
  have hl : lv_has ls 5 [(0, .ref h0), (1, .int a0), (2, .int a1), (3, .ref b0)] := hl
  have hS : va_S (fun q => AF Ty s.heap.size q ∨ q = b0) s.heap s.heap [] := va_S.rf
  refine lv_aload_n hx hb dL_at_0 rfl (lv_at hl 3 rfl) ?_
  refine lv_iconst hx hb dL_at_1 rfl ?_
  refine lv_aload_n hx hb dL_at_2 rfl (lv_at hl 0 rfl) ?_
  refine lv_iload_n hx hb dL_at_3 rfl (lv_at hl 1 rfl) ?_
  refine lv_iload_n hx hb dL_at_4 rfl (lv_at hl 2 rfl) ?_
  obtain ⟨_, ⟨rfl, kq_2, -⟩, o_c_1⟩ := hH h0 _ k_h0
  refine vx_calli (vx_runV (As := [.int a0, .int a1]) (rest := [.int 0, .ref b0]) ⟨hx, hb, hml, hown, hts⟩ (c_X11_at_z l hst g Ty G s.heap.size h0 a0 a1 k_h0 h20 h21 hp70 hp71 hp72) (cwV 2 hts (gwV mw_1261 mw_1262 mw_1263 mw_76 mw_1264) rfl rfl rfl hv_X11_at ⟨Nat.le_of_ble_eq_true rfl, Nat.le_of_ble_eq_true rfl⟩) ⟨PcX_blind, hg_recv hK o_c_1 rfl, PcX_pre hK hH hO va_S.rf⟩ rfl rfl hl.1 rfl (lv_room (Nat.le_of_ble_eq_true rfl)) dL_at_5 ⟨Nat.le_refl _, Nat.le_refl _⟩) hS (fun q _ h => Or.inl h) (fun q h => Or.inl h) (fun q _ h => Or.inl h) (fun E ce q9 u t H locs ht hvm hpx hBX hz hk hS hcell hcv hcl => ?_) (fun x_21 ux_21 t H locs ht hvm hx_21 hB hz hk hS => ?_)
  · obtain ⟨rfl, hH⟩ := hBX
    rw [ht] at hH
    have ob := ob_kept k_b0 rfl ob hk
    refine vx_catch hown [] _ [] htab (fun z q => nomatch q) rfl (by decide) (hG _ mw_1186) (cast_of (hG _ mw_1192)) hcell hcv hcl ?_
    refine lv_astore (lv' := [(4, .ref q9), (0, .ref h0), (1, .int a0), (2, .int a1), (3, .ref b0)]) hx hb dL_at_13 hl (by decide) rfl (fun ls hl => ?_)
    refine lv_iconst hx hb dL_at_15 rfl ?_
    exact vx_ret (W.iret hx hb hr (fun t ht hWm => ⟨⟨1, (Ty, G, fb), rfl, ⟨rfl, rfl, Or.inr ⟨hpx, rfl⟩⟩, ⟨by show HT g Ty G t.heap; rw [ht]; exact hH, by rw [ht]; exact ob⟩⟩, hS.F ht⟩) hS.2.2 dL_at_16)
  · have hH : HT g Ty G H := by rw [← ht]; rw [hx_21.1] at hB; exact hB
    have ob := ob_kept k_b0 rfl ob hk
    refine lv_i2l hx hb dL_at_8 rfl ?_
    refine hg_last hx hb hK hS ob (Or.inr rfl) (rg_in (n := 1) (rl_0) (by decide) (by decide)) dL_at_9 (fun H2 locs o_b hz oq hS => ?_)
    have hH : HT g Ty G H2 := hH.kept (fun q k hq => oq q (fun e => by rw [e, k_b0] at hq; cases hq))
    refine lv_goto (tgt := 17) hx hb dL_at_10 (by decide) ?_
    refine lv_iconst hx hb dL_at_17 rfl ?_
    exact vx_ret (W.iret hx hb hr (fun t ht hWm => ⟨⟨0, (Ty, G, vp_updL fb (Int32.toNatClampNeg 0) (Int32.toInt64 x_21)), rfl, ⟨rfl, rfl, Or.inl ⟨hx_21.2.1, rfl, (by show vp_updL fb (Int32.toNatClampNeg 0) (Int32.toInt64 _) 0 = _; rw [vpl_0 rfl, hx_21.2.2])⟩⟩, ⟨by show HT g Ty G t.heap; rw [ht]; exact hH, by rw [ht]; exact o_b⟩⟩, hS.F ht⟩) hS.2.2 dL_at_18)

set_option maxHeartbeats 4000000 in
set_option maxRecDepth 100000 in
theorem c_L_mount_z (l : Launch) (hst : l.stackTraces = false) (g : Gx) (Ty : TyM) (G : Gh) (sz : Nat) (h0 b0 : Nat) (a0 : Int32) (a1 : Int32) (k_h0 : Ty h0 = some (21, 0)) (k_b0 : Ty b0 = none) (h20 : G.1 20 = 1) (h21 : G.1 21 = 0) (hp70 : G.2.1 (g.2.2 70) = P0) (hp71 : G.2.1 (g.2.2 71) = Z0) (hp72 : G.2.1 (g.2.2 72) = Z0) : vx_Met l yL_mount (Cond.codeWith yL_mount cL_mount 5 (some .int) [(0, 10, 13, 13)] :: GW) ({ frames := 8, cells := 1, slots := 6, locals := 150 }) (PcY g Ty G sz b0 [.ref h0, .int a0, .int a1, .ref b0]) (QwY g Ty G sz b0 (fun r f => (okM a0 a1 ∧ r = 0 ∧ f 0 = (valM a1 : Int32).toInt64) ∨ (¬ (okM a0 a1) ∧ r = 1))) (fun _ _ _ => False) 1 6 (fun q => AF Ty sz q ∨ q = b0) := by
  refine vx_ofWH (cc := cL_mount) (maxL := 5) (ret := (some .int)) (hh := [(0, 10, 13, 13)]) (by decide) rfl ?_
  intro p e s m args below meth c s₁ B hml hv
  obtain ⟨rfl, hsz, hK, hH, hO, fb, ob⟩ := hv
  subst hsz
  have hx := B.exec
  have hb := B.bytes
  have hr := B.returns
  have hts := atoms_spec (ws := (Cond.codeWith yL_mount cL_mount 5 (some .int) [(0, 10, 13, 13)] :: GW)) B.pre
  have hG : ∀ w ∈ GW, w.before ([.ref h0, .int a0, .int a1, .ref b0] : List Value).toArray s = true := fun w h => hts w (List.mem_cons_of_mem _ h)
  have htab := vx_table (x := yL_mount) B (hts _ List.mem_cons_self)
  have hown : s.vm.findClass "MountPeersLaw" = some m.cls := findClass_of_methodNamed B.named
  have hlocks := B.notSynchronized
  have hl := lv_entry [.ref h0, .int a0, .int a1, .ref b0] (n := 5) (Nat.le_of_ble_eq_true rfl)
  rw [lg_entry_eq]
  generalize (lg_sl [.ref h0, .int a0, .int a1, .ref b0] ++ List.replicate (5 - (lg_sl [.ref h0, .int a0, .int a1, .ref b0]).length) Slot.unset).toArray = ls at hl ⊢
  have hl : lv_has ls 5 [(0, .ref h0), (1, .int a0), (2, .int a1), (3, .ref b0)] := hl
  have hS : va_S (fun q => AF Ty s.heap.size q ∨ q = b0) s.heap s.heap [] := va_S.rf
  refine lv_aload_n hx hb dL_mount_0 rfl (lv_at hl 3 rfl) ?_
  refine lv_iconst hx hb dL_mount_1 rfl ?_
  refine lv_aload_n hx hb dL_mount_2 rfl (lv_at hl 0 rfl) ?_
  refine lv_iload_n hx hb dL_mount_3 rfl (lv_at hl 1 rfl) ?_
  refine lv_iload_n hx hb dL_mount_4 rfl (lv_at hl 2 rfl) ?_
  obtain ⟨_, ⟨rfl, kq_2, -⟩, o_c_1⟩ := hH h0 _ k_h0
  refine vx_calli (vx_runV (As := [.int a0, .int a1]) (rest := [.int 0, .ref b0]) ⟨hx, hb, hml, hown, hts⟩ (c_X11_mount_z l hst g Ty G s.heap.size h0 a0 a1 k_h0 h20 h21 hp70 hp71 hp72) (cwV 2 hts (gwV mw_1187 mw_1188 mw_1189 mw_76 mw_1190) rfl rfl rfl hv_X11_mount ⟨Nat.le_of_ble_eq_true rfl, Nat.le_of_ble_eq_true rfl⟩) ⟨PcX_blind, hg_recv hK o_c_1 rfl, PcX_pre hK hH hO va_S.rf⟩ rfl rfl hl.1 rfl (lv_room (Nat.le_of_ble_eq_true rfl)) dL_mount_5 ⟨Nat.le_refl _, Nat.le_refl _⟩) hS (fun q _ h => Or.inl h) (fun q h => Or.inl h) (fun q _ h => Or.inl h) (fun E ce q9 u t H locs ht hvm hpx hBX hz hk hS hcell hcv hcl => ?_) (fun x_21 ux_21 t H locs ht hvm hx_21 hB hz hk hS => ?_)
  · obtain ⟨rfl, hH⟩ := hBX
    rw [ht] at hH
    have ob := ob_kept k_b0 rfl ob hk
    refine vx_catch hown [] _ [] htab (fun z q => nomatch q) rfl (by decide) (hG _ mw_1186) (cast_of (hG _ mw_1192)) hcell hcv hcl ?_
    refine lv_astore (lv' := [(4, .ref q9), (0, .ref h0), (1, .int a0), (2, .int a1), (3, .ref b0)]) hx hb dL_mount_13 hl (by decide) rfl (fun ls hl => ?_)
    refine lv_iconst hx hb dL_mount_15 rfl ?_
    exact vx_ret (W.iret hx hb hr (fun t ht hWm => ⟨⟨1, (Ty, G, fb), rfl, ⟨rfl, rfl, Or.inr ⟨hpx, rfl⟩⟩, ⟨by show HT g Ty G t.heap; rw [ht]; exact hH, by rw [ht]; exact ob⟩⟩, hS.F ht⟩) hS.2.2 dL_mount_16)
  · have hH : HT g Ty G H := by rw [← ht]; rw [hx_21.1] at hB; exact hB
    have ob := ob_kept k_b0 rfl ob hk
    refine lv_i2l hx hb dL_mount_8 rfl ?_
    refine hg_last hx hb hK hS ob (Or.inr rfl) (rg_in (n := 1) (rl_0) (by decide) (by decide)) dL_mount_9 (fun H2 locs o_b hz oq hS => ?_)
    have hH : HT g Ty G H2 := hH.kept (fun q k hq => oq q (fun e => by rw [e, k_b0] at hq; cases hq))
    refine lv_goto (tgt := 17) hx hb dL_mount_10 (by decide) ?_
    refine lv_iconst hx hb dL_mount_17 rfl ?_
    exact vx_ret (W.iret hx hb hr (fun t ht hWm => ⟨⟨0, (Ty, G, vp_updL fb (Int32.toNatClampNeg 0) (Int32.toInt64 x_21)), rfl, ⟨rfl, rfl, Or.inl ⟨hx_21.2.1, rfl, (by show vp_updL fb (Int32.toNatClampNeg 0) (Int32.toInt64 _) 0 = _; rw [vpl_0 rfl, hx_21.2.2])⟩⟩, ⟨by show HT g Ty G t.heap; rw [ht]; exact hH, by rw [ht]; exact o_b⟩⟩, hS.F ht⟩) hS.2.2 dL_mount_18)

set_option maxHeartbeats 4000000 in
set_option maxRecDepth 100000 in
theorem c_L_row_z (l : Launch) (hst : l.stackTraces = false) (g : Gx) (Ty : TyM) (G : Gh) (sz : Nat) (h0 b0 : Nat) (a0 : Int32) (k_h0 : Ty h0 = some (21, 0)) (k_b0 : Ty b0 = none) (h27 : G.1 27 = 0) : vx_Met l yL_row (Cond.codeWith yL_row cL_row 4 (some .int) [(0, 8, 11, 13)] :: GW) ({ frames := 8, cells := 1, slots := 6, locals := 150 }) (PcY g Ty G sz b0 [.ref h0, .int a0, .ref b0]) (QwY g Ty G sz b0 (fun r f => (False ∧ r = 0 ∧ f 0 = (0 : Int32).toInt64) ∨ (¬ (False) ∧ r = 1))) (fun _ _ _ => False) 1 6 (fun q => AF Ty sz q ∨ q = b0) := by
  refine vx_ofWH (cc := cL_row) (maxL := 4) (ret := (some .int)) (hh := [(0, 8, 11, 13)]) (by decide) rfl ?_
  intro p e s m args below meth c s₁ B hml hv
  obtain ⟨rfl, hsz, hK, hH, hO, fb, ob⟩ := hv
  subst hsz
  have hx := B.exec
  have hb := B.bytes
  have hr := B.returns
  have hts := atoms_spec (ws := (Cond.codeWith yL_row cL_row 4 (some .int) [(0, 8, 11, 13)] :: GW)) B.pre
  have hG : ∀ w ∈ GW, w.before ([.ref h0, .int a0, .ref b0] : List Value).toArray s = true := fun w h => hts w (List.mem_cons_of_mem _ h)
  have htab := vx_table (x := yL_row) B (hts _ List.mem_cons_self)
  have hown : s.vm.findClass "MountPeersLaw" = some m.cls := findClass_of_methodNamed B.named
  have hlocks := B.notSynchronized
  have hl := lv_entry [.ref h0, .int a0, .ref b0] (n := 4) (Nat.le_of_ble_eq_true rfl)
  rw [lg_entry_eq]
  generalize (lg_sl [.ref h0, .int a0, .ref b0] ++ List.replicate (4 - (lg_sl [.ref h0, .int a0, .ref b0]).length) Slot.unset).toArray = ls at hl ⊢
  have hl : lv_has ls 4 [(0, .ref h0), (1, .int a0), (2, .ref b0)] := hl
  have hS : va_S (fun q => AF Ty s.heap.size q ∨ q = b0) s.heap s.heap [] := va_S.rf
  refine lv_aload_n hx hb dL_row_0 rfl (lv_at hl 2 rfl) ?_
  refine lv_iconst hx hb dL_row_1 rfl ?_
  refine lv_aload_n hx hb dL_row_2 rfl (lv_at hl 0 rfl) ?_
  refine lv_iload_n hx hb dL_row_3 rfl (lv_at hl 1 rfl) ?_
  obtain ⟨_, ⟨rfl, kq_2, -⟩, o_c_1⟩ := hH h0 _ k_h0
  refine vx_calll (vx_runV (As := [.int a0]) (rest := [.int 0, .ref b0]) ⟨hx, hb, hml, hown, hts⟩ (c_X11_row_z l hst g Ty G s.heap.size h0 a0 k_h0 h27) (cwV 1 hts (gwV mw_1269 mw_1270 mw_1271 mw_76 mw_1272) rfl rfl rfl hv_X11_row ⟨Nat.le_of_ble_eq_true rfl, Nat.le_of_ble_eq_true rfl⟩) ⟨PcX_blind, hg_recv hK o_c_1 rfl, PcX_pre hK hH hO va_S.rf⟩ rfl rfl hl.1 rfl (lv_room (Nat.le_of_ble_eq_true rfl)) dL_row_4 ⟨Nat.le_refl _, Nat.le_refl _⟩) hS (fun q _ h => Or.inl h) (fun q h => Or.inl h) (fun q _ h => Or.inl h) (fun E ce q9 u t H locs ht hvm hpx hBX hz hk hS hcell hcv hcl => ?_) (fun x_21 ux_21 t H locs ht hvm hx_21 hB hz hk hS => ?_)
  · obtain ⟨rfl, hH⟩ := hBX
    rw [ht] at hH
    have ob := ob_kept k_b0 rfl ob hk
    refine vx_catch hown [] _ [] htab (fun z q => nomatch q) rfl (by decide) (hG _ mw_1186) (cast_of (hG _ mw_1192)) hcell hcv hcl ?_
    refine lv_astore_n (lv' := [(3, .ref q9), (0, .ref h0), (1, .int a0), (2, .ref b0)]) hx hb dL_row_11 rfl hl (by decide) rfl (fun ls hl => ?_)
    refine lv_iconst hx hb dL_row_12 rfl ?_
    exact vx_ret (W.iret hx hb hr (fun t ht hWm => ⟨⟨1, (Ty, G, fb), rfl, ⟨rfl, rfl, Or.inr ⟨id, rfl⟩⟩, ⟨by show HT g Ty G t.heap; rw [ht]; exact hH, by rw [ht]; exact ob⟩⟩, hS.F ht⟩) hS.2.2 dL_row_13)
  · exact hx_21.elim
