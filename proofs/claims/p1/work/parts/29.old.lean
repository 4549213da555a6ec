/-! ===== what was there ahead of the law and is never written: MOST_V, the letters of a rule ===== -/
def mvf (j : Nat) : Int32 := match j with
  | 1 => 9
  | 4 => 9
  | _ => 4
def ltf (j : Nat) : Int32 := match j with
  | 0 => 110
  | 1 => 107
  | 2 => 103
  | 3 => 105
  | 4 => 100
  | 5 => 119
  | _ => 113
def OC (g : Gx) (A : Nat → Prop) (U : State) (H : Heap) : Prop := va_Z "MountPeers$Guess" "MOST_V" "[I" (.ref (g.2.2 60)) A U H ∧ va_T .int (g.2.2 60) 5 (fun j => .int (mvf j)) A U H ∧ va_O "java/lang/String" (g.2.2 61) A U H ∧ va_OF "java/lang/String" "coder" "B" (.int 0) (g.2.2 61) A U H ∧ va_OF "java/lang/String" "value" "[B" (.ref (g.2.2 62)) (g.2.2 61) A U H ∧ va_T .byte (g.2.2 62) 7 (fun j => .int (ltf j)) A U H ∧ va_Z "java/lang/String" "COMPACT_STRINGS" "Z" (.int 1) A U H ∧ vk_R "MountPeers$Rule" 69 "nkgidwq" (g.2.2 61) U
theorem OC.kept {g : Gx} {A : Nat → Prop} {U : State} {H H1 : Heap} (h : OC g A U H) (hq : ∀ a : Nat, a < H.size → ¬ A a → H1[a]? = H[a]?) : OC g A U H1 := by
  obtain ⟨a, b, c, d, e, f, k, r⟩ := h
  exact ⟨a.kept hq, b.kept hq, c.kept hq, d.kept hq, e.kept hq, f.kept hq, k.kept hq, r⟩
theorem OC.warm {g : Gx} {A : Nat → Prop} {u U : State} {H : Heap} (hW : u.WarmedH U.vm) (h : OC g A u H) : OC g A U H := by
  obtain ⟨a, b, c, d, e, f, k, r⟩ := h
  exact ⟨a.moved hW.alike, b.moved hW.alike, c.moved hW.alike, d.moved hW.alike, e.moved hW.alike, f.moved hW.alike, k.moved hW.alike, r.warm hW⟩
theorem OC.same {g : Gx} {A : Nat → Prop} {u U : State} {H : Heap} (hv : u.vm = U.vm) (h : OC g A u H) : OC g A U H := by
  obtain ⟨a, b, c, d, e, f, k, r⟩ := h
  have q : u.vm.Alike U.vm := by rw [← hv]; exact Vm.Alike.refl u.vm
  exact ⟨a.moved q, b.moved q, c.moved q, d.moved q, e.moved q, f.moved q, k.moved q, r.same hv.symm⟩
theorem OC.narrow {g : Gx} {A B : Nat → Prop} {U : State} {H : Heap} (h : OC g A U H) (hAB : ∀ q, B q → A q) : OC g B U H := by
  obtain ⟨a, b, c, d, e, f, k, r⟩ := h
  exact ⟨a.narrow hAB, b.narrow hAB, c.narrow hAB, d.narrow hAB, e.narrow hAB, f.narrow hAB, k.narrow hAB, r⟩
/-- the start of a method that looks at old cells alone -/
def PcB (g : Gx) (A : Nat → Prop) (av : List Value) : Array Value → State → Prop := fun v U => v = av.toArray ∧ KK g U ∧ OC g A U U.heap
theorem PcB_blind {g : Gx} {A : Nat → Prop} {av : List Value} : FrameBlind (PcB g A av) := fun a U f mk q => ⟨q.1, KK.same (u := U) (U := U.calling f mk a) rfl q.2.1, OC.same (u := U) (U := U.calling f mk a) rfl q.2.2⟩
theorem PcB_pre {g : Gx} {A : Nat → Prop} {s : State} {H : Heap} {locs : List Loc} {av : List Value} (hK : KK g s) (hO : OC g A s s.heap) (hS : va_S A s.heap H locs) : ∀ U : State, U.heap = H → s.WarmedH U.vm → PcB g A av av.toArray U := fun U hU hW => ⟨rfl, KK.warm hW hK, by rw [hU]; exact (hO.kept hS.2.1).warm hW⟩
theorem OC_recv {g : Gx} {A : Nat → Prop} {s : State} {H : Heap} {locs : List Loc} (hO : OC g A s s.heap) (hS : va_S A s.heap H locs) : ∃ cell : Cell, H[g.2.2 61]? = some cell ∧ cell.vm.isStatics = false ∧ s.vm.findClass "java/lang/String" = some cell.cls := by
  obtain ⟨cell, h1, h2, h3, -⟩ := hO.2.2.1.kept hS.2.1
  exact ⟨cell, h1, h2, h3⟩
/-- a method's start over a typed heap and old cells -/
def PcO (g : Gx) (Ty : TyM) (G : Gh) (sz : Nat) (av : List Value) : Array Value → State → Prop := fun v U => v = av.toArray ∧ U.heap.size = sz ∧ KK g U ∧ HT g Ty G U.heap ∧ OC g (AF Ty sz) U U.heap
theorem PcO_blind {g : Gx} {Ty : TyM} {G : Gh} {sz : Nat} {av : List Value} : FrameBlind (PcO g Ty G sz av) := fun a U f mk q => by
  obtain ⟨q0, q1, qK, qH, qO⟩ := q
  exact ⟨q0, q1, KK.same (u := U) (U := U.calling f mk a) rfl qK, qH, OC.same (u := U) (U := U.calling f mk a) rfl qO⟩
theorem PcO_pre {g : Gx} {Ty : TyM} {G : Gh} {s : State} {H : Heap} {locs : List Loc} {av : List Value} (hK : KK g s) (hH : HT g Ty G H) (hO : OC g (AF Ty s.heap.size) s s.heap) (hS : va_S (AF Ty s.heap.size) s.heap H locs) : ∀ U : State, U.heap = H → s.WarmedH U.vm → PcO g Ty G H.size av av.toArray U := fun U hU hW => ⟨rfl, by rw [hU], KK.warm hW hK, by rw [hU]; exact hH, by rw [hU]; exact ((hO.kept hS.2.1).warm hW).narrow (fun q h => AF.mono hS.1 h)⟩
theorem mv_rng (j : Nat) : rgI 4 9 (mvf j) := by
  unfold mvf
  split <;> exact ⟨by decide, by decide⟩
theorem rw0 {g : Gx} {G G1 G2 : Gh} (e1 : G1 = gset G 5 0) (e2 : G2 = gset G1 6 0) : RW g G2 ∧ (G2.1 5).toInt ≤ (0 : Int32).toInt ∧ RLx g G G2 := by
  have h5 : G2.1 5 = 0 := by rw [e2, gs_ne (by decide), e1]; exact gs_eq
  have h6 : G2.1 6 = 0 := by rw [e2]; exact gs_eq
  refine ⟨⟨by rw [h5]; exact ⟨by decide, by decide⟩, by rw [h6]; exact ⟨by decide, by decide⟩, ?_⟩, by rw [h5]; exact Int.le_refl _, RLx.tr (B := G1) (by rw [e1]; exact RLx.g5) (by rw [e2]; exact RLx.g6)⟩
  rw [h6]
  exact Int.natCast_nonneg _
theorem RelR.fr {g : Gx} {G G' : Gh} {a : Int32} (h : RelR g G G' a) : RLx g G G' := by
  obtain ⟨w, -, -, e, -⟩ := h
  rw [e]; exact RLx.g5
