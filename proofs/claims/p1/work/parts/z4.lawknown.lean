theorem tbt1 {w : Cond} (i : Nat) (h : tables_1_1[i]? = some w) : w ∈ lw_tbl := List.mem_append_right _ (List.mem_append_left _ (List.mem_of_getElem? h))
theorem tbt2 {w : Cond} (i : Nat) (h : tables_1_2[i]? = some w) : w ∈ lw_tbl := List.mem_append_right _ (List.mem_append_right _ (List.mem_append_left _ (List.mem_of_getElem? h)))
theorem tbt3 {w : Cond} (i : Nat) (h : tables_1_3[i]? = some w) : w ∈ lw_tbl := List.mem_append_right _ (List.mem_append_right _ (List.mem_append_right _ (List.mem_append_left _ (List.mem_of_getElem? h))))
theorem tbt4 {w : Cond} (i : Nat) (h : tables_1_4[i]? = some w) : w ∈ lw_tbl := List.mem_append_right _ (List.mem_append_right _ (List.mem_append_right _ (List.mem_append_right _ (List.mem_append_left _ (List.mem_of_getElem? h)))))
theorem tbt5 {w : Cond} (i : Nat) (h : tables_1_5[i]? = some w) : w ∈ lw_tbl := List.mem_append_right _ (List.mem_append_right _ (List.mem_append_right _ (List.mem_append_right _ (List.mem_append_right _ (List.mem_append_left _ (List.mem_of_getElem? h))))))
theorem tbt6 {w : Cond} (i : Nat) (h : tables_1_6[i]? = some w) : w ∈ lw_tbl := List.mem_append_right _ (List.mem_append_right _ (List.mem_append_right _ (List.mem_append_right _ (List.mem_append_right _ (List.mem_append_right _ (List.mem_append_left _ (List.mem_of_getElem? h)))))))
theorem tbt7 {w : Cond} (i : Nat) (h : tables_1_7[i]? = some w) : w ∈ lw_tbl := List.mem_append_right _ (List.mem_append_right _ (List.mem_append_right _ (List.mem_append_right _ (List.mem_append_right _ (List.mem_append_right _ (List.mem_append_right _ (List.mem_append_left _ (List.mem_of_getElem? h))))))))
theorem tbt8 {w : Cond} (i : Nat) (h : tables_1_8[i]? = some w) : w ∈ lw_tbl := List.mem_append_right _ (List.mem_append_right _ (List.mem_append_right _ (List.mem_append_right _ (List.mem_append_right _ (List.mem_append_right _ (List.mem_append_right _ (List.mem_append_right _ (List.mem_of_getElem? h))))))))
/-- where the law's cells lie, from the first one on -/
def layC (i : Nat) : Nat := match i with
  | 0 => 1
  | 1 => 5
  | 2 => 9
  | 3 => 11
  | 4 => 12
  | 5 => 14
  | 6 => 16
  | 7 => 21
  | 8 => 26
  | 9 => 28
  | 10 => 29
  | 11 => 30
  | 12 => 34
  | 13 => 38
  | 19 => 0
  | 20 => 40
  | 51 => 23
  | 52 => 35
  | 53 => 36
  | 54 => 37
  | 70 => 2
  | 71 => 3
  | 72 => 4
  | 73 => 27
  | 74 => 33
  | 100 => 41
  | 101 => 42
  | 103 => 43
  | 111 => 44
  | 112 => 45
  | 115 => 46
  | 116 => 47
  | 121 => 48
  | 123 => 49
  | 124 => 50
  | 125 => 51
  | 126 => 52
  | 129 => 53
  | 130 => 54
  | 131 => 55
  | 132 => 56
  | 134 => 57
  | 135 => 58
  | 136 => 59
  | 138 => 60
  | 140 => 61
  | 141 => 62
  | _ => 0
def layF (N ta sa va i : Nat) : Nat := if i = 60 then ta else if i = 61 then sa else if i = 62 then va else N + layC i
theorem layF_hi {N ta sa va i : Nat} (h : 62 < i) : layF N ta sa va i = N + layC i := by unfold layF; rw [if_neg (by omega), if_neg (by omega), if_neg (by omega)]
theorem layF_lo {N ta sa va i : Nat} (h : i < 60) : layF N ta sa va i = N + layC i := by unfold layF; rw [if_neg (by omega), if_neg (by omega), if_neg (by omega)]
theorem lay_LD {D : va_G} {AC : Nat → ClassId} {N ta sa va : Nat} : LD (D, AC, layF N ta sa va) := fun i hi j hj hij e => by
  have h1 : ∀ i ∈ ([100, 101, 103, 115, 116, 121, 123, 124, 125, 126, 129, 130, 131, 132, 134, 135, 136, 138, 140, 141, 111, 112] : List Nat), 62 < i := by decide
  have h2 : ∀ i ∈ ([100, 101, 103, 115, 116, 121, 123, 124, 125, 126, 129, 130, 131, 132, 134, 135, 136, 138, 140, 141, 111, 112] : List Nat), ∀ j ∈ ([100, 101, 103, 115, 116, 121, 123, 124, 125, 126, 129, 130, 131, 132, 134, 135, 136, 138, 140, 141, 111, 112] : List Nat), i ≠ j → layC i ≠ layC j := by decide +kernel
  have e : layF N ta sa va i = layF N ta sa va j := e
  rw [layF_hi (h1 i hi), layF_hi (h1 j hj)] at e
  exact h2 i hi j hj hij (Nat.add_left_cancel e)
theorem lay_51 {D : va_G} {AC : Nat → ClassId} {N ta sa va : Nat} : L51 (D, AC, layF N ta sa va) := by
  have k : ∀ i : Nat, 62 < i → layC i ≠ 23 → layF N ta sa va i ≠ layF N ta sa va 51 := fun i hi hc e => by
    rw [layF_hi hi, layF_lo (by decide)] at e
    exact hc (Nat.add_left_cancel e)
  exact ⟨k 100 (by decide) (by decide), k 121 (by decide) (by decide), k 140 (by decide) (by decide), k 141 (by decide) (by decide)⟩
theorem lay_LD1 {D : va_G} {AC : Nat → ClassId} {N ta sa va : Nat} : LD1 (D, AC, layF N ta sa va) := fun i hi j hj hij e => by
  have h1 : ∀ i ∈ ([51, 52, 53, 54, 70, 71, 72, 73, 74, 100, 101, 103, 115, 116, 121, 123, 124, 125, 126, 129, 130, 131, 132, 134, 135, 136, 138, 140, 141, 111, 112] : List Nat), i ≠ 60 ∧ i ≠ 61 ∧ i ≠ 62 := by decide
  have h2 : ∀ i ∈ ([51, 52, 53, 54, 70, 71, 72, 73, 74, 100, 101, 103, 115, 116, 121, 123, 124, 125, 126, 129, 130, 131, 132, 134, 135, 136, 138, 140, 141, 111, 112] : List Nat), ∀ j ∈ ([51, 52, 53, 54, 70, 71, 72, 73, 74, 100, 101, 103, 115, 116, 121, 123, 124, 125, 126, 129, 130, 131, 132, 134, 135, 136, 138, 140, 141, 111, 112] : List Nat), i ≠ j → layC i ≠ layC j := by decide +kernel
  have q : ∀ i : Nat, i ≠ 60 ∧ i ≠ 61 ∧ i ≠ 62 → layF N ta sa va i = N + layC i := fun i h => by unfold layF; rw [if_neg h.1, if_neg h.2.1, if_neg h.2.2]
  have e : layF N ta sa va i = layF N ta sa va j := e
  rw [q i (h1 i hi), q j (h1 j hj)] at e
  exact h2 i hi j hj hij (Nat.add_left_cancel e)
def G00 (N : Nat) : Gh := (fun i => if i = 20 then 1 else if i = 23 then 1 else 0, fun a => if a = N + 41 then nowF else if a = N + 2 then P0 else fun _ => 0, fun i => if i = 111 then some (N + 41 + 3) else if i = 112 then some (N + 41 + 4) else none)
theorem G00_0 {N a : Nat} (h : a ≠ N + 41 ∧ a ≠ N + 2) : (G00 N).2.1 a = fun _ => 0 := by show (if a = N + 41 then nowF else if a = N + 2 then P0 else fun _ => 0) = _; rw [if_neg h.1, if_neg h.2]
theorem G00_n {N : Nat} : (G00 N).2.1 (N + 41) = nowF := by show (if N + 41 = N + 41 then nowF else if N + 41 = N + 2 then P0 else fun _ => 0) = _; rw [if_pos rfl]
theorem G00_p {N a : Nat} (h : a = N + 2) : (G00 N).2.1 a = P0 := by show (if a = N + 41 then nowF else if a = N + 2 then P0 else fun _ => 0) = _; rw [if_neg (by omega), if_pos h]
theorem G00_OI {D : va_G} {AC : Nat → ClassId} {N ta sa va : Nat} : OI (D, AC, layF N ta sa va) 1 (G00 N) := by
  have z : ∀ h : Int, 0 ≤ h → rgI 0 h (0 : Int32) := fun h hh => ⟨by decide, by show (0 : Int) ≤ h; exact hh⟩
  refine ⟨z 80 (by decide), z 32 (by decide), z 40 (by decide), z 12 (by decide), z 12 (by decide), z 10 (by decide), rfl, rfl, ?_, fun i hi => ?_, fun i _ hi => ?_⟩
  · show TI 1 ((G00 N).2.1 (layF N ta sa va 100))
    rw [layF_hi (by decide), show N + layC 100 = N + 41 from rfl, G00_n]
    exact now_ti
  · exact absurd hi (by show ¬ ((i : Int) < 0); omega)
  · exact absurd (by show (G00 N).2.1 (layF N ta sa va 141) i = 0; rw [layF_hi (by decide), G00_0 (by show N + 62 ≠ N + 41 ∧ N + 62 ≠ N + 2; omega)]) hi
theorem G00_EQ {D : va_G} {AC : Nat → ClassId} {N ta sa va : Nat} : EQ5 (D, AC, layF N ta sa va) (G00 N) := by
  have r : ∀ i, (G00 N).2.1 (layF N ta sa va 141) i = 0 := fun i => by rw [layF_hi (by decide), G00_0 (by show N + 62 ≠ N + 41 ∧ N + 62 ≠ N + 2; omega)]
  have u : ¬ (0 : Int32) = 1 := by decide
  exact ⟨rfl, rfl, rfl, ⟨fun h => absurd h u, fun h => absurd (r 0) h⟩, ⟨fun h => absurd h u, fun h => absurd (r 1) h⟩⟩
theorem lay_LE {D : va_G} {AC : Nat → ClassId} {N ta sa va : Nat} : LE (D, AC, layF N ta sa va) := by
  have q : ∀ i j : Nat, i ≠ 60 → i ≠ 61 → i ≠ 62 → j ≠ 60 → j ≠ 61 → j ≠ 62 → layC i ≠ layC j → layF N ta sa va i ≠ layF N ta sa va j := fun i j a b c a2 b2 c2 h e => by
    unfold layF at e
    rw [if_neg a, if_neg b, if_neg c, if_neg a2, if_neg b2, if_neg c2] at e
    exact h (Nat.add_left_cancel e)
  have h1 : ∀ i ∈ ([52, 53, 54] : List Nat), ∀ j ∈ ([100, 101, 103, 115, 116, 121, 123, 124, 125, 126, 129, 130, 131, 132, 134, 135, 136, 138, 140, 141, 111, 112, 51] : List Nat), i ≠ 60 ∧ i ≠ 61 ∧ i ≠ 62 ∧ j ≠ 60 ∧ j ≠ 61 ∧ j ≠ 62 ∧ layC i ≠ layC j := by decide +kernel
  refine ⟨fun i hi j hj => ?_, q 52 53 (by decide) (by decide) (by decide) (by decide) (by decide) (by decide) (by decide), q 52 54 (by decide) (by decide) (by decide) (by decide) (by decide) (by decide) (by decide), q 53 54 (by decide) (by decide) (by decide) (by decide) (by decide) (by decide) (by decide), q 134 51 (by decide) (by decide) (by decide) (by decide) (by decide) (by decide) (by decide), q 135 51 (by decide) (by decide) (by decide) (by decide) (by decide) (by decide) (by decide), q 136 51 (by decide) (by decide) (by decide) (by decide) (by decide) (by decide) (by decide)⟩
  obtain ⟨a, b, c, a2, b2, c2, h⟩ := h1 i hi j hj
  exact q i j a b c a2 b2 c2 h
theorem G00_RW {D : va_G} {AC : Nat → ClassId} {N ta sa va : Nat} : RW3 (D, AC, layF N ta sa va) (G00 N) := by
  have z : ∀ i, i ≠ 60 → i ≠ 61 → i ≠ 62 → (layC i ≠ 41 ∧ layC i ≠ 2) → (G00 N).2.1 (layF N ta sa va i) = fun _ => 0 := fun i a b c h => by
    have e : layF N ta sa va i = N + layC i := by unfold layF; rw [if_neg a, if_neg b, if_neg c]
    rw [e]
    exact G00_0 (by omega)
  exact ⟨(z 52 (by decide) (by decide) (by decide) (by decide)).trans (z 134 (by decide) (by decide) (by decide) (by decide)).symm, (z 53 (by decide) (by decide) (by decide) (by decide)).trans (z 135 (by decide) (by decide) (by decide) (by decide)).symm, (z 54 (by decide) (by decide) (by decide) (by decide)).trans (z 136 (by decide) (by decide) (by decide) (by decide)).symm⟩
theorem G00_FS {D : va_G} {AC : Nat → ClassId} {N ta sa va : Nat} : FS (D, AC, layF N ta sa va) (G00 N) := by
  have z : ∀ i, i ≠ 60 → i ≠ 61 → i ≠ 62 → (layC i ≠ 41 ∧ layC i ≠ 2) → (G00 N).2.1 (layF N ta sa va i) = fun _ => 0 := fun i a b c h => by
    have e : layF N ta sa va i = N + layC i := by unfold layF; rw [if_neg a, if_neg b, if_neg c]
    rw [e]
    exact G00_0 (by omega)
  have e70 : layF N ta sa va 70 = N + 2 := layF_hi (by decide)
  have e100 : layF N ta sa va 100 = N + 41 := layF_hi (by decide)
  refine ⟨⟨?_, z 71 (by decide) (by decide) (by decide) (by decide), z 72 (by decide) (by decide) (by decide) (by decide), z 73 (by decide) (by decide) (by decide) (by decide), z 74 (by decide) (by decide) (by decide) (by decide)⟩, fun i hi => ?_, rfl, rfl, ?_, fun i hi => ?_⟩
  · show (G00 N).2.1 (layF N ta sa va 70) = P0
    rw [e70]
    exact G00_p rfl
  · have h : ∀ i ∈ ([0, 1, 2, 3, 4, 21, 22, 24, 25, 26, 27, 28, 102, 104, 105, 113, 122, 127, 133, 137, 139] : List Nat), i ≠ 20 ∧ i ≠ 23 := by decide
    show (if i = 20 then (1 : Int32) else if i = 23 then 1 else 0) = 0
    rw [if_neg (h i hi).1, if_neg (h i hi).2]
  · show (G00 N).2.1 (layF N ta sa va 100) = nowF
    rw [e100]
    exact G00_n
  · have h : ∀ i ∈ ([111, 124, 125, 126] : List Nat), i ≠ 60 ∧ i ≠ 61 ∧ i ≠ 62 ∧ (layC i ≠ 41 ∧ layC i ≠ 2) := by decide +kernel
    obtain ⟨a, b, c, d⟩ := h i hi
    exact z i a b c d
theorem nwf_in : ∀ q ∈ NWf, Cond.fieldLinkNest q.1 q.2.1 q.2.2.1 q.2.2.2.1 q.2.2.2.2.1 q.2.2.2.2.2 ∈ lw_tbl := by decide +kernel
theorem nwm_in : ∀ q ∈ NWm, Cond.methodLinkNest q.1 q.2.1 q.2.2.1 q.2.2.2 ∈ lw_tbl := by decide +kernel
section LKn
variable {s : State} {b : Nat}
theorem arr_of {ty : FieldType} {args : Array Value} (h : (Cond.arrayClass ty).before args s = true) : ∃ cA : ClassId, ArrOfT s cA ty ∧ s.vm.findClass ("[" ++ ty.toString) = some cA := by
  obtain ⟨cA, kA, comp, h1, h2, h3⟩ := Cond.arrayClass_spec h
  exact ⟨cA, fun n z => ⟨fun k h => (by cases h), kA, h2, comp, h3⟩, h1⟩
theorem law_known (hts : ∀ w ∈ lw_tbl, w.before #[Value.ref b] s = true) : ∃ (D : va_G) (AC : Nat → ClassId), ∀ f : Nat → Nat, KK (D, AC, f) s := by
  have hG : ∀ w ∈ GW, w.before #[Value.ref b] s = true := fun w h => hts _ (List.mem_filter.mp h).1
  obtain ⟨c0, i0, hk0⟩ := u_known (C := RX0) (T := TX0) (N := 3) (n := 3) hG igX0 (hG _ mw_234)
  obtain ⟨c1, i1, hk1⟩ := u_known (C := RX1) (T := TX1) (N := 3) (n := 3) hG igX1 (hG _ mw_340)
  obtain ⟨c2, i2, hk2⟩ := u_known (C := RX2) (T := TX2) (N := 5) (n := 5) hG igX2 (hG _ mw_267)
  obtain ⟨c3, i3, hk3⟩ := u_known (C := RX3) (T := TX3) (N := 6) (n := 6) hG igX3 (hG _ mw_289)
  obtain ⟨c4, i4, hk4⟩ := u_known (C := RX4) (T := TX4) (N := 3) (n := 3) hG igX4 (hG _ mw_147)
  obtain ⟨c5, i5, hk5⟩ := u_known (C := RX5) (T := TX5) (N := 5) (n := 5) hG igX5 (hG _ mw_316)
  obtain ⟨c6, i6, hk6⟩ := u_known (C := RX6) (T := TX6) (N := 2) (n := 2) hG igX6 (hG _ mw_250)
  obtain ⟨c7, i7, hk7⟩ := u_known (C := RX7) (T := TX7) (N := 2) (n := 2) hG igX7 (hG _ mw_182)
  obtain ⟨c8, i8, hk8⟩ := u_known (C := RX8) (T := TX8) (N := 10) (n := 10) hG igX8 (hG _ mw_197)
  obtain ⟨c9, i9, hk9⟩ := u_known (C := RX9) (T := TX9) (N := 2) (n := 2) hG igX9 (hG _ mw_166)
  obtain ⟨c10, i10, hk10⟩ := u_known (C := RX10) (T := TX10) (N := 7) (n := 7) hG igX10 (hG _ mw_110)
  obtain ⟨c11, i11, hk11⟩ := u_known (C := RX11) (T := TX11) (N := 15) (n := 15) hG igX11 (hG _ mw_102)
  obtain ⟨c12, i12, hk12⟩ := u_known (C := RX12) (T := TX12) (N := 42) (n := 42) hG igX12 (hG _ mw_1279)
  obtain ⟨a0, ha0, hb0⟩ := arr_of (hG _ mw_564)
  obtain ⟨a1, ha1, hb1⟩ := arr_of (hG _ mw_145)
  obtain ⟨a2, ha2, hb2⟩ := arr_of (hG _ mw_195)
  obtain ⟨a3, ha3, hb3⟩ := arr_of (hG _ mw_1411)
  obtain ⟨comp, a4, k4, q1, q2, q3, q4, q5⟩ := Cond.arrayOver_spec (n := "MountPeers$Tree") (hts _ (tbt1 78 (by decide +kernel)))
  refine ⟨(fun k => match k with | 0 => c0 | 1 => c1 | 2 => c2 | 3 => c3 | 4 => c4 | 5 => c5 | 6 => c6 | 7 => c7 | 8 => c8 | 9 => c9 | 10 => c10 | 11 => c11 | _ => c12, fun k => match k with | 0 => i0 | 1 => i1 | 2 => i2 | 3 => i3 | 4 => i4 | 5 => i5 | 6 => i6 | 7 => i7 | 8 => i8 | 9 => i9 | 10 => i10 | 11 => i11 | _ => i12), (fun k => match k with | 0 => a0 | 1 => a1 | 2 => a2 | 3 => a3 | _ => a4), fun f => ⟨⟨fun k q hq => ?_, fun k q hq => ?_⟩, fun q hq => va_Nw.of rfl (hts _ (nwf_in q hq)), fun q hq => va_Nw.of rfl (hts _ (nwm_in q hq))⟩⟩
  · match k, hq with
    | 0, hq => cases hq; exact hk0
    | 1, hq => cases hq; exact hk1
    | 2, hq => cases hq; exact hk2
    | 3, hq => cases hq; exact hk3
    | 4, hq => cases hq; exact hk4
    | 5, hq => cases hq; exact hk5
    | 6, hq => cases hq; exact hk6
    | 7, hq => cases hq; exact hk7
    | 8, hq => cases hq; exact hk8
    | 9, hq => cases hq; exact hk9
    | 10, hq => cases hq; exact hk10
    | 11, hq => cases hq; exact hk11
    | 12, hq => cases hq; exact hk12
    | k + 13, hq => simp at hq
  · match k, hq with
    | 0, hq => cases hq; exact ⟨ha0, hb0⟩
    | 1, hq => cases hq; exact ⟨ha1, hb1⟩
    | 2, hq => cases hq; exact ⟨ha2, hb2⟩
    | 3, hq => cases hq; exact ⟨ha3, hb3⟩
    | 4, hq => cases hq; exact ⟨fun n z => ⟨fun k h => (by cases h), k4, q3, comp, q4⟩, k4, comp, q3, q4, q1, q5⟩
    | k + 5, hq => simp at hq
theorem law_old (hts : ∀ w ∈ lw_tbl, w.before #[Value.ref b] s = true) (hgv : (Jvm.Cond.and given_1 narrow_1).before #[Value.ref b] s = true) : ∃ ta sa va : Nat, ∀ (D : va_G) (AC : Nat → ClassId) (N : Nat), OC (D, AC, layF N ta sa va) (fun q => s.heap.size ≤ q) s s.heap := by
  have hq := flat_of_before _ hgv
  have hG : ∀ w ∈ GW, w.before #[Value.ref b] s = true := fun w h => hts _ (List.mem_filter.mp h).1
  have hA : ∀ a : Nat, a < s.heap.size → ¬ (fun q : Nat => s.heap.size ≤ q) a := fun a h => Nat.not_le.mpr h
  have m0 := va_eqt (t := Term.elem (Term.static "MountPeers$Guess" "MOST_V" "[I") (.int 0)) (z := 4) (hq _ (by decide +kernel))
  have m1 := va_eqt (t := Term.elem (Term.static "MountPeers$Guess" "MOST_V" "[I") (.int 1)) (z := 9) (hq _ (by decide +kernel))
  have m2 := va_eqt (t := Term.elem (Term.static "MountPeers$Guess" "MOST_V" "[I") (.int 2)) (z := 4) (hq _ (by decide +kernel))
  have m3 := va_eqt (t := Term.elem (Term.static "MountPeers$Guess" "MOST_V" "[I") (.int 3)) (z := 4) (hq _ (by decide +kernel))
  have m4 := va_eqt (t := Term.elem (Term.static "MountPeers$Guess" "MOST_V" "[I") (.int 4)) (z := 9) (hq _ (by decide +kernel))
  obtain ⟨ta, hta, hTa⟩ := va_Tof (N := 5) (f := fun j => .int (mvf j)) (A := fun q : Nat => s.heap.size ≤ q) (tm := (Term.static "MountPeers$Guess" "MOST_V" "[I")) (ty := .int) (by decide) (hq _ (by decide +kernel)) (va_eqt (t := Term.length (Term.static "MountPeers$Guess" "MOST_V" "[I")) (z := 5) (hq _ (by decide +kernel))) (fun j hj => by
    match j, hj with
    | 0, _ => exact m0
    | 1, _ => exact m1
    | 2, _ => exact m2
    | 3, _ => exact m3
    | 4, _ => exact m4
    | j + 5, h => exact absurd h (by omega)) hA
  have hex : (Cond.exactly (Term.string "MountPeers$Rule" 69) "java/lang/String").before #[Value.ref b] s = true := hq _ (by decide +kernel)
  obtain ⟨sa, _, _, _, hsa, -⟩ := Cond.exactly_spec hex
  have n0 := va_eqt (t := Term.elem (Term.field (Term.string "MountPeers$Rule" 69) "java/lang/String" "value" "[B") (.int 0)) (z := 110) (hq _ (by decide +kernel))
  have n1 := va_eqt (t := Term.elem (Term.field (Term.string "MountPeers$Rule" 69) "java/lang/String" "value" "[B") (.int 1)) (z := 107) (hq _ (by decide +kernel))
  have n2 := va_eqt (t := Term.elem (Term.field (Term.string "MountPeers$Rule" 69) "java/lang/String" "value" "[B") (.int 2)) (z := 103) (hq _ (by decide +kernel))
  have n3 := va_eqt (t := Term.elem (Term.field (Term.string "MountPeers$Rule" 69) "java/lang/String" "value" "[B") (.int 3)) (z := 105) (hq _ (by decide +kernel))
  have n4 := va_eqt (t := Term.elem (Term.field (Term.string "MountPeers$Rule" 69) "java/lang/String" "value" "[B") (.int 4)) (z := 100) (hq _ (by decide +kernel))
  have n5 := va_eqt (t := Term.elem (Term.field (Term.string "MountPeers$Rule" 69) "java/lang/String" "value" "[B") (.int 5)) (z := 119) (hq _ (by decide +kernel))
  have n6 := va_eqt (t := Term.elem (Term.field (Term.string "MountPeers$Rule" 69) "java/lang/String" "value" "[B") (.int 6)) (z := 113) (hq _ (by decide +kernel))
  obtain ⟨va, hva, hTv⟩ := va_Tof (N := 7) (f := fun j => .int (ltf j)) (A := fun q : Nat => s.heap.size ≤ q) (tm := (Term.field (Term.string "MountPeers$Rule" 69) "java/lang/String" "value" "[B")) (ty := .byte) (by decide) (hq _ (by decide +kernel)) (va_eqt (t := Term.length (Term.field (Term.string "MountPeers$Rule" 69) "java/lang/String" "value" "[B")) (z := 7) (hq _ (by decide +kernel))) (fun j hj => by
    match j, hj with
    | 0, _ => exact n0
    | 1, _ => exact n1
    | 2, _ => exact n2
    | 3, _ => exact n3
    | 4, _ => exact n4
    | 5, _ => exact n5
    | 6, _ => exact n6
    | j + 7, h => exact absurd h (by omega)) hA
  have hco := va_eqt (t := Term.field (Term.string "MountPeers$Rule" 69) "java/lang/String" "coder" "B") (z := 0) (hq _ (by decide +kernel))
  have hcs := va_eqi (C := "java/lang/String") (n := "COMPACT_STRINGS") (d := "Z") (z := 1) (hq _ (by decide +kernel))
  refine ⟨ta, sa, va, fun D AC N => ⟨va_Zof (hts _ (tbt4 220 (by decide +kernel))) (hG _ mw_85) hta hA, hTa, va_Oof hex hsa hA, vk_OFof hsa hco hA, vk_OFof hsa hva hA, hTv, va_Zof (hts _ (tbt2 142 (by decide +kernel))) (hG _ mw_89) hcs hA, vk_R.of (hts _ (tbt2 128 (by decide +kernel))) hsa⟩⟩
theorem law_xo (hts : ∀ w ∈ lw_tbl, w.before #[Value.ref b] s = true) (hgv : (Jvm.Cond.and given_1 narrow_1).before #[Value.ref b] s = true) : XO (fun q => s.heap.size ≤ q) s s.heap := by
  have hq := flat_of_before _ hgv
  have hG : ∀ w ∈ GW, w.before #[Value.ref b] s = true := fun w h => hts _ (List.mem_filter.mp h).1
  have hA : ∀ a : Nat, a < s.heap.size → ¬ (fun q : Nat => s.heap.size ≤ q) a := fun a h => Nat.not_le.mpr h
  have x147 : (Cond.exactly (Term.string "MountPeers" 147) "java/lang/String").before #[Value.ref b] s = true := hq _ (by decide +kernel)
  obtain ⟨s147, _, _, _, e147, -⟩ := Cond.exactly_spec x147
  have x171 : (Cond.exactly (Term.string "MountPeers" 171) "java/lang/String").before #[Value.ref b] s = true := hq _ (by decide +kernel)
  obtain ⟨s171, _, _, _, e171, -⟩ := Cond.exactly_spec x171
  have x177 : (Cond.exactly (Term.string "MountPeers" 177) "java/lang/String").before #[Value.ref b] s = true := hq _ (by decide +kernel)
  obtain ⟨s177, _, _, _, e177, -⟩ := Cond.exactly_spec x177
  have x400 : (Cond.exactly (Term.string "MountPeers" 400) "java/lang/String").before #[Value.ref b] s = true := hq _ (by decide +kernel)
  obtain ⟨s400, _, _, _, e400, -⟩ := Cond.exactly_spec x400
  exact ⟨vx_Zqof (hts _ (tbt5 183 (by decide +kernel))) (hG _ mw_95) (hq _ (by decide +kernel)) hA, vx_Zqof (hts _ (tbt5 185 (by decide +kernel))) (hG _ mw_95) (hq _ (by decide +kernel)) hA, ⟨"no such mount", s147, vk_R.of (hts _ (tbt5 195 (by decide +kernel))) e147⟩, ⟨"nothing such is told of a mount", s171, vk_R.of (hts _ (tbt5 222 (by decide +kernel))) e171⟩, ⟨"no such place", s177, vk_R.of (hts _ (tbt5 230 (by decide +kernel))) e177⟩, ⟨"the row has no such number", s400, vk_R.of (hts _ (tbt5 238 (by decide +kernel))) e400⟩⟩
end LKn
