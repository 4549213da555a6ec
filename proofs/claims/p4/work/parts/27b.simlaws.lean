/-! ===== reading a rule: the class's steps are the automaton's ===== -/
/-- compared at depth k -/
def cbt (m : Int32) (k : Nat) : Bool := decide (¬ m &&& ((1 : Int32) <<< (Int32.ofNat k &&& 31)) = 0)
def stt (m : Int32) : Nat → List Bool
  | 0 => []
  | k + 1 => cbt m k :: stt m k
theorem stt_len (m : Int32) : ∀ k, (stt m k).length = k
  | 0 => rfl
  | k + 1 => by show (stt m k).length + 1 = k + 1; rw [stt_len m k]
def sOf (G : Gh) : Sta := (decide (G.1 8 = 1), (G.1 9).toNatClampNeg, stt (G.1 10) ((G.1 6).toNatClampNeg + 1))
def SI (g : Gx) (G : Gh) (p : Int) : Prop := RW g G ∧ rgI 0 40 (G.1 7) ∧ (G.1 5).toInt + (G.1 7).toInt ≤ p ∧ rgI 0 3 (G.1 9) ∧ rgI 0 31 (G.1 10) ∧ (G.1 8 = 1 → G.1 9 = 0) ∧ (¬ G.1 9 = 0 → 0 < (G.1 7).toInt)
def STA (g : Gx) (G G' : Gh) (b r c : Int32) : Prop := G.1 8 = b → ∀ p : Int, SI g G p → p ≤ 39 → rgI 0 255 c → (¬ r = 0 ∧ ruS (sOf G) c = some (sOf G') ∧ SI g G' (p + 1)) ∨ (r = 0 ∧ ruS (sOf G) c = none)
theorem i32n {x : Int32} (h : 0 ≤ x.toInt) : x = Int32.ofNat x.toNatClampNeg := by
  apply Int32.toInt_inj.mp
  have h2 : x.toInt < 2147483648 := by have := Int32.toInt_lt x; omega
  have e := cl_nat h
  exact ((nI_toInt (n := x.toNatClampNeg) (by omega)).trans e).symm
theorem cb_clear0 : ∀ (m : Fin 32) (d : Fin 4), (0 ≤ (Int32.ofNat m.val &&& (((1 : Int32) <<< (Int32.ofNat (d.val + 1) &&& 31)) ^^^ (-1))).toInt ∧ (Int32.ofNat m.val &&& (((1 : Int32) <<< (Int32.ofNat (d.val + 1) &&& 31)) ^^^ (-1))).toInt ≤ 31) ∧ stt (Int32.ofNat m.val &&& (((1 : Int32) <<< (Int32.ofNat (d.val + 1) &&& 31)) ^^^ (-1))) (d.val + 1 + 1) = false :: stt (Int32.ofNat m.val) (d.val + 1) := by decide +kernel
theorem cb_set0 : ∀ (m : Fin 32) (d : Fin 5), (0 ≤ (Int32.ofNat m.val ||| ((1 : Int32) <<< (Int32.ofNat d.val &&& 31))).toInt ∧ (Int32.ofNat m.val ||| ((1 : Int32) <<< (Int32.ofNat d.val &&& 31))).toInt ≤ 31) ∧ stt (Int32.ofNat m.val ||| ((1 : Int32) <<< (Int32.ofNat d.val &&& 31))) (d.val + 1) = true :: stt (Int32.ofNat m.val) d.val := by decide +kernel
theorem cb_clear {m d x s t y : Int32} (hm : rgI 0 31 m) (hd : rgI 0 3 d) (ex : x = d + 1) (es : s = (1 : Int32) <<< (x &&& 31)) (et : t = s ^^^ (-1)) (ey : y = m &&& t) : rgI 0 31 y ∧ x.toNatClampNeg = d.toNatClampNeg + 1 ∧ stt y (x.toNatClampNeg + 1) = false :: stt m (d.toNatClampNeg + 1) := by
  have em := i32n hm.1
  have cm := cl_nat hm.1
  have cd := cl_nat hd.1
  have h1 := hm.2
  have h2 := hd.2
  have h3 := hd.1
  have tx : x.toInt = d.toInt + 1 := by rw [ex]; exact ti_add (y := 1) (by show _ ≤ d.toInt + 1; omega) (by show d.toInt + 1 ≤ _; omega)
  have nx : x.toNatClampNeg = d.toNatClampNeg + 1 := cl_of (by omega)
  have exn : x = Int32.ofNat (d.toNatClampNeg + 1) := by rw [← nx]; exact i32n (by omega)
  have z := cb_clear0 ⟨m.toNatClampNeg, by omega⟩ ⟨d.toNatClampNeg, by omega⟩
  have ez : y = Int32.ofNat m.toNatClampNeg &&& (((1 : Int32) <<< (Int32.ofNat (d.toNatClampNeg + 1) &&& 31)) ^^^ (-1)) := by rw [ey, et, es, ← exn, ← em]
  rw [nx]
  refine ⟨?_, rfl, ?_⟩
  · rw [ez]; exact z.1
  · rw [ez]
    have z2 := z.2
    rw [show (⟨m.toNatClampNeg, by omega⟩ : Fin 32).val = m.toNatClampNeg from rfl, show (⟨d.toNatClampNeg, by omega⟩ : Fin 4).val = d.toNatClampNeg from rfl] at z2
    rw [z2, ← em]
theorem cb_set {m d s y : Int32} (hm : rgI 0 31 m) (hd : rgI 0 4 d) (es : s = (1 : Int32) <<< (d &&& 31)) (ey : y = m ||| s) : rgI 0 31 y ∧ stt y (d.toNatClampNeg + 1) = true :: stt m d.toNatClampNeg := by
  have em := i32n hm.1
  have ed := i32n hd.1
  have cm := cl_nat hm.1
  have cd := cl_nat hd.1
  have h1 := hm.2
  have h2 := hd.2
  have z := cb_set0 ⟨m.toNatClampNeg, by omega⟩ ⟨d.toNatClampNeg, by omega⟩
  have ez : y = Int32.ofNat m.toNatClampNeg ||| ((1 : Int32) <<< (Int32.ofNat d.toNatClampNeg &&& 31)) := by rw [ey, es, ← ed, ← em]
  refine ⟨?_, ?_⟩
  · rw [ez]; exact z.1
  · rw [ez]
    have z2 := z.2
    rw [show (⟨m.toNatClampNeg, by omega⟩ : Fin 32).val = m.toNatClampNeg from rfl, show (⟨d.toNatClampNeg, by omega⟩ : Fin 5).val = d.toNatClampNeg from rfl] at z2
    rw [z2, ← em]
theorem cb_test {m d s t : Int32} (hd : 0 ≤ d.toInt) (es : s = (1 : Int32) <<< (d &&& 31)) (et : t = m &&& s) : stt m (d.toNatClampNeg + 1) = decide (¬ t = 0) :: stt m d.toNatClampNeg := by
  show cbt m d.toNatClampNeg :: _ = _
  unfold cbt
  rw [← i32n hd, ← es, ← et]
section SIM
variable {g : Gx} {G G1 G2 G3 G4 G5 : Gh} {p : Int} {r c x y s t : Int32}
theorem sOf_due (h : G.1 8 = 1) : sOf G = (true, (G.1 9).toNatClampNeg, stt (G.1 10) ((G.1 6).toNatClampNeg + 1)) := by
  unfold sOf
  rw [h]
  rfl
theorem sOf_not (h : G.1 8 = 0) : sOf G = (false, (G.1 9).toNatClampNeg, stt (G.1 10) ((G.1 6).toNatClampNeg + 1)) := by
  unfold sOf
  rw [h]
  rfl
theorem hold_sim (h : HoldR g G G1 x) (hS : SI g G p) (hp : p ≤ 39) : RW g G1 ∧ (G1.1 5).toInt = (G.1 5).toInt + 1 ∧ (∀ i, i ≠ 5 → G1.1 i = G.1 i) := by
  obtain ⟨hW, h7, h57, -⟩ := hS
  have a := h7.1
  obtain ⟨z1, z2, -, -⟩ := hold_z h hW.1.1 (by omega)
  exact ⟨(hold_step hW (by omega) h).2.1, z1, z2⟩
theorem st_neg (hW : RW g G) (hp : (G.1 5).toInt ≤ 39) (h : HoldR g G G1 256) (ec : c = 45) : STEP g G G1 ∧ STA g G G1 1 1 c := by
  refine ⟨hold_step hW hp h, fun h8 p hS hp _ => Or.inl ⟨by decide, ?_, ?_⟩⟩
  · obtain ⟨w, k5, k⟩ := hold_sim h hS hp
    rw [sOf_due h8, sOf_due (G := G1) (by rw [k 8 (by decide)]; exact h8), k 9 (by decide), k 10 (by decide), k 6 (by decide), ec, hS.2.2.2.2.2.1 h8]
    exact ruS_t.trans ru_neg
  · obtain ⟨w, k5, k⟩ := hold_sim h hS hp
    obtain ⟨-, a, b, d, e, f, q⟩ := hS
    exact ⟨w, by rw [k 7 (by decide)]; exact a, by rw [k 7 (by decide)]; omega, by rw [k 9 (by decide)]; exact d, by rw [k 10 (by decide)]; exact e, by rw [k 8 (by decide), k 9 (by decide)]; exact f, by rw [k 7 (by decide), k 9 (by decide)]; exact q⟩
theorem open_no (hW : RW g G) (hd : (4 : Int32) ≤ G.1 6) : STEP g G G ∧ STA g G G 1 0 40 := by
  refine ⟨STEP.rf hW, fun h8 p hS hp _ => Or.inr ⟨rfl, ?_⟩⟩
  rw [sOf_due h8]
  refine ruS_t.trans (ru_open_no ?_)
  rw [stt_len]
  have a := cl_nat hW.2.1.1
  have b := fz_le.mp hd
  have z : (4 : Int32).toInt = 4 := rfl
  omega
theorem open_go (hW : RW g G) (hp : (G.1 5).toInt ≤ 39) (hd : G.1 6 < 4) (e1 : G1 = gset G 6 x) (ex : x = G.1 6 + 1) (es : s = (1 : Int32) <<< (x &&& 31)) (et : t = s ^^^ (-1)) (ey : y = G.1 10 &&& t) (e2 : G2 = gset G1 10 y) (h : HoldR g G2 G3 40) : STEP g G G3 ∧ STA g G G3 1 1 40 := by
  have hst := open_step hW hp hd e1 ex e2 h
  refine ⟨hst, fun h8 p hS hp _ => Or.inl ⟨by decide, ?_⟩⟩
  have hd2 := fz_lt.mp hd
  have z4 : (4 : Int32).toInt = 4 := rfl
  have k0 : ∀ i, i ≠ 6 → i ≠ 10 → G2.1 i = G.1 i := fun i a b => by rw [e2, gs_ne b, e1, gs_ne a]
  obtain ⟨-, a7, b7, d9, e10, f8, q9⟩ := hS
  have c7 := a7.1
  obtain ⟨z1, z2, -, -⟩ := hold_z h (by rw [k0 5 (by decide) (by decide)]; exact hW.1.1) (by rw [k0 5 (by decide) (by decide)]; omega)
  rw [k0 5 (by decide) (by decide)] at z1
  have k : ∀ i, i ≠ 5 → i ≠ 6 → i ≠ 10 → G3.1 i = G.1 i := fun i a b c => (z2 i a).trans (k0 i b c)
  have k6 : G3.1 6 = x := by rw [z2 6 (by decide), e2, gs_ne (by decide), e1]; exact gs_eq
  have k10 : G3.1 10 = y := by rw [z2 10 (by decide), e2]; exact gs_eq
  obtain ⟨c1, c2, c3⟩ := cb_clear e10 ⟨hW.2.1.1, by omega⟩ ex es et ey
  refine ⟨?_, hst.2.1, by rw [k 7 (by decide) (by decide) (by decide)]; exact a7, by rw [k 7 (by decide) (by decide) (by decide)]; omega, by rw [k 9 (by decide) (by decide) (by decide)]; exact d9, by rw [k10]; exact c1, by rw [k 8 (by decide) (by decide) (by decide), k 9 (by decide) (by decide) (by decide)]; exact f8, by rw [k 7 (by decide) (by decide) (by decide), k 9 (by decide) (by decide) (by decide)]; exact q9⟩
  rw [sOf_due h8, sOf_due (G := G3) (by rw [k 8 (by decide) (by decide) (by decide)]; exact h8), k 9 (by decide) (by decide) (by decide), k10, k6, c3, f8 h8]
  refine ruS_t.trans (ru_open ?_)
  rw [stt_len]
  have a := cl_nat hW.2.1.1
  omega
theorem st_open (h : STEP g G G1 ∧ STA g G G1 1 r 40) (ec : c = 40) : STEP g G G1 ∧ STA g G G1 1 r c := by rw [ec]; exact h
theorem st_dig (hW : RW g G) (hE : EmitR G G1) (e2 : G2 = gset G1 9 1) (e3 : G3 = gset G2 8 0) (hc : ruD c = true) : STEP g G G3 ∧ STA g G G3 1 1 c := by
  have k : ∀ i, i ≠ 7 → i ≠ 8 → i ≠ 9 → G3.1 i = G.1 i := fun i a b d => by rw [e3, gs_ne b, e2, gs_ne d]; exact hE.keep a
  have kr : G3.2.1 = G.2.1 := by rw [e3, e2]; exact hE.rows
  have w : RW g G3 := ⟨by rw [k 5 (by decide) (by decide) (by decide)]; exact hW.1, by rw [k 6 (by decide) (by decide) (by decide)]; exact hW.2.1, by rw [k 5 (by decide) (by decide) (by decide), k 6 (by decide) (by decide) (by decide), kr]; exact hW.2.2⟩
  refine ⟨⟨hE.fr.tr (RLx.tr (B := G2) (by rw [e2]; exact RLx.n (by decide)) (by rw [e3]; exact RLx.n (by decide))), w, by rw [k 5 (by decide) (by decide) (by decide)]; omega⟩, fun h8 p hS hp _ => Or.inl ⟨by decide, ?_⟩⟩
  obtain ⟨-, a7, b7, d9, e10, f8, q9⟩ := hS
  have l5 := hW.1.1
  obtain ⟨s1, s2, s3, s4⟩ := hE.sz a7
  have s5 := s4 (by omega)
  have k7 : G3.1 7 = G1.1 7 := by rw [e3, gs_ne (by decide), e2]; exact gs_ne (by decide)
  have k8 : G3.1 8 = 0 := by rw [e3]; exact gs_eq
  have k9 : G3.1 9 = 1 := by rw [e3, gs_ne (by decide), e2]; exact gs_eq
  have l7 := a7.1
  refine ⟨?_, w, by rw [k7]; exact ⟨by omega, s3⟩, by rw [k7, k 5 (by decide) (by decide) (by decide)]; omega, by rw [k9]; exact ⟨by decide, by decide⟩, by rw [k 10 (by decide) (by decide) (by decide)]; exact e10, fun q => absurd (k8.symm.trans q) (by decide), fun _ => by rw [k7]; omega⟩
  rw [sOf_due h8, sOf_not k8, k9, k 10 (by decide) (by decide) (by decide), k 6 (by decide) (by decide) (by decide)]
  exact ruS_t.trans (ru_dig hc)
theorem st_let (hW : RW g G) (hE : EmitR G G1) (e3 : G3 = gset G1 8 0) (hd : ¬ ruD c = true) (hc : rgI 0 255 c → ruL c = true) : STEP g G G3 ∧ STA g G G3 1 1 c := by
  have k : ∀ i, i ≠ 7 → i ≠ 8 → G3.1 i = G.1 i := fun i a b => by rw [e3, gs_ne b]; exact hE.keep a
  have kr : G3.2.1 = G.2.1 := by rw [e3]; exact hE.rows
  have w : RW g G3 := ⟨by rw [k 5 (by decide) (by decide)]; exact hW.1, by rw [k 6 (by decide) (by decide)]; exact hW.2.1, by rw [k 5 (by decide) (by decide), k 6 (by decide) (by decide), kr]; exact hW.2.2⟩
  refine ⟨⟨hE.fr.tr (by rw [e3]; exact RLx.n (by decide)), w, by rw [k 5 (by decide) (by decide)]; omega⟩, fun h8 p hS hp h255 => Or.inl ⟨by decide, ?_⟩⟩
  obtain ⟨-, a7, b7, d9, e10, f8, q9⟩ := hS
  have l5 := hW.1.1
  obtain ⟨s1, s2, s3, s4⟩ := hE.sz a7
  have k7 : G3.1 7 = G1.1 7 := by rw [e3]; exact gs_ne (by decide)
  have k8 : G3.1 8 = 0 := by rw [e3]; exact gs_eq
  have k9 : G3.1 9 = 0 := by rw [k 9 (by decide) (by decide)]; exact f8 h8
  have l7 := a7.1
  refine ⟨?_, w, by rw [k7]; exact ⟨by omega, s3⟩, by rw [k7, k 5 (by decide) (by decide)]; omega, by rw [k9]; exact ⟨by decide, by decide⟩, by rw [k 10 (by decide) (by decide)]; exact e10, fun q => absurd (k8.symm.trans q) (by decide), fun q => absurd k9 q⟩
  rw [sOf_due h8, sOf_not k8, k9, k 10 (by decide) (by decide), k 6 (by decide) (by decide)]
  exact ruS_t.trans (ru_let (hc h255) hd)
theorem st_no (hW : RW g G) (h1 : ¬ c = 45) (h2 : ¬ c = 40) (h3 : ¬ ruD c = true) (h4 : rgI 0 255 c → ¬ ruL c = true) : STEP g G G ∧ STA g G G 1 0 c := by
  refine ⟨STEP.rf hW, fun h8 p hS hp h => Or.inr ⟨rfl, ?_⟩⟩
  rw [sOf_due h8]
  exact ruS_t.trans (ru_due_no h1 h2 h3 (h4 h))
def ADR (G G' : Gh) (r : Int32) : Prop := (r = 0 ∧ (G.1 9 = 0 ∨ (3 : Int32) ≤ G.1 9 ∨ G.1 7 = 0) ∧ G' = G) ∨ (r = 1 ∧ ¬ G.1 9 = 0 ∧ G.1 9 < 3 ∧ ¬ G.1 7 = 0 ∧ G' = gset G 9 (G.1 9 + 1))
theorem fo_dig (hW : RW g G) (hc : ruD c = true) (h : ADR G G1 r) : STEP g G G1 ∧ STA g G G1 0 r c := by
  have z3 : (3 : Int32).toInt = 3 := rfl
  rcases h with ⟨er, hn, e⟩ | ⟨er, h9, h3, h7, e⟩
  · refine ⟨by rw [e]; exact STEP.rf hW, fun h8 p hS hp _ => Or.inr ⟨er, ?_⟩⟩
    obtain ⟨-, a7, b7, d9, e10, f8, q9⟩ := hS
    have cd := cl_nat d9.1
    rw [sOf_not h8]
    refine ruS_f.trans (rf_dig_no hc ?_)
    rcases hn with q | q | q
    · rw [q]; exact Or.inl rfl
    · have q := fz_le.mp q
      exact Or.inr (by omega)
    · by_cases q0 : G.1 9 = 0
      · rw [q0]; exact Or.inl rfl
      · have := q9 q0
        rw [q] at this
        exact absurd this (by decide)
  · refine ⟨STEP.n hW e (by decide) (by decide) (by decide), fun h8 p hS hp _ => Or.inl ⟨by rw [er]; decide, ?_⟩⟩
    obtain ⟨-, a7, b7, d9, e10, f8, q9⟩ := hS
    have k : ∀ i, i ≠ 9 → G1.1 i = G.1 i := fun i a => by rw [e]; exact gs_ne a
    have k9 : G1.1 9 = G.1 9 + 1 := by rw [e]; exact gs_eq
    have h3 := fz_lt.mp h3
    have l9 := d9.1
    have n9 : 1 ≤ (G.1 9).toInt := (rg_neL d9 rl_0 h9).1
    have t9 : (G.1 9 + 1).toInt = (G.1 9).toInt + 1 := ti_add (y := 1) (by show _ ≤ (G.1 9).toInt + 1; omega) (by show (G.1 9).toInt + 1 ≤ _; omega)
    have cd := cl_nat d9.1
    have cn : (G.1 9 + 1).toNatClampNeg = (G.1 9).toNatClampNeg + 1 := cl_of (by omega)
    refine ⟨?_, hW.n e (by decide) (by decide), by rw [k 7 (by decide)]; exact a7, by rw [k 5 (by decide), k 7 (by decide)]; omega, by rw [k9]; exact ⟨by omega, by omega⟩, by rw [k 10 (by decide)]; exact e10, fun q => absurd ((k 8 (by decide)).symm.trans q) (by rw [h8]; decide), fun _ => by rw [k 7 (by decide)]; exact q9 h9⟩
    rw [sOf_not h8, sOf_not (G := G1) (by rw [k 8 (by decide)]; exact h8), k9, cn, k 10 (by decide), k 6 (by decide)]
    exact ruS_f.trans (rf_dig hc (by omega))
/-- the digits are done -/
theorem SI.d9 (hS : SI g G p) (e : G1 = gset G 9 0) : SI g G1 p := by
  have k : ∀ i, i ≠ 9 → G1.1 i = G.1 i := fun i a => by rw [e]; exact gs_ne a
  have k9 : G1.1 9 = 0 := by rw [e]; exact gs_eq
  obtain ⟨w, a7, b7, d9, e10, f8, q9⟩ := hS
  exact ⟨w.n e (by decide) (by decide), by rw [k 7 (by decide)]; exact a7, by rw [k 5 (by decide), k 7 (by decide)]; exact b7, by rw [k9]; exact ⟨by decide, by decide⟩, by rw [k 10 (by decide)]; exact e10, fun _ => k9, fun q => absurd k9 q⟩
theorem close_no (hW : RW g G) (h : G.1 6 = 0 ∨ G.1 5 = 0) : STEP g G G ∧ STA g G G 0 0 41 := by
  refine ⟨STEP.rf hW, fun h8 p hS hp _ => Or.inr ⟨rfl, ?_⟩⟩
  have h6 : G.1 6 = 0 := by
    rcases h with h | h
    · exact h
    · apply Int32.toInt_inj.mp
      have a := hW.2.1.1
      have z : (0 : Int32).toInt = 0 := rfl
      by_cases q : 1 ≤ (G.1 6).toInt
      · have := close_w hW q
        rw [h] at this
        exact absurd this (by decide)
      · omega
  rw [sOf_not h8, h6]
  exact ruS_f.trans rf_close
theorem close_go (hW : RW g G) (hne : ¬ G.1 6 = 0) (h : RelR g G G1 1) (e2 : G2 = gset G1 5 x) (ex : x = G1.1 5 - 1) (e3 : G3 = gset G2 6 y) (ey : y = G.1 6 - 1) (h9 : G.1 9 = 0) : STEP g G G3 ∧ STA g G G3 0 1 41 := by
  have hst := close_step hW hne h e2 ex e3 ey
  refine ⟨hst, fun h8 p hS hp _ => Or.inl ⟨by decide, ?_⟩⟩
  obtain ⟨tx, ty, hx0, hy0, u5⟩ := close_t hW hne h ex ey
  have k : ∀ i, i ≠ 5 → i ≠ 6 → i ≠ 7 → G3.1 i = G.1 i := fun i a b c => by rw [e3, gs_ne b, e2, gs_ne a]; exact h.keep a c
  have k5 : G3.1 5 = x := by rw [e3, gs_ne (by decide), e2]; exact gs_eq
  have k6 : G3.1 6 = y := by rw [e3]; exact gs_eq
  have k7 : G3.1 7 = G1.1 7 := by rw [e3, gs_ne (by decide), e2]; exact gs_ne (by decide)
  obtain ⟨-, a7, b7, d9, e10, f8, q9⟩ := hS
  obtain ⟨s1, s2, s3⟩ := h.2.2.2.2.2.2 a7
  have k9 : G3.1 9 = 0 := (k 9 (by decide) (by decide) (by decide)).trans h9
  refine ⟨?_, hst.2.1, by rw [k7]; exact s1, by rw [k5, k7]; omega, by rw [k9]; exact ⟨by decide, by decide⟩, by rw [k 10 (by decide) (by decide) (by decide)]; exact e10, fun _ => k9, fun q => absurd k9 q⟩
  have c6 := cl_nat hW.2.1.1
  have cy := cl_nat hy0
  have ny : (G.1 6).toNatClampNeg = y.toNatClampNeg + 1 := by omega
  rw [sOf_not h8, sOf_not (G := G3) (by rw [k 8 (by decide) (by decide) (by decide)]; exact h8), k9, k 10 (by decide) (by decide) (by decide), k6, ny]
  exact ruS_f.trans rf_close
theorem fo_close (e : G1 = gset G 9 0) (h : STEP g G1 G2 ∧ STA g G1 G2 0 r 41) (ec : c = 41) : STEP g G G2 ∧ STA g G G2 0 r c := by
  refine ⟨STEP.bef e (by decide) (by decide) h.1, fun h8 p hS hp h255 => ?_⟩
  have k : ∀ i, i ≠ 9 → G1.1 i = G.1 i := fun i a => by rw [e]; exact gs_ne a
  have h81 : G1.1 8 = 0 := (k 8 (by decide)).trans h8
  have q := h.2 h81 p (hS.d9 e) hp (by rw [← ec]; exact h255)
  have eq : ruS (sOf G) c = ruS (sOf G1) 41 := by
    rw [ec, sOf_not h8, sOf_not h81, k 10 (by decide), k 6 (by decide)]
    exact (ruS_f.trans rf_close).trans (ruS_f.trans rf_close).symm
  rw [eq]
  exact q
/-- how tightly a sign binds -/
def RK (a r : Int32) : Prop := (ruCm a ∧ r = 1) ∨ (ruOp a ∧ (r = 2 ∨ r = 3)) ∨ (a = 256 ∧ r = 4) ∨ (¬ ruCm a ∧ ¬ ruOp a ∧ r = 0)
theorem fo_no0 (hW : RW g G) (e : G1 = gset G 9 0) (hd : ¬ ruD c = true) (hc : ¬ c = 41) (hk : RK c x) (h0 : x = 0) : STEP g G G1 ∧ STA g G G1 0 0 c := by
  refine ⟨STEP.n hW e (by decide) (by decide) (by decide), fun h8 p hS hp h255 => Or.inr ⟨rfl, ?_⟩⟩
  rw [sOf_not h8]
  rcases hk with ⟨-, q⟩ | ⟨-, q | q⟩ | ⟨-, q⟩ | ⟨q1, q2, -⟩
  · exact absurd (h0.symm.trans q) (by decide)
  · exact absurd (h0.symm.trans q) (by decide)
  · exact absurd (h0.symm.trans q) (by decide)
  · exact absurd (h0.symm.trans q) (by decide)
  · exact ruS_f.trans (rf_no hd hc q1 q2)
theorem fo_no1 (hW : RW g G) (e : G1 = gset G 9 0) (hk : RK c x) (h1 : x = 1) (es : s = (1 : Int32) <<< (G.1 6 &&& 31)) (et : t = G.1 10 &&& s) (ht : ¬ t = 0) : STEP g G G1 ∧ STA g G G1 0 0 c := by
  refine ⟨STEP.n hW e (by decide) (by decide) (by decide), fun h8 p hS hp h255 => Or.inr ⟨rfl, ?_⟩⟩
  have hcm : ruCm c := by
    rcases hk with ⟨q, -⟩ | ⟨-, q | q⟩ | ⟨-, q⟩ | ⟨-, -, q⟩
    · exact q
    · exact absurd (h1.symm.trans q) (by decide)
    · exact absurd (h1.symm.trans q) (by decide)
    · exact absurd (h1.symm.trans q) (by decide)
    · exact absurd (h1.symm.trans q) (by decide)
  rw [sOf_not h8, cb_test hW.2.1.1 es et, decide_eq_true ht]
  exact ruS_f.trans (rf_cmp hcm)
/-- behind a sign that joins -/
theorem fo_end (hW1 : RW g G1) (hp : (G1.1 5).toInt ≤ 39) (hx : 1 ≤ x.toInt) (h3 : RelR g G1 G3 x) (h4 : HoldR g G3 G4 c) (e5 : G5 = gset G4 8 1) : STEP g G1 G5 ∧ (rgI 0 40 (G1.1 7) → rgI 0 40 (G5.1 7) ∧ (G5.1 5).toInt + (G5.1 7).toInt ≤ (G1.1 5).toInt + (G1.1 7).toInt + 1) ∧ (∀ i, i ≠ 5 → i ≠ 7 → i ≠ 8 → G5.1 i = G1.1 i) ∧ G5.1 8 = 1 := by
  have hf := follow_step hW1 hp hx h3 h4
  obtain ⟨w3, w3b, w3c⟩ := rel_step hW1 hx h3
  obtain ⟨z1, z2, -, -⟩ := hold_z h4 h3.1 (by omega)
  have k : ∀ i, i ≠ 5 → i ≠ 7 → i ≠ 8 → G5.1 i = G1.1 i := fun i a b d => by rw [e5, gs_ne d, z2 i a]; exact h3.keep a b
  refine ⟨hf.aft e5 (by decide) (by decide) (by decide), fun a7 => ?_, k, by rw [e5]; exact gs_eq⟩
  obtain ⟨s1, s2, s3⟩ := h3.2.2.2.2.2.2 a7
  have k7 : G5.1 7 = G3.1 7 := by rw [e5, gs_ne (by decide)]; exact z2 7 (by decide)
  have k5 : G5.1 5 = G4.1 5 := by rw [e5]; exact gs_ne (by decide)
  rw [k7, k5]
  exact ⟨s1, by omega⟩
theorem fo_op (hW : RW g G) (hp : (G.1 5).toInt ≤ 39) (e : G1 = gset G 9 0) (hk : RK c x) (h0 : ¬ x = 0) (h1 : ¬ x = 1) (h3 : RelR g G1 G3 x) (h4 : HoldR g G3 G4 c) (e5 : G5 = gset G4 8 1) : STEP g G G5 ∧ STA g G G5 0 1 c := by
  have hx : 1 ≤ x.toInt := by
    rcases hk with ⟨-, q⟩ | ⟨-, q | q⟩ | ⟨-, q⟩ | ⟨-, -, q⟩
    · rw [q]; decide
    · rw [q]; decide
    · rw [q]; decide
    · rw [q]; decide
    · exact absurd q h0
  have k0 : ∀ i, i ≠ 9 → G1.1 i = G.1 i := fun i a => by rw [e]; exact gs_ne a
  obtain ⟨f1, f2, f3, f4⟩ := fo_end (hW.n e (by decide) (by decide)) (by rw [k0 5 (by decide)]; exact hp) hx h3 h4 e5
  refine ⟨STEP.bef e (by decide) (by decide) f1, fun h8 p hS hp h255 => Or.inl ⟨by decide, ?_⟩⟩
  have hop : ruOp c := by
    rcases hk with ⟨-, q⟩ | ⟨q, -⟩ | ⟨q, -⟩ | ⟨-, -, q⟩
    · exact absurd q h1
    · exact q
    · rw [q] at h255
      exact absurd h255.2 (by decide)
    · exact absurd q h0
  obtain ⟨-, a7, b7, d9, e10, f8, q9⟩ := hS.d9 e
  have k9 : G5.1 9 = 0 := by rw [f3 9 (by decide) (by decide) (by decide), e]; exact gs_eq
  obtain ⟨s1, s2⟩ := f2 a7
  refine ⟨?_, f1.2.1, s1, by omega, by rw [k9]; exact ⟨by decide, by decide⟩, by rw [f3 10 (by decide) (by decide) (by decide)]; exact e10, fun _ => k9, fun q => absurd k9 q⟩
  rw [sOf_not h8, sOf_due f4, k9, f3 10 (by decide) (by decide) (by decide), f3 6 (by decide) (by decide) (by decide), k0 10 (by decide), k0 6 (by decide)]
  exact ruS_f.trans (rf_op hop)
theorem fo_cmp (hW : RW g G) (hp : (G.1 5).toInt ≤ 39) (e : G1 = gset G 9 0) (hk : RK c x) (h1 : x = 1) (es : s = (1 : Int32) <<< (G.1 6 &&& 31)) (et : t = G.1 10 &&& s) (ht : t = 0) {s2 : Int32} (es2 : s2 = (1 : Int32) <<< (G.1 6 &&& 31)) (ey : y = G.1 10 ||| s2) (e2 : G2 = gset G1 10 y) (h3 : RelR g G2 G3 x) (h4 : HoldR g G3 G4 c) (e5 : G5 = gset G4 8 1) : STEP g G G5 ∧ STA g G G5 0 1 c := by
  have hx : 1 ≤ x.toInt := by rw [h1]; decide
  have k0 : ∀ i, i ≠ 9 → G1.1 i = G.1 i := fun i a => by rw [e]; exact gs_ne a
  have k1 : ∀ i, i ≠ 9 → i ≠ 10 → G2.1 i = G.1 i := fun i a b => by rw [e2, gs_ne b]; exact k0 i a
  have hW1 : RW g G1 := hW.n e (by decide) (by decide)
  obtain ⟨f1, f2, f3, f4⟩ := fo_end (hW1.n e2 (by decide) (by decide)) (by rw [k1 5 (by decide) (by decide)]; exact hp) hx h3 h4 e5
  refine ⟨STEP.bef e (by decide) (by decide) (STEP.bef e2 (by decide) (by decide) f1), fun h8 p hS hp h255 => Or.inl ⟨by decide, ?_⟩⟩
  have hcm : ruCm c := by
    rcases hk with ⟨q, -⟩ | ⟨-, q | q⟩ | ⟨-, q⟩ | ⟨-, -, q⟩
    · exact q
    · exact absurd (h1.symm.trans q) (by decide)
    · exact absurd (h1.symm.trans q) (by decide)
    · exact absurd (h1.symm.trans q) (by decide)
    · exact absurd (h1.symm.trans q) (by decide)
  obtain ⟨-, a7, b7, d9, e10, f8, q9⟩ := hS
  have k9 : G5.1 9 = 0 := by rw [f3 9 (by decide) (by decide) (by decide), e2, gs_ne (by decide), e]; exact gs_eq
  have k10 : G5.1 10 = y := by rw [f3 10 (by decide) (by decide) (by decide), e2]; exact gs_eq
  have k6 : G5.1 6 = G.1 6 := (f3 6 (by decide) (by decide) (by decide)).trans (k1 6 (by decide) (by decide))
  obtain ⟨c1, c2⟩ := cb_set e10 hW.2.1 es2 ey
  obtain ⟨s1, s2⟩ := f2 (by rw [k1 7 (by decide) (by decide)]; exact a7)
  rw [k1 7 (by decide) (by decide), k1 5 (by decide) (by decide)] at s2
  refine ⟨?_, f1.2.1, s1, by omega, by rw [k9]; exact ⟨by decide, by decide⟩, by rw [k10]; exact c1, fun _ => k9, fun q => absurd k9 q⟩
  rw [sOf_not h8, sOf_due f4, k9, k10, k6, c2, cb_test hW.2.1.1 es et, decide_eq_false (fun q => q ht)]
  exact ruS_f.trans (rf_cmp hcm)
/-- what read begins with -/
theorem si_0 {Ga Gb Gc Gd Ge Gf : Gh} (e1 : Ga = gset G 7 0) (e2 : Gb = gset Ga 5 0) (e3 : Gc = gset Gb 8 1) (e4 : Gd = gset Gc 9 0) (e5 : Ge = gset Gd 6 0) (e6 : Gf = gset Ge 10 0) : SI g Gf 0 ∧ sOf Gf = (true, 0, [false]) ∧ RLx g G Gf := by
  have h7 : Gf.1 7 = 0 := by rw [e6, gs_ne (by decide), e5, gs_ne (by decide), e4, gs_ne (by decide), e3, gs_ne (by decide), e2, gs_ne (by decide), e1]; exact gs_eq
  have h5 : Gf.1 5 = 0 := by rw [e6, gs_ne (by decide), e5, gs_ne (by decide), e4, gs_ne (by decide), e3, gs_ne (by decide), e2]; exact gs_eq
  have h8 : Gf.1 8 = 1 := by rw [e6, gs_ne (by decide), e5, gs_ne (by decide), e4, gs_ne (by decide), e3]; exact gs_eq
  have h9 : Gf.1 9 = 0 := by rw [e6, gs_ne (by decide), e5, gs_ne (by decide), e4]; exact gs_eq
  have h6 : Gf.1 6 = 0 := by rw [e6, gs_ne (by decide), e5]; exact gs_eq
  have h10 : Gf.1 10 = 0 := by rw [e6]; exact gs_eq
  refine ⟨⟨⟨by rw [h5]; exact ⟨by decide, by decide⟩, by rw [h6]; exact ⟨by decide, by decide⟩, ?_⟩, by rw [h7]; exact ⟨by decide, by decide⟩, by rw [h5, h7]; decide, by rw [h9]; exact ⟨by decide, by decide⟩, by rw [h10]; exact ⟨by decide, by decide⟩, fun _ => h9, fun q => absurd h9 q⟩, ?_, ?_⟩
  · rw [h6]
    exact Int.natCast_nonneg _
  · rw [sOf_due h8, h9, h10, h6]
    decide
  · exact (RLx.tr (B := Ga) (by rw [e1]; exact RLx.n (by decide)) (RLx.tr (B := Gb) (by rw [e2]; exact RLx.n (by decide)) (RLx.tr (B := Gc) (by rw [e3]; exact RLx.n (by decide)) (RLx.tr (B := Gd) (by rw [e4]; exact RLx.n (by decide)) (RLx.tr (B := Ge) (by rw [e5]; exact RLx.n (by decide)) (by rw [e6]; exact RLx.n (by decide)))))))
end SIM
/-- every sign of the text is a byte's -/
def RuC (g : Gx) (G : Gh) : Prop := ∀ i, rgI 0 255 (G.2.1 (g.2.2 55) i)
/-- how far the reading stands -/
def RdI (g : Gx) (G G' : Gh) (p : Int32) : Prop := RuC g G → SI g G' p.toInt ∧ ruO (ruH (G.2.1 (g.2.2 55)) (G.1 0)) (G.1 0) p (sOf G') = ruO (ruH (G.2.1 (g.2.2 55)) (G.1 0)) (G.1 0) 0 (true, 0, [false])
section READ
variable {g : Gx} {G G1 G2 : Gh} {p q r c x : Int32}
theorem ruH_at {row : Nat → Int32} {len : Int32} (h1 : p < len) (h2 : p < 40) : ruH row len p = row p.toNatClampNeg := by
  unfold ruH
  rw [if_neg (fun q => by have := fz_le.mp q; have := fz_lt.mp h1; omega), if_neg (fun q => by have := fz_le.mp q; have := fz_lt.mp h2; omega)]
theorem rd_nb (hc : RuC g G) {i : Nat} : ¬ G.2.1 (g.2.2 55) i = -1 := fun q => by
  have := (hc i).1
  rw [q] at this
  exact absurd this (by decide)
/-- one more sign is read -/
theorem rd_step {b : Int32} (h : RdI g G G1 p) (hp : rgI 0 39 p) (hl : p < G.1 0) (hs : c = G.2.1 (g.2.2 55) p.toNatClampNeg) (h8 : G1.1 8 = b) (hst : STA g G1 G2 b x c) (hx : ¬ x = 0) (eq : q = p + 1) : RdI g G G2 q := by
  intro hc
  obtain ⟨a1, a2⟩ := h hc
  have p40 : p < 40 := fz_lt.mpr (by have := hp.2; have z : (40 : Int32).toInt = 40 := rfl; omega)
  have eh : ruH (G.2.1 (g.2.2 55)) (G.1 0) p = c := (ruH_at hl p40).trans hs.symm
  have e1 := ru_y1 (y := p) ⟨hp.1, by have := hp.2; omega⟩
  rcases hst h8 _ a1 hp.2 (by rw [hs]; exact hc _) with ⟨-, s1, s2⟩ | ⟨q0, -⟩
  · refine ⟨by rw [eq, e1]; exact s2, ?_⟩
    rw [← a2, eq]
    exact (ru_go ⟨hp.1, by have := hp.2; omega⟩ (by rw [eh, hs]; exact rd_nb hc) (by rw [eh]; exact s1)).symm
  · exact absurd q0 hx
theorem rd_no {b : Int32} (h : RdI g G G1 p) (hp : rgI 0 39 p) (hl : p < G.1 0) (hs : c = G.2.1 (g.2.2 55) p.toNatClampNeg) (h8 : G1.1 8 = b) (hst : STA g G1 G2 b x c) (hx : x = 0) : RuC g G → p = RuA (G.2.1 (g.2.2 55)) (G.1 0) := by
  intro hc
  obtain ⟨a1, a2⟩ := h hc
  have p40 : p < 40 := fz_lt.mpr (by have := hp.2; have z : (40 : Int32).toInt = 40 := rfl; omega)
  have eh : ruH (G.2.1 (g.2.2 55)) (G.1 0) p = c := (ruH_at hl p40).trans hs.symm
  have n0 : ¬ G.1 0 = 0 := fun q => by
    have := fz_lt.mp hl
    have := hp.1
    rw [q] at *
    have z : (0 : Int32).toInt = 0 := rfl
    omega
  unfold RuA
  rw [if_neg n0, ← a2]
  rcases hst h8 _ a1 hp.2 (by rw [hs]; exact hc _) with ⟨q0, -⟩ | ⟨-, s1⟩
  · exact absurd hx q0
  · exact (ru_no (by rw [eh, hs]; exact rd_nb hc) (by rw [eh]; exact s1)).symm
/-- the signs are all read -/
theorem rd_end (h : RdI g G G1 p) (hl : G.1 0 ≤ p ∨ (40 : Int32) ≤ p) : RuC g G → ruO (ruH (G.2.1 (g.2.2 55)) (G.1 0)) (G.1 0) 0 (true, 0, [false]) = ruN (G.1 0) (sOf G1) := by
  intro hc
  obtain ⟨a1, a2⟩ := h hc
  rw [← a2]
  refine ru_end ?_
  unfold ruH
  by_cases c1 : G.1 0 ≤ p
  · rw [if_pos c1]
  · rw [if_neg c1, if_pos (hl.resolve_left c1)]
abbrev RdE (g : Gx) (G G1 : Gh) : Prop := RuC g G → ruO (ruH (G.2.1 (g.2.2 55)) (G.1 0)) (G.1 0) 0 (true, 0, [false]) = ruN (G.1 0) (sOf G1)
theorem rd_far (h : RdE g G G1) (h40 : (40 : Int32) < G.1 0) : RuC g G → 40 = RuA (G.2.1 (g.2.2 55)) (G.1 0) := fun hc => by
  unfold RuA
  rw [if_neg (fun q => by rw [q] at h40; exact absurd h40 (by decide)), h hc, ruN_far h40]
theorem rd_zero (h0 : rgI 0 80 (G.1 0)) (hl : G.1 0 ≤ 0) : RuC g G → -1 = RuA (G.2.1 (g.2.2 55)) (G.1 0) := fun _ => by
  have e : G.1 0 = 0 := Int32.toInt_inj.mp (by have := fz_le.mp hl; have := h0.1; have z : (0 : Int32).toInt = 0 := rfl; omega)
  unfold RuA
  rw [if_pos e]
theorem rd_open (h : RdE g G G1) (hf : G.1 0 ≤ 40) (hl : (0 : Int32) < G.1 0) (hw : RW g G1) (hs : ¬ G1.1 8 = 0 ∨ (0 : Int32) < G1.1 6) (h8 : rgI 0 1 (G1.1 8)) : RuC g G → G.1 0 = RuA (G.2.1 (g.2.2 55)) (G.1 0) := fun hc => by
  unfold RuA
  rw [if_neg (fun q => by rw [q] at hl; exact absurd hl (by decide)), h hc]
  unfold ruN
  rw [if_neg (fun q => by have := fz_lt.mp q; have := fz_le.mp hf; omega), if_pos]
  rcases hs with q | q
  · left
    have e : G1.1 8 = 1 := (b01 h8).resolve_left q
    show decide (G1.1 8 = 1) = true
    rw [e]; rfl
  · right
    show 1 < (stt (G1.1 10) ((G1.1 6).toNatClampNeg + 1)).length
    rw [stt_len]
    have a := cl_nat hw.2.1.1
    have b := fz_lt.mp q
    have z : (0 : Int32).toInt = 0 := rfl
    omega
theorem rd_fine (h : RdE g G G1) (hf : G.1 0 ≤ 40) (hl : (0 : Int32) < G.1 0) (hw : RW g G1) (h8 : G1.1 8 = 0) (h6 : G1.1 6 ≤ 0) : RuC g G → -1 = RuA (G.2.1 (g.2.2 55)) (G.1 0) := fun hc => by
  have e : G1.1 6 = 0 := Int32.toInt_inj.mp (by have := fz_le.mp h6; have := hw.2.1.1; have z : (0 : Int32).toInt = 0 := rfl; omega)
  unfold RuA
  rw [if_neg (fun q => by rw [q] at hl; exact absurd hl (by decide)), h hc, sOf_not h8, e]
  exact (ruN_fine (fun q => by have := fz_lt.mp q; have := fz_le.mp hf; omega)).symm
end READ
