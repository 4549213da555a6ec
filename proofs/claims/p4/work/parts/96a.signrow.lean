theorem bp_b (x : Int32) : x.toInt8.toInt32 &&& 255 = x &&& 255 := by
  apply Int32.toBitVec_inj.mp
  rw [Int32.toBitVec_and, Int32.toBitVec_and, Int8.toBitVec_toInt32, Int32.toBitVec_toInt8]
  apply BitVec.eq_of_getLsbD_eq
  intro i hi
  rw [BitVec.getLsbD_and, BitVec.getLsbD_and]
  have hm : ∀ i < 32, 8 ≤ i → (255 : Int32).toBitVec.getLsbD i = false := by decide
  rcases Nat.lt_or_ge i 8 with z | z
  · rw [BitVec.getLsbD_signExtend, BitVec.getLsbD_signExtend, if_pos z, if_pos hi]
    simp only [z, hi, decide_true, Bool.true_and]
  · rw [hm i hi z]; simp
/-! ===== sign: both sides hold the same bytes ===== -/
def bR (v k : Int32) : Int32 := vp_nar .byte ((v >>> ((8 * k) &&& 31)).toInt8.toInt32)
def adR (row : Nat → Int32) (n v : Int32) : Nat → Nat → Int32
  | 0 => row
  | j + 1 => upd (adR row n v j) (n.toNatClampNeg + j) (bR v (Int32.ofNat (3 - j)))
theorem adR_s {row f f2 : Nat → Int32} {n v k k2 y m s b : Int32} (h : f = adR row n v (3 - k.toInt).toNat) (hk : rgI 0 3 k) (h80 : rgI 0 80 n) (hn : n + 4 ≤ 80) (hy : y = n + (3 - k)) (em : m = 8 * k) (es : s = v >>> (m &&& 31)) (eb : b = s.toInt8.toInt32) (ef : f2 = upd f y.toNatClampNeg (vp_nar .byte b)) (ek : k2 = k + (-1)) : f2 = adR row n v (3 - k2.toInt).toNat := by
  have a1 := h80.1; have a2 := h80.2; have b1 := hk.1; have b2 := hk.2
  have hn := fz_le.mp hn
  have z80 : (80 : Int32).toInt = 80 := rfl
  have z3 : (3 : Int32).toInt = 3 := rfl
  have zm : (-1 : Int32).toInt = -1 := by decide
  have e4 : (n + 4).toInt = n.toInt + 4 := ti_add (y := 4) (by show _ ≤ n.toInt + 4; omega) (by show n.toInt + 4 ≤ _; omega)
  have t3 : (3 - k).toInt = 3 - k.toInt := by rw [ti_sub (by omega) (by omega)]; omega
  have k1 : k2.toInt = k.toInt - 1 := by rw [ek, ti_add (by omega) (by omega)]; omega
  have yt : y.toInt = n.toInt + (3 - k.toInt) := by rw [hy, ti_add (by omega) (by omega)]; omega
  have c0 := cl_nat h80.1
  have ck := cl_nat hk.1
  have e3 : (3 - k2.toInt).toNat = (3 - k.toInt).toNat + 1 := by omega
  have yc : y.toNatClampNeg = n.toNatClampNeg + (3 - k.toInt).toNat := cl_of (by omega)
  have ke : 3 - (3 - k.toInt).toNat = k.toNatClampNeg := by omega
  have kk : Int32.ofNat (3 - (3 - k.toInt).toNat) = k := by rw [ke]; exact (i32n hk.1).symm
  rw [e3]
  show f2 = upd (adR row n v (3 - k.toInt).toNat) (n.toNatClampNeg + (3 - k.toInt).toNat) (bR v (Int32.ofNat (3 - (3 - k.toInt).toNat)))
  rw [kk, ← h, ← yc, ef]
  unfold bR
  rw [eb, es, em]
theorem sh_eq (v : Int32) (n : Nat) (hn : n ≤ 24) : (v >>> (nI n &&& 31)) &&& 255 = (v.toUInt32 >>> ((nI n).toUInt32 &&& Int32.toUInt32 31)).toInt32 &&& 255 := b_ext fun i hi => by
  rw [b_and, b_and, b_255, b_sshr n (by omega) v hi, b_ushr n (by omega) v i]
  by_cases h : i < 8
  · rw [if_pos (by omega)]
  · rw [decide_eq_false h, Bool.and_false, Bool.and_false]
theorem by_eq (v : Int32) : ∀ j : Nat, j < 4 → bR v (Int32.ofNat (3 - j)) &&& 255 = sgn v (Int32.ofNat j) := by
  intro j hj
  unfold bR sgn
  rw [pk_vb, bp_b]
  match j, hj with
  | 0, _ =>
    rw [show (8 : Int32) * Int32.ofNat (3 - 0) = nI 24 by decide, show (24 : Int32) - 8 * Int32.ofNat 0 = nI 24 by decide]
    exact sh_eq v 24 (by decide)
  | 1, _ =>
    rw [show (8 : Int32) * Int32.ofNat (3 - 1) = nI 16 by decide, show (24 : Int32) - 8 * Int32.ofNat 1 = nI 16 by decide]
    exact sh_eq v 16 (by decide)
  | 2, _ =>
    rw [show (8 : Int32) * Int32.ofNat (3 - 2) = nI 8 by decide, show (24 : Int32) - 8 * Int32.ofNat 2 = nI 8 by decide]
    exact sh_eq v 8 (by decide)
  | 3, _ =>
    rw [show (8 : Int32) * Int32.ofNat (3 - 3) = nI 0 by decide, show (24 : Int32) - 8 * Int32.ofNat 3 = nI 0 by decide]
    exact sh_eq v 0 (by decide)
  | j + 4, h => exact absurd h (by omega)
theorem ad_eq {row : Nat → Int32} {n v : Int32} : ∀ j, j ≤ 4 → (fun i => adR row n v j i &&& 255) = adK (fun i => row i &&& 255) n v j
  | 0, _ => rfl
  | j + 1, h => by
    have q := ad_eq (row := row) (n := n) (v := v) j (by omega)
    funext i
    show upd (adR row n v j) (n.toNatClampNeg + j) (bR v (Int32.ofNat (3 - j))) i &&& 255 = upd (adK (fun i => row i &&& 255) n v j) (n.toNatClampNeg + j) (sgn v (Int32.ofNat j)) i
    by_cases e : i = n.toNatClampNeg + j
    · rw [e, upd_eq, upd_eq]
      exact by_eq v j (by omega)
    · rw [upd_ne e, upd_ne e]
      exact congrFun q i
def SignW (g : Gx) (G G' : Gh) (r v : Int32) : Prop := (r = -1 ∧ G'.2.1 (g.2.2 101) = G.2.1 (g.2.2 101)) ∨ (¬ r = -1 ∧ G'.2.1 (g.2.2 101) = adR (G.2.1 (g.2.2 101)) (G.1 102) v 4)
/-- what the reference's readRule says -/
abbrev rwQ (g : Gx) (G : Gh) : Nat → Int32 := fun i => G.2.1 (g.2.2 101) i &&& 255
def RrR (g : Gx) (G G' : Gh) (r : Int32) : Prop := (r = if RuA (rwQ g G) (G.1 102) = -1 then 1 else 0) ∧ G'.1 110 = RuA (rwQ g G) (G.1 102)
theorem rr_0 {g : Gx} {G G18 G34 : Gh} {x : Int32} {askf : Nat → Int32} (hl : rgI 0 0 (G.1 102)) (hr : x = (F_X12_wasRight (G18.2.1 (g.2.2 101)) askf (G.1 102) 40 0 0 (-1)).1) (hg : G34 = pst G18 (F_X12_wasRight (G18.2.1 (g.2.2 101)) askf (G.1 102) 40 0 0 (-1)).2.1 (F_X12_wasRight (G18.2.1 (g.2.2 101)) askf (G.1 102) 40 0 0 (-1)).2.2) (er : G18.2.1 (g.2.2 101) = G.2.1 (g.2.2 101)) : RrR g G G34 x := by
  rw [er] at hr hg
  obtain ⟨q1, q2⟩ := ru_none (rdf := G.2.1 (g.2.2 101)) (askf := askf) (isA := 0) hl rfl
  exact ⟨hr.trans q1, by rw [hg]; exact (gs_eq).trans q2⟩
theorem rr_1 {g : Gx} {G G18 G51 G68 : Gh} {x : Int32} {askf : Nat → Int32} {t : Int32 × Int32 × Int32} (hl : rgI 1 80 (G.1 102)) (ht : t = F_X12_held (G18.2.1 (g.2.2 101)) askf (G.1 102) 40 0 (F_X12_thing (G18.2.1 (g.2.2 101)) askf (G.1 102) 40 0 82) 0 0 (-1)) (hr : x = (F_X12_wasRight (G18.2.1 (g.2.2 101)) askf (G.1 102) 40 0 t.2.1 t.2.2).1) (hg : G68 = pst G51 (F_X12_wasRight (G18.2.1 (g.2.2 101)) askf (G.1 102) 40 0 t.2.1 t.2.2).2.1 (F_X12_wasRight (G18.2.1 (g.2.2 101)) askf (G.1 102) 40 0 t.2.1 t.2.2).2.2) (er : G18.2.1 (g.2.2 101) = G.2.1 (g.2.2 101)) : RrR g G G68 x := by
  rw [ru_all hl ht] at hr hg
  rw [er] at hr hg
  exact ⟨hr, by rw [hg]; exact gs_eq⟩
theorem ru_f0 {x n : Int32} {row : Nat → Int32} (h : x = if RuA row n = -1 then 1 else 0) (c : ¬ x = 0) : 0 = RuR row n := by
  unfold RuR
  by_cases q : RuA row n = -1
  · rw [if_pos q]
  · rw [if_neg q] at h; exact absurd h c
theorem ru_f1 {x n w y : Int32} {row : Nat → Int32} (h : x = if RuA row n = -1 then 1 else 0) (c : x = 0) (hw : w = RuA row n) (e : y = -1 - w) : y = RuR row n := by
  unfold RuR
  by_cases q : RuA row n = -1
  · rw [if_pos q] at h; exact absurd (c.symm.trans h) (by decide)
  · rw [if_neg q, ← hw]; exact e
