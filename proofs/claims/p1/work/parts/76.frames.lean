/-! ===== what of a ghost may change ===== -/
def NA (b : Nat) : List Nat → Prop
  | [] => True
  | a :: l => b ≠ a ∧ NA b l
def FR (N A R : List Nat) (G G1 : Gh) : Prop := (∀ i, i ∉ N → G1.1 i = G.1 i) ∧ (∀ b, NA b A → G1.2.1 b = G.2.1 b) ∧ ∀ i, i ∉ R → G1.2.2 i = G.2.2 i
section FRs
variable {N A R N1 A1 R1 : List Nat} {G G1 G2 : Gh}
theorem FR.rf : FR N A R G G := ⟨fun _ _ => rfl, fun _ _ => rfl, fun _ _ => rfl⟩
theorem FR.tr (h : FR N A R G G1) (h2 : FR N1 A1 R1 G1 G2) (hN : ∀ i, i ∈ N1 → i ∈ N) (hA : ∀ b, NA b A → NA b A1) (hR : ∀ i, i ∈ R1 → i ∈ R) : FR N A R G G2 := ⟨fun i hi => (h2.1 i (fun q => hi (hN i q))).trans (h.1 i hi), fun b hb => (h2.2.1 b (hA b hb)).trans (h.2.1 b hb), fun i hi => (h2.2.2 i (fun q => hi (hR i q))).trans (h.2.2 i hi)⟩
theorem FR.n {i : Nat} {v : Int32} (h : FR N A R G G1) (e : G2 = gset G1 i v) (hi : i ∈ N) : FR N A R G G2 := by
  subst e
  exact ⟨fun j hj => (gs_ne (fun (q : j = i) => hj (by rw [q]; exact hi))).trans (h.1 j hj), h.2.1, h.2.2⟩
theorem FR.a {a : Nat} {f : Nat → Int32} (h : FR N A R G G1) (e : G2 = aset G1 a f) (ha : ∀ b, NA b A → b ≠ a) : FR N A R G G2 := by
  subst e
  exact ⟨h.1, fun b hb => (aset_ne (ha b hb)).trans (h.2.1 b hb), h.2.2⟩
theorem rset_ne {i j : Nat} {o : Option Nat} (h : j ≠ i) : (rset G i o).2.2 j = G.2.2 j := by show (if j = i then o else _) = _; rw [if_neg h]
theorem rset_eq {i : Nat} {o : Option Nat} : (rset G i o).2.2 i = o := by show (if i = i then o else _) = _; rw [if_pos rfl]
theorem FR.r {i : Nat} {o : Option Nat} (h : FR N A R G G1) (e : G2 = rset G1 i o) (hi : i ∈ R) : FR N A R G G2 := by
  subst e
  exact ⟨h.1, h.2.1, fun j hj => (rset_ne (fun (q : j = i) => hj (by rw [q]; exact hi))).trans (h.2.2 j hj)⟩
theorem FR.ps {a w : Int32} (h : FR N A R G G1) (e : G2 = pst G1 a w) (hi : 109 ∈ N) (hj : 110 ∈ N) : FR N A R G G2 := by
  unfold pst at e
  exact FR.n (FR.n h rfl hi) e hj
end FRs
theorem mdk_of {g : Gx} {Ty : TyM} {G : Gh} {H : Heap} {h0 : Nat} (hH : HT g Ty G H) (k : Ty h0 = some (22, 0)) : mdK g Ty := by
  obtain ⟨_, ⟨_, _, h⟩, _⟩ := hH h0 _ k
  exact h
/-- the places of the reference's rows are apart -/
def LD (g : Gx) : Prop := ∀ i, i ∈ [100, 101, 103, 115, 116, 121, 123, 124, 125, 126, 129, 130, 131, 132, 134, 135, 136, 138, 140, 141, 111, 112] → ∀ j, j ∈ [100, 101, 103, 115, 116, 121, 123, 124, 125, 126, 129, 130, 131, 132, 134, 135, 136, 138, 140, 141, 111, 112] → i ≠ j → g.2.2 i ≠ g.2.2 j
def pick7 (a b c d e f h : Int32) (i : Nat) : Int32 := if i = 0 then a else if i = 1 then b else if i = 2 then c else if i = 3 then d else if i = 4 then e else if i = 5 then f else h
theorem ask_ok {h0 h1 h2 h3 h4 h5 h6 h7 : Nat → Int32} {a b c d e f z : Int32} (e1 : h1 = upd h0 0 a) (e2 : h2 = upd h1 1 b) (e3 : h3 = upd h2 2 c) (e4 : h4 = upd h3 3 d) (e5 : h5 = upd h4 4 e) (e6 : h6 = upd h5 5 f) (e7 : h7 = upd h6 6 z) : ∀ i, i < 7 → h7 i = pick7 a b c d e f z i := by
  intro i hi
  subst e1 e2 e3 e4 e5 e6 e7
  unfold pick7 upd
  rcases (show i = 0 ∨ i = 1 ∨ i = 2 ∨ i = 3 ∨ i = 4 ∨ i = 5 ∨ i = 6 by omega) with rfl | rfl | rfl | rfl | rfl | rfl | rfl <;> rfl
/-- what a mount tells the rule -/
def askF (f : Nat → Int32) (m d : Int32) : Nat → Int32 := pick7 (F_X12_stepsOf f m) (F_X12_childrenOf f m) (if f (48 + m).toNatClampNeg = 0 then 0 else F_J6_bitCount_0f7a4 (F_X12_inGroup f (f (48 + m).toNatClampNeg))) m d (jrem (f 120) 7) (F_X12_kindOf f m)
def LetF (f rl : Nat → Int32) (size m d : Int32) : Int32 := if size = 0 then 1 else if (F_X12_held rl (askF f m d) size 40 1 (F_X12_thing rl (askF f m d) size 40 1 82) 0 0 (-1)).1 ≤ 0 then 0 else 1
theorem has_is {b k : Int32} (hk : rgI 0 23 k) : (F_X12_has b k = 0 ∧ bt b k.toNatClampNeg = false) ∨ (F_X12_has b k = 1 ∧ bt b k.toNatClampNeg = true) := by
  obtain ⟨j, hj, e⟩ := nI_of (x := k) (fun q => by have := fz_lt.mp q; have z : (0 : Int32).toInt = 0 := rfl; have := hk.1; omega)
  have hj' : j < 24 := by
    have h2 := hk.2
    rw [e, nI_toInt hj] at h2
    omega
  have hn : k.toNatClampNeg = j := by rw [e]; show (nI j).toInt.toNat = j; rw [nI_toInt hj]; rfl
  have hb1 : ∀ i, i < 32 → bt ((b >>> (k &&& 31)) &&& 1) i = (decide (i = 0) && bt b j) := by
    intro i hi
    rw [b_and, e, b_sshr j (by omega) b hi]
    have : ∀ j, j < 32 → bt 1 j = decide (j = 0) := by decide +kernel
    rw [this i hi]
    by_cases q : i = 0
    · subst q; rw [if_pos (by omega)]; simp
    · simp [q]
  rw [hn]
  unfold F_X12_has
  cases h : bt b j with
  | false =>
    have : ((b >>> (k &&& 31)) &&& 1) = 0 := b_ext (fun i hi => by rw [hb1 i hi, h, b_0]; simp)
    rw [this]
    exact Or.inl ⟨by decide, rfl⟩
  | true =>
    have : ((b >>> (k &&& 31)) &&& 1) = 1 := b_ext (fun i hi => by
      rw [hb1 i hi, h]
      have : ∀ j, j < 32 → bt 1 j = decide (j = 0) := by decide +kernel
      rw [this i hi]; simp)
    rw [this]
    exact Or.inr ⟨by decide, rfl⟩
theorem has_1 {b k : Int32} (hk : rgI 0 23 k) (h : ¬ F_X12_has b k = 0) : bt b k.toNatClampNeg = true := (has_is (b := b) hk).elim (fun q => absurd q.1 h) (fun q => q.2)
theorem has_0 {b k : Int32} (hk : rgI 0 23 k) (h : F_X12_has b k = 0) : bt b k.toNatClampNeg = false := (has_is (b := b) hk).elim (fun q => q.2) (fun q => by rw [h] at q; exact absurd q.1 (by decide))
/-- where a clone brings a copy -/
def hitb (f rl : Nat → Int32) (size m d : Int32) (i : Nat) : Bool := decide (¬ nI i = m) && (bt (F_X12_spreadOf f m) i && (decide (F_X12_atOf f (nI i) d = 24) && decide (¬ LetF f rl size (nI i) d = 0)))
