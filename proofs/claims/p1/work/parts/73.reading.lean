/-! ===== the reference's reading: where it is (109), what was wrong (110) ===== -/
def pst (G : Gh) (a w : Int32) : Gh := gset (gset G 109 a) 110 w
def bn3 {α : Type} (s : Int32 × Int32 × Int32) (k : Int32 → Int32 → Int32 → α) : α := k s.1 s.2.1 s.2.2
theorem bn3_to {α : Type} {s : Int32 × Int32 × Int32} {k : Int32 → Int32 → Int32 → α} {X : α} {r a w : Int32} (h1 : r = s.1) (h2 : a = s.2.1) (h3 : w = s.2.2) (hv : bn3 s k = X) : k r a w = X := by subst h1 h2 h3; exact hv
theorem bn3_tov {α : Type} {s : Int32 × Int32 × Int32} {k : Int32 → Int32 → Int32 → α} {X : α} {a w : Int32} (h2 : a = s.2.1) (h3 : w = s.2.2) (hv : bn3 s k = X) : k s.1 a w = X := by subst h2 h3; exact hv
theorem rg_clash {a b c d : Int} {x : Int32} {P : Prop} (h1 : rgI a b x) (h2 : rgI c d x) (h : b < c ∨ d < a) : P := by
  have q1 := h1.1; have q2 := h1.2; have q3 := h2.1; have q4 := h2.2; omega
def PE (g : Gx) (Ty : TyM) (G : Gh) (rd nn : Nat) (rdf askf : Nat → Int32) (len top isA : Int32) (M : Int) (a w : Int32) : Prop := G.2.2 106 = some rd ∧ Ty rd = some (31, nn) ∧ G.2.1 rd = rdf ∧ (∀ i, i < 7 → G.2.1 (g.2.2 115) i = askf i) ∧ G.1 107 = len ∧ G.1 108 = top ∧ G.1 114 = isA ∧ G.1 109 = a ∧ G.1 110 = w ∧ rgI 0 (nn : Int) len ∧ nn ≤ 80 ∧ (len.toInt ≤ M ∨ top.toInt ≤ M) ∧ 0 ≤ M ∧ M ≤ 80 ∧ rgI 0 M a
section PEs
variable {g : Gx} {Ty : TyM} {G G0 G1 : Gh} {rd nn : Nat} {rdf askf : Nat → Int32} {len top isA a w x y at0 r : Int32} {M : Int}
theorem PE.e107 (h : PE g Ty G rd nn rdf askf len top isA M a w) : G.1 107 = len := h.2.2.2.2.1
theorem PE.e108 (h : PE g Ty G rd nn rdf askf len top isA M a w) : G.1 108 = top := h.2.2.2.2.2.1
theorem PE.e114 (h : PE g Ty G rd nn rdf askf len top isA M a w) : G.1 114 = isA := h.2.2.2.2.2.2.1
theorem PE.e109 (h : PE g Ty G rd nn rdf askf len top isA M a w) : G.1 109 = a := h.2.2.2.2.2.2.2.1
theorem PE.e110 (h : PE g Ty G rd nn rdf askf len top isA M a w) : G.1 110 = w := h.2.2.2.2.2.2.2.2.1
theorem PE.rl (h : PE g Ty G rd nn rdf askf len top isA M a w) : rgI 0 (nn : Int) len := h.2.2.2.2.2.2.2.2.2.1
theorem PE.n80 (h : PE g Ty G rd nn rdf askf len top isA M a w) : nn ≤ 80 := h.2.2.2.2.2.2.2.2.2.2.1
theorem PE.hM (h : PE g Ty G rd nn rdf askf len top isA M a w) : len.toInt ≤ M ∨ top.toInt ≤ M := h.2.2.2.2.2.2.2.2.2.2.2.1
theorem PE.m0 (h : PE g Ty G rd nn rdf askf len top isA M a w) : 0 ≤ M := h.2.2.2.2.2.2.2.2.2.2.2.2.1
theorem PE.m8 (h : PE g Ty G rd nn rdf askf len top isA M a w) : M ≤ 80 := h.2.2.2.2.2.2.2.2.2.2.2.2.2.1
theorem PE.ra (h : PE g Ty G rd nn rdf askf len top isA M a w) : rgI 0 M a := h.2.2.2.2.2.2.2.2.2.2.2.2.2.2
theorem PE.ra8 (h : PE g Ty G rd nn rdf askf len top isA M a w) : rgI 0 80 a := ⟨h.ra.1, Int.le_trans h.ra.2 h.m8⟩
theorem pst_id (h : PE g Ty G rd nn rdf askf len top isA M a w) : G = pst G a w := by
  unfold pst
  rw [gs_id (i := 109) (x := a) h.e109.symm, gs_id h.e110.symm]
theorem gs_sw {i j : Nat} (h : i ≠ j) : gset (gset G i x) j y = gset (gset G j y) i x := by
  unfold gset
  refine Prod.ext ?_ rfl
  funext k
  show upd (upd G.1 i x) j y k = upd (upd G.1 j y) i x k
  unfold upd
  by_cases h1 : k = i
  · rw [if_pos h1, if_pos h1, if_neg (by omega)]
  · rw [if_neg h1, if_neg h1]
theorem pst_a (h : G0 = pst G a w) (e : G1 = gset G0 109 x) : G1 = pst G x w := by
  rw [e, h]; unfold pst; rw [gs_sw (by decide), gs_gs]
theorem pst_w (h : G0 = pst G a w) (e : G1 = gset G0 110 x) : G1 = pst G a x := by
  rw [e, h]; unfold pst; rw [gs_gs]
theorem pst_pst (e : G1 = pst G0 x y) (h : G0 = pst G a w) : G1 = pst G x y := by
  rw [e]; unfold pst
  exact pst_w (pst_a h rfl) rfl
theorem PE.atx (h : PE g Ty G0 rd nn rdf askf len top isA M a w) (e : G1 = gset G0 109 x) (hr : rgI 0 M x) : PE g Ty G1 rd nn rdf askf len top isA M x w := by
  subst e
  exact ⟨h.1, h.2.1, h.2.2.1, h.2.2.2.1, (gs_ne (by decide)).trans h.e107, (gs_ne (by decide)).trans h.e108, (gs_ne (by decide)).trans h.e114, gs_eq, (gs_ne (by decide)).trans h.e110, h.rl, h.n80, h.hM, h.m0, h.m8, hr⟩
theorem PE.wr (h : PE g Ty G0 rd nn rdf askf len top isA M a w) (e : G1 = gset G0 110 x) : PE g Ty G1 rd nn rdf askf len top isA M a x := by
  subst e
  exact ⟨h.1, h.2.1, h.2.2.1, h.2.2.2.1, (gs_ne (by decide)).trans h.e107, (gs_ne (by decide)).trans h.e108, (gs_ne (by decide)).trans h.e114, (gs_ne (by decide)).trans h.e109, gs_eq, h.rl, h.n80, h.hM, h.m0, h.m8, h.ra⟩
theorem PE.ps (h : PE g Ty G0 rd nn rdf askf len top isA M a w) (e : G1 = pst G0 x y) (hr : rgI 0 M x) : PE g Ty G1 rd nn rdf askf len top isA M x y := by
  unfold pst at e
  exact PE.wr (PE.atx h rfl hr) e
theorem PE.ix (h : PE g Ty G rd nn rdf askf len top isA M a w) (hc : a < len) : vp_in a nn := by
  have q := fz_lt.mp hc; have q1 := h.ra.1; have q2 := h.rl.2
  exact vp_in_iff.mpr ⟨q1, by omega⟩
/-- what a step of the reading answers, where it is then, what was wrong -/
def PR (G G1 : Gh) (r at0 : Int32) (M : Int) (s : Int32 × Int32 × Int32) : Prop := r = s.1 ∧ G1 = pst G s.2.1 s.2.2 ∧ at0.toInt ≤ s.2.1.toInt ∧ rgI 0 M s.2.1
theorem PR.mk {s : Int32 × Int32 × Int32} (hv : (r, a, w) = s) (hp : G1 = pst G a w) (hm : at0.toInt ≤ a.toInt) (hr : rgI 0 M a) : PR G G1 r at0 M s := by subst hv; exact ⟨rfl, hp, hm, hr⟩
def PRv (G G1 : Gh) (at0 : Int32) (M : Int) (s : Int32 × Int32 × Int32) : Prop := G1 = pst G s.2.1 s.2.2 ∧ at0.toInt ≤ s.2.1.toInt ∧ rgI 0 M s.2.1
theorem PRv.mk {s : Int32 × Int32 × Int32} (hv : ((0 : Int32), a, w) = s) (hp : G1 = pst G a w) (hm : at0.toInt ≤ a.toInt) (hr : rgI 0 M a) : PRv G G1 at0 M s := by subst hv; exact ⟨hp, hm, hr⟩
theorem nh_eq {k f : Int32} (e : x = f) (c : x = k) (hk : ¬ k = -1) : ¬ f = -1 := fun q => hk (by rw [← c, e]; exact q)
theorem nh_pos {lo hi : Int} (h : rgI lo hi x) (hl : 0 ≤ lo) : ¬ x = -1 := fun q => by
  have h1 := h.1; rw [q] at h1
  have : (-1 : Int32).toInt = -1 := rfl
  omega
theorem nh_in {f l u : Int32} {lo hi : Int} (h : r = 0 ∨ (l ≤ x ∧ x ≤ u)) (c : ¬ r = 0) (e : x = f) (hl : rgI lo hi l) (h0 : 0 ≤ lo) : ¬ f = -1 := by
  have q := fz_le.mp (h.resolve_left c).1
  have q2 := hl.1
  have q3 : rgI 0 2147483647 x := ⟨by omega, (rg_top x).2⟩
  rw [← e]; exact nh_pos q3 (by decide)
theorem nh_let {f : Int32} (h : r = F_X12_letterOf x) (c : ¬ r = -1) (e : x = f) : ¬ f = -1 := fun q => c (by rw [h, e, q]; decide)
end PEs
