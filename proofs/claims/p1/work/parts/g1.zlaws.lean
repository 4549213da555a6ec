/-! ===== the reference on a new object: small facts ===== -/
theorem rg_m1 {x : Int32} (h : x = -1) : rgI (-1) (-1) x := by rw [h]; exact rl_m1
theorem rg_is0 {x : Int32} (h : rgI 0 0 x) : x = 0 := rg_is (n := 0) h rfl
theorem rg_ism {x : Int32} (h : rgI (-1) (-1) x) : x = -1 := rg_one h rl_m1
theorem thr_now {f : Nat → Int32} {k : Int32} (h : thr f k) (hN : f = nowF) : rgI 0 0 k := by
  subst hN
  exact rg_of0 (now_thr h)
theorem fzr_h0 (rl : Nat → Int32) (b : Nat) : F_X12_hitsOf_x nowF rl 0 (nI 0) (nI b) = 0 := by
  have h := (RV_0.hits rl (k := 0) (b := b) (by decide) (by decide)).2
  refine b_ext (fun i _ => ?_)
  rw [b_0]
  cases c : bt (F_X12_hitsOf_x nowF rl 0 (nI 0) (nI b)) i with
  | false => rfl
  | true => exact absurd rfl (h i c).2.2.2
theorem dir4 {d : Int32} (hd : rgI 0 3 d) : ∃ b, b < 4 ∧ d = nI b := by
  obtain ⟨k, hk, e⟩ := nI_of (x := d) (fun q => by have := fz_lt.mp q; have := hd.1; have z : (0 : Int32).toInt = 0 := rfl; omega)
  refine ⟨k, ?_, e⟩
  have := hd.2
  rw [e, nI_toInt hk] at this
  omega
theorem fzr_hits {f rl : Nat → Int32} {s a d r : Int32} (h : F_X12_hitsOf_x f rl s a d = r) (hN : f = nowF) (hs : rgI 0 0 s) (ha : rgI 0 0 a) (hd : rgI 0 3 d) : rgI 0 0 r := by
  obtain ⟨b, -, e⟩ := dir4 hd
  rw [← h, hN, rg_is0 hs, rg_is0 ha, e]
  exact rg_of0 (fzr_h0 rl b)
theorem fzr_at0 (d : Int32) : F_X12_atOf nowF 0 d = 24 := by
  rcases atOf_k nowF 0 d with ⟨k, k1, k2, -, e, -⟩ | ⟨e, -⟩
  · unfold nowF at e
    rw [if_neg (by omega), if_neg (by omega), if_neg (by omega), if_pos k2] at e
    exact absurd e (by decide)
  · exact e
theorem fzr_atOf {f : Nat → Int32} {a d : Int32} (hN : f = nowF) (ha : rgI 0 0 a) : rgI 24 24 (F_X12_atOf f a d) := by
  rw [hN, rg_is0 ha, fzr_at0]
  exact ⟨by decide, by decide⟩
theorem fzr_com {f rl : Nat → Int32} {s a d r : Int32} (h : F_X12_refusesComing_x f rl s a d = r) (hN : f = nowF) (hs : rgI 0 0 s) (ha : rgI 0 0 a) (hd : rgI 0 3 d) : rgI 0 0 r := by
  obtain ⟨b, hb, e⟩ := dir4 hd
  rw [← h, hN, rg_is0 hs, rg_is0 ha, e]
  have k1 : ¬ F_X12_isThere nowF 0 = 0 := by decide +kernel
  have k2 : ¬ F_X12_isDir (nI b) = 0 := by rw [(dir_k hb).2.2]; decide
  have k3 : F_X12_hitsOf_x nowF rl 0 0 (nI b) = 0 := fzr_h0 rl b
  unfold F_X12_refusesComing_x
  rw [if_neg k1, if_neg k2, fzr_at0, if_pos rfl, k3, if_pos (by decide +kernel)]
  exact rl_0
theorem fzr_ins {f : Nat → Int32} {a : Int32} (ha : rgI 0 0 a) (hN : f = nowF) : F_X12_insideOf_x f a = 0 := by
  rw [hN, rg_is0 ha]
  decide +kernel
theorem fzr_has {x y k : Int32} (e : x = F_X12_has y k) (hy : y = 0) (hk : rgI 0 23 k) : rgI 0 0 x := by
  rw [e, hy]
  rcases has_is (b := 0) hk with ⟨h, -⟩ | ⟨-, h⟩
  · rw [h]; exact rl_0
  · rw [b_0] at h; cases h
section rd
variable {G G1 : Gh} {rdf askf : Nat → Int32} {len top isA a w r x : Int32}
theorem ws0 (hl : rgI 0 0 len) (ha : rgI 0 0 a) : F_X12_wasRight rdf askf len top isA a w = (F_X12_fine rdf askf len top isA a w, a, w) := by
  unfold F_X12_wasRight
  rw [if_pos (by rw [rg_is0 hl, rg_is0 ha]; decide)]
theorem fin_z (e : x = F_X12_fine rdf askf len top isA a w) (hw : rgI 0 0 w) : rgI 0 0 x := by
  rw [e, rg_is0 hw]
  unfold F_X12_fine
  rw [if_neg (by decide)]
  exact rl_0
theorem fin_y (e : x = F_X12_fine rdf askf len top isA a w) (hw : rgI (-1) (-1) w) : rgI 1 1 x := by
  rw [e, rg_ism hw]
  unfold F_X12_fine
  rw [if_pos rfl]
  exact ⟨by decide, by decide⟩
theorem wsz_r (hr : r = (F_X12_wasRight rdf askf len top isA a w).1) (hl : rgI 0 0 len) (ha : rgI 0 0 a) (hw : rgI 0 0 w) : rgI 0 0 r := by
  rw [hr, ws0 hl ha]
  show rgI 0 0 (F_X12_fine rdf askf len top isA a w)
  exact fin_z (rdf := rdf) (askf := askf) (len := len) (top := top) (isA := isA) (a := a) (w := w) rfl hw
theorem wsy_r (hr : r = (F_X12_wasRight rdf askf len top isA a w).1) (hl : rgI 0 0 len) (ha : rgI 0 0 a) (hw : rgI (-1) (-1) w) : rgI 1 1 r := by
  rw [hr, ws0 hl ha]
  show rgI 1 1 (F_X12_fine rdf askf len top isA a w)
  exact fin_y (rdf := rdf) (askf := askf) (len := len) (top := top) (isA := isA) (a := a) (w := w) rfl hw
theorem wr_z (hr : r = (F_X12_wasRight rdf askf len top isA a w).1) (hl : rgI 0 0 len) (ha : rgI 0 0 a) (hw : rgI (-1) (-1) w) : rgI 1 1 r := wsy_r hr hl ha hw
theorem wsz_w (hl : rgI 0 0 len) (ha : rgI 0 0 a) (hw : rgI 0 0 w) : rgI 0 0 ((pst G (F_X12_wasRight rdf askf len top isA a w).2.1 (F_X12_wasRight rdf askf len top isA a w).2.2).1 110) := by
  rw [pst110 rfl, ws0 hl ha]
  exact hw
theorem wsy_w (hl : rgI 0 0 len) (ha : rgI 0 0 a) (hw : rgI (-1) (-1) w) : rgI (-1) (-1) ((pst G (F_X12_wasRight rdf askf len top isA a w).2.1 (F_X12_wasRight rdf askf len top isA a w).2.2).1 110) := by
  rw [pst110 rfl, ws0 hl ha]
  exact hw
theorem one_z (hg : G1 = pst G (F_X12_oneOf rdf askf len top isA 97 4 a w).2.1 (F_X12_oneOf rdf askf len top isA 97 4 a w).2.2) (hl : rgI 0 0 len) (ha : rgI 0 0 a) (hw : rgI (-1) (-1) w) : G1.1 110 = 0 ∧ G1.1 109 = 0 := by
  have f1 : F_X12_fine rdf askf 0 top isA 0 (-1) = 1 := by
    unfold F_X12_fine
    rw [if_pos rfl]
  have h1 : F_X12_here rdf askf 0 top isA 0 (-1) = -1 := by
    unfold F_X12_here
    rw [if_pos (by decide)]
  have ft : F_X12_fault rdf askf 0 top isA 0 0 (-1) = (0, 0, 0) := by
    unfold F_X12_fault
    rw [f1, if_neg (by decide)]
  have e : F_X12_oneOf rdf askf 0 top isA 97 4 0 (-1) = (0, 0, 0) := by
    unfold F_X12_oneOf
    rw [f1, if_neg (by decide), h1, if_pos (by decide), ft]
    rfl
  rw [rg_is0 hl, rg_is0 ha, rg_ism hw, e] at hg
  exact ⟨pst110 hg, pst109 hg⟩
end rd
