/-! ===== years (5: mounts, binds, makes) ===== -/
theorem and_0 (x : Int32) : (0 : Int32) &&& x = 0 := b_ext (fun i _ => by rw [b_and, b_0]; rfl)
section RLs
variable {p q m : Nat → Int32} {t u n : Int32} {f : Nat → Int32}
/-- a refusal is told the same -/
theorem neg3 {r : Int32} (h : r = -1 ∨ r = -2 ∨ r = -9) : ¬ (0 : Int32) ≤ r ∧ ¬ r = 0 := by
  rcases h with e | e | e <;> (subst e; decide)
theorem RV.mounts (h : RV p q m t u n f) (hn : ¬ n = 0) (rl r2 r3 h3 : Nat → Int32) (c m22 a d : Int32) :
    ∃ (r : Int32) (p' q' m' h3' : Nat → Int32) (t' m22' n' : Int32), F_X11_mounts p q m h3 t m22 n a d = (r, p', q', m', h3', t', m22', n') ∧ (n' = n ∨ n' = n + 1) ∧
    ((F_X12_refusesComing_x f rl 0 a d = 0 ∧ ∃ (r' : Int32) (f' r2' r3' : Nat → Int32) (c' : Int32), F_X12_goClone_x f rl r2 r3 0 c 24 a d = (r', f', r2', r3', c') ∧ RV p' q' m' t' u n' f') ∨ (¬ F_X12_refusesComing_x f rl 0 a d = 0 ∧ RV p' q' m' t' u n' f)) := by
  rcases h.parents rl a d with ⟨r, ep, er, hr⟩ | ⟨er, hp, k, b, hk, hb, ea, ed, ht, hHI⟩
  · refine ⟨F_X11_toldWithCame (F_X0_parentsBy p q m t a d), p, q, m, h3, t, m22, n, ?_, Or.inl rfl, Or.inr ⟨by rw [er]; exact (neg3 hr).2, h⟩⟩
    unfold F_X11_mounts F_X0_mountNew
    rw [if_neg (by rw [ep]; exact (neg3 hr).1)]
  · subst ea ed
    obtain ⟨r, r', p', q', m', h3', t', f', r2', r3', c', n', e1, e2, hR, hn'⟩ := h.bring hn rl r2 r3 h3 c m22 24 (Or.inl rfl) hk hb ht hHI
    refine ⟨F_X11_toldWithCame r, p', q', m', h3', t', m22 + 1, n', ?_, hn', Or.inl ⟨er, r', f', r2', r3', c', e2, hR⟩⟩
    unfold F_X11_mounts F_X0_mountNew
    rw [if_pos hp, e1]
theorem RV.binds (h : RV p q m t u n f) (hn : ¬ n = 0) (rl r2 r3 h3 : Nat → Int32) (c m22 o a d : Int32) :
    ∃ (r : Int32) (p' q' m' h3' : Nat → Int32) (t' m22' n' : Int32), F_X11_binds p q m h3 t u m22 n o a d = (r, p', q', m', h3', t', m22', n') ∧ (n' = n ∨ n' = n + 1) ∧
    ((F_X12_refusesBind_x f rl 0 o a d = 0 ∧ ∃ (r' : Int32) (f' r2' r3' : Nat → Int32) (c' : Int32), F_X12_goClone_x f rl r2 r3 0 c o a d = (r', f', r2', r3', c') ∧ RV p' q' m' t' u n' f') ∨ (¬ F_X12_refusesBind_x f rl 0 o a d = 0 ∧ RV p' q' m' t' u n' f)) := by
  by_cases c1 : F_X12_isThere f o = 0
  · refine ⟨F_X11_toldWithCame (-1), p, q, m, h3, t, m22, n, ?_, Or.inl rfl, Or.inr ⟨?_, h⟩⟩
    · unfold F_X11_binds F_X0_bindOne
      rw [h.has, if_pos c1]
    · unfold F_X12_refusesBind_x
      rw [if_pos c1]; decide
  · obtain ⟨kk, hkk, ekk, htk⟩ := isThere_k c1
    rcases h.parents rl a d with ⟨r, ep, er, hr⟩ | ⟨er, hp, k, b, hk, hb, ea, ed, ht, hHI⟩
    · have u0 : ¬ f (Int32.toNatClampNeg ((96 : Int32) + o)) = 1 := by rw [ekk, e96n hkk, h.u2 kk hkk]; decide
      have cu : F_X10_isUnbindable u o = 0 := by
        unfold F_X10_isUnbindable
        rw [ekk, if_neg (nI_nn (by omega)), if_neg (k24 hkk), h.u0, and_0, if_pos rfl]
      refine ⟨F_X11_toldWithCame r, p, q, m, h3, t, m22, n, ?_, Or.inl rfl, Or.inr ⟨?_, h⟩⟩
      · unfold F_X11_binds F_X0_bindOne
        rw [h.has, if_neg c1, ep]
        rcases hr with e | e | e <;> subst e
        · rw [if_pos rfl]
        · rw [if_neg (by decide), if_pos rfl]
        · rw [if_neg (by decide), if_neg (by decide), if_pos cu, if_neg (by decide)]
      · unfold F_X12_refusesBind_x
        rw [if_neg c1, er]
        rcases hr with e | e | e <;> subst e
        · rw [if_pos rfl]; decide
        · rw [if_neg (by decide), if_pos rfl]; decide
        · rw [if_neg (by decide), if_neg (by decide), if_neg u0]; decide
    · have u0 : ¬ f (Int32.toNatClampNeg ((96 : Int32) + o)) = 1 := by rw [ekk, e96n hkk, h.u2 kk hkk]; decide
      have cu : F_X10_isUnbindable u o = 0 := by
        unfold F_X10_isUnbindable
        rw [ekk, if_neg (nI_nn (by omega)), if_neg (k24 hkk), h.u0, and_0, if_pos rfl]
      have m1 : ¬ F_X0_parentsBy p q m t a d = -1 := fun w => by rw [w] at hp; exact absurd hp (by decide)
      have m2 : ¬ F_X0_parentsBy p q m t a d = -2 := fun w => by rw [w] at hp; exact absurd hp (by decide)
      subst ea ed
      obtain ⟨r, r', p', q', m', h3', t', f', r2', r3', c', n', e1, e2, hR, hn'⟩ := h.bring hn rl r2 r3 h3 c m22 o (Or.inr ⟨kk, hkk, ekk⟩) hk hb ht hHI
      refine ⟨F_X11_toldWithCame r, p', q', m', h3', t', m22 + 1, n', ?_, hn', Or.inl ⟨?_, r', f', r2', r3', c', e2, hR⟩⟩
      · unfold F_X11_binds F_X0_bindOne
        rw [h.has, if_neg c1, if_neg m1, if_neg m2, if_pos cu, if_pos hp, e1]
      · unfold F_X12_refusesBind_x
        rw [if_neg c1, er, if_neg (by decide), if_neg (by decide), if_neg u0]
theorem RV.grp (h : RV p q m t u n f) {k : Nat} (hk : k < 24) (ht : ¬ f k = -1) {n' : Int32} (g : Int32) {f' : Nat → Int32} (e : ∀ i, i < 120 → ¬ i = 48 + k → f' i = f i) (e1 : f' (48 + k) = g) (e2 : n' = f' 121) : RV p (upd q k g) m t u n' f' := by
  refine ⟨fun i => ?_, by rw [e 0 (by omega) (by omega)]; exact h.f0, h.p0, fun i hi w => h.no i hi (by rw [← e i (by omega) (by omega)]; exact w), fun i h1 h2 w => ?_, fun i hi => ?_, fun i hi w => ?_, fun i hi => ⟨h.m i hi, by rw [e (72 + i) (by omega) (by omega)]; exact h.m2 i hi, by rw [e (96 + i) (by omega) (by omega)]; exact h.u2 i hi⟩, h.u0, e2⟩
  · rw [h.t]
    by_cases c : i < 24
    · show (decide (i < 24) && decide (¬ f i = -1)) = (decide (i < 24) && decide (¬ f' i = -1))
      rw [e i (by omega) (by omega)]
    · rw [decide_eq_false c, Bool.false_and, Bool.false_and]
  · rw [e i (by omega) (by omega)] at w
    obtain ⟨a, b, ha, hb, hn, e3, e4, e5⟩ := h.pl i h1 h2 w
    exact ⟨a, b, ha, hb, by rw [e a (by omega) (by omega)]; exact hn, by rw [e i (by omega) (by omega)]; exact e3, by rw [e (24 + i) (by omega) (by omega)]; exact e4, e5⟩
  · by_cases c : i = k
    · rw [c, upd_eq, e1]
    · rw [upd_ne c, e (48 + i) (by omega) (by omega)]; exact h.q i hi
  · have w2 : f i = -1 := by rw [← e i (by omega) (by omega)]; exact w
    have c : ¬ i = k := fun z => ht (by rw [← z]; exact w2)
    rw [e (48 + i) (by omega) (by omega)]
    exact h.q0 i hi w2
theorem RV.makes (h : RV p q m t u n f) (m22 a : Int32) :
    ∃ (r : Int32) (q' : Nat → Int32) (m22' n' : Int32), F_X11_makes q m t u m22 n a 1 = (r, q', m, u, m22', n') ∧ (n' = n ∨ n' = n + 1) ∧
    ((F_X12_refusesMaking f a 1 = 0 ∧ RV p q' m t u n' (F_X12_goMake f a 1)) ∨ (¬ F_X12_refusesMaking f a 1 = 0 ∧ RV p q' m t u n' f)) := by
  by_cases c1 : F_X12_isThere f a = 0
  · refine ⟨F_X11_remembered (-1), q, m22, n, ?_, Or.inl rfl, Or.inr ⟨?_, h⟩⟩
    · unfold F_X11_makes F_X0_makeKind
      rw [h.has, if_pos c1]
    · unfold F_X12_refusesMaking
      rw [if_pos c1]; decide
  · obtain ⟨k, hk, ek, ht⟩ := isThere_k c1
    have hu : u &&& ((1 <<< (nI k &&& 31)) ^^^ (-1)) = u := by rw [h.u0, and_0]
    have rf : F_X12_refusesMaking f (nI k) 1 = 0 := by
      unfold F_X12_refusesMaking
      rw [if_neg (by rw [← ek]; exact c1), show F_X12_in 1 0 3 = 1 by decide, if_neg (by decide), if_neg (by decide)]
    have ch : ¬ F_X10_has t (nI k) = 0 := by rw [h.has, ← ek]; exact c1
    have k1 : ¬ (1 : Int32) < 0 := by decide
    have k2 : (1 : Int32) ≤ 3 := by decide
    have k3 : ¬ (1 : Int32) = 2 := by decide
    have k4 : ¬ (1 : Int32) = 0 := by decide
    obtain ⟨n1, n2, -⟩ := h.ng
    subst ek
    by_cases c2 : q k = 0
    · have es : F_X10_makeShared q t u n (nI k) = (upd q k n, u, n + 1) := by
        unfold F_X10_makeShared
        rw [if_neg ch, nI_cl hk, if_pos c2, n1, hu]
      refine ⟨F_X11_remembered (((10 : Int32) * (F_X10_kindOf q m t u (nI k))) + (F_X10_kindOf (upd q k n) m t u (nI k))), upd q k n, m22 + 1, n + 1, ?_, Or.inr rfl, Or.inl ⟨rf, ?_⟩⟩
      · unfold F_X11_makes F_X0_makeKind
        rw [if_neg ch, if_neg k1, if_pos k2, if_neg k3, if_neg k4, if_pos rfl, es]
      · have em : F_X12_goMake f (nI k) 1 = upd (upd (upd (upd f (96 + k) 0) 121 (n + 1)) (48 + k) n) 120 ((upd (upd (upd f (96 + k) 0) 121 (n + 1)) (48 + k) n) 120 + 1) := by
          have ng2 : F_X12_newGroup (upd f (96 + k) 0) = (n, upd (upd f (96 + k) 0) 121 (n + 1)) := by
            unfold F_X12_newGroup
            rw [e121n, upd_eq, upd_ne (show 121 ≠ 96 + k by omega), Int32.add_sub_cancel, ← h.n]
          unfold F_X12_goMake
          rw [if_pos rfl, e96n hk, e48 hk, upd_ne (show 48 + k ≠ 96 + k by omega), if_pos (by rw [← h.q k hk]; exact c2), ng2, e120n]
        rw [em]
        refine h.grp hk ht n (fun i hi hi2 => ?_) ?_ ?_
        · rw [upd_ne (by omega), upd_ne hi2, upd_ne (by omega)]
          by_cases z : i = 96 + k
          · rw [z, upd_eq, h.u2 k hk]
          · rw [upd_ne z]
        · rw [upd_ne (by omega), upd_eq]
        · rw [upd_ne (by omega), upd_ne (by omega), upd_eq]
    · have es : F_X10_makeShared q t u n (nI k) = (q, u, n) := by
        unfold F_X10_makeShared
        rw [if_neg ch, nI_cl hk, if_neg c2, hu]
      refine ⟨F_X11_remembered (((10 : Int32) * (F_X10_kindOf q m t u (nI k))) + (F_X10_kindOf q m t u (nI k))), q, m22 + 1, n, ?_, Or.inl rfl, Or.inl ⟨rf, ?_⟩⟩
      · unfold F_X11_makes F_X0_makeKind
        rw [if_neg ch, if_neg k1, if_pos k2, if_neg k3, if_neg k4, if_pos rfl, es]
      · have em : F_X12_goMake f (nI k) 1 = upd (upd f (96 + k) 0) 120 ((upd f (96 + k) 0) 120 + 1) := by
          unfold F_X12_goMake
          rw [if_pos rfl, e96n hk, e48 hk, upd_ne (show 48 + k ≠ 96 + k by omega), if_neg (by rw [← h.q k hk]; exact c2), e120n]
        rw [em]
        refine h.cong (fun i hi => ?_) ?_
        · rw [upd_ne (by omega)]
          by_cases z : i = 96 + k
          · rw [z, upd_eq, h.u2 k hk]
          · rw [upd_ne z]
        · rw [upd_ne (by omega), upd_ne (by omega)]
end RLs
