/-! ===== longs as numbers (the family wb_ of kit/laws/BITS.to-paste), and how Long.bitCount counts (below 2^35) ===== -/
theorem wb_tb (n : Nat) : (lN n).toBitVec = BitVec.ofNat 64 n := rfl
theorem wb_inj {a b : Int64} (h : a.toBitVec = b.toBitVec) : a = b := Int64.toBitVec_inj.mp h
theorem wb_tn {n : Nat} (h : n < 2 ^ 64) : (lN n).toBitVec.toNat = n := by rw [wb_tb, BitVec.toNat_ofNat, Nat.mod_eq_of_lt h]
theorem wb_of (x : Int64) : ∃ n, n < 2 ^ 64 ∧ x = lN n := ⟨x.toBitVec.toNat, x.toBitVec.isLt, wb_inj (by rw [wb_tb]; simp)⟩
theorem wb_c : ∀ k, k < 64 → ((nI k).toInt64 &&& 63) = lN k := by decide +kernel
theorem wb_cu : ∀ k, k < 64 → ((nI k).toInt64.toUInt64 &&& Int64.toUInt64 63) = UInt64.ofNat k := by decide +kernel
theorem wb_sm : ∀ k, k < 64 → (BitVec.ofNat 64 k).smod 64 = BitVec.ofNat 64 k := by decide +kernel
theorem wb_lt2 {a b : Nat} (h : a < b) : 2 ^ a < 2 ^ b := Nat.pow_lt_pow_right (by decide) h
theorem wb_shr {n k : Nat} (hn : n < 2 ^ 64) (hk : k < 64) : ((lN n).toUInt64 >>> ((nI k).toInt64.toUInt64 &&& Int64.toUInt64 63)).toInt64 = lN (n / 2 ^ k) := by
  rw [wb_cu k hk]
  apply wb_inj
  apply BitVec.eq_of_toNat_eq
  show ((lN n).toUInt64 >>> UInt64.ofNat k).toNat = (BitVec.ofNat 64 _).toNat
  have h1 : (UInt64.ofNat k).toNat = k := by
    show (BitVec.ofNat 64 k).toNat = k
    rw [BitVec.toNat_ofNat, Nat.mod_eq_of_lt (by omega)]
  have h2 : (lN n).toUInt64.toNat = n := wb_tn hn
  rw [UInt64.toNat_shiftRight, h1, h2, Nat.mod_eq_of_lt hk, Nat.shiftRight_eq_div_pow, BitVec.toNat_ofNat, Nat.mod_eq_of_lt (Nat.lt_of_le_of_lt (Nat.div_le_self _ _) hn)]
theorem wb_shl (n : Nat) {k : Nat} (hk : k < 64) : lN n <<< ((nI k).toInt64 &&& 63) = lN (n * 2 ^ k) := by
  rw [wb_c k hk]
  apply wb_inj
  rw [Int64.toBitVec_shiftLeft, wb_tb, wb_tb, wb_tb, wb_sm k hk]
  apply BitVec.eq_of_toNat_eq
  rw [BitVec.shiftLeft_eq', BitVec.toNat_shiftLeft, BitVec.toNat_ofNat, BitVec.toNat_ofNat, BitVec.toNat_ofNat, Nat.mod_eq_of_lt (show k < 2 ^ 64 by omega), Nat.shiftLeft_eq, Nat.mul_mod, Nat.mod_mod, ← Nat.mul_mod]
theorem wb_and {a b : Nat} (ha : a < 2 ^ 64) (hb : b < 2 ^ 64) : lN a &&& lN b = lN (a &&& b) := by
  apply wb_inj
  rw [Int64.toBitVec_and, wb_tb, wb_tb, wb_tb]
  apply BitVec.eq_of_toNat_eq
  rw [BitVec.toNat_and, BitVec.toNat_ofNat, BitVec.toNat_ofNat, BitVec.toNat_ofNat, Nat.mod_eq_of_lt ha, Nat.mod_eq_of_lt hb, Nat.mod_eq_of_lt (Nat.and_lt_two_pow _ hb)]
theorem wb_or {a b : Nat} (ha : a < 2 ^ 64) (hb : b < 2 ^ 64) : lN a ||| lN b = lN (a ||| b) := by
  apply wb_inj
  rw [Int64.toBitVec_or, wb_tb, wb_tb, wb_tb]
  apply BitVec.eq_of_toNat_eq
  rw [BitVec.toNat_or, BitVec.toNat_ofNat, BitVec.toNat_ofNat, BitVec.toNat_ofNat, Nat.mod_eq_of_lt ha, Nat.mod_eq_of_lt hb, Nat.mod_eq_of_lt (Nat.or_lt_two_pow ha hb)]
def q1M (M n : Nat) : Nat := n - (n / 2 &&& M)
def q2M (M n : Nat) : Nat := (n &&& M) + (n / 4 &&& M)
def q3M (M n : Nat) : Nat := (n + n / 16) &&& M
theorem q1M_st {M m a : Nat} (ha : a < 256) : q1M (256 * M + 85) (256 * m + a) = 256 * q1M M m + s1 a := by
  have h1 : (256 * m + a) / 2 = 256 * (m / 2) + (a / 2 + 128 * (m % 2)) := by omega
  obtain ⟨x1, x2, x3, -⟩ := t1 a ha (m % 2) (Nat.mod_lt _ (by decide))
  have hm : (m / 2 &&& M) ≤ m := Nat.le_trans Nat.and_le_left (Nat.div_le_self _ _)
  unfold q1M
  rw [h1, land8 _ _ x3 (by decide), x1]
  unfold s1
  omega
theorem q2M_st {M m a : Nat} (ha : a < 256) : q2M (256 * M + 51) (256 * m + s1 a) = 256 * q2M M m + s2 (s1 a) := by
  have la := (t1 a ha 0 (by decide)).2.2.2
  have h1 : (256 * m + s1 a) / 4 = 256 * (m / 4) + (s1 a / 4 + 64 * (m % 4)) := by omega
  obtain ⟨x1, x2, -, -⟩ := t2 a ha (m % 4) (Nat.mod_lt _ (by decide))
  unfold q2M
  rw [h1, land8 _ _ la (by decide), land8 _ _ x2 (by decide), x1]
  unfold s2
  omega
theorem q3M_st {M m a : Nat} (ha : a < 256) (hm : m % 16 < 5) : q3M (256 * M + 15) (256 * m + s2 (s1 a)) = 256 * q3M M m + p8 a := by
  obtain ⟨x1, x2⟩ := t3 a ha (m % 16) hm
  have h1 : 256 * m + s2 (s1 a) + (256 * m + s2 (s1 a)) / 16 = 256 * (m + m / 16) + (s2 (s1 a) + s2 (s1 a) / 16 + 16 * (m % 16)) := by omega
  unfold q3M
  rw [h1, land8 _ _ x2 (by decide), x1]
theorem q1M_t : ∀ c, c < 256 → q1M 1431655765 c = s1 c := by decide +kernel
theorem q2M_t : ∀ c, c < 256 → q2M 858993459 (s1 c) = s2 (s1 c) := by decide +kernel
theorem q3M_t : ∀ c, c < 256 → q3M 252645135 (s2 (s1 c)) = p8 c := by decide +kernel
theorem q2_lo : ∀ c, c < 256 → s2 (s1 c) % 16 < 5 := by decide +kernel
/-- the bits of a number below 2^40, counted -/
def cL (n : Nat) : Nat := p8 (n % 256) + p8 (n / 256 % 256) + p8 (n / 65536 % 256) + p8 (n / 16777216 % 256) + p8 (n / 4294967296)
def q4L (n : Nat) : Nat := n + n / 256
def q5L (n : Nat) : Nat := n + n / 65536
def q6L (n : Nat) : Nat := n + n / 4294967296
theorem q3L {a b c d e : Nat} (ha : a < 256) (hb : b < 256) (hc : c < 256) (hd : d < 256) (he : e < 256) : q3M 1085102592571150095 (q2M 3689348814741910323 (q1M 6148914691236517205 (256 * (256 * (256 * (256 * e + d) + c) + b) + a))) = 256 * (256 * (256 * (256 * p8 e + p8 d) + p8 c) + p8 b) + p8 a := by
  have e1 : q1M 6148914691236517205 (256 * (256 * (256 * (256 * e + d) + c) + b) + a) = 256 * (256 * (256 * (256 * s1 e + s1 d) + s1 c) + s1 b) + s1 a := by
    rw [show 6148914691236517205 = 256 * (256 * (256 * (256 * 1431655765 + 85) + 85) + 85) + 85 from rfl, q1M_st ha, q1M_st hb, q1M_st hc, q1M_st hd, q1M_t e he]
  have e2 : q2M 3689348814741910323 (256 * (256 * (256 * (256 * s1 e + s1 d) + s1 c) + s1 b) + s1 a) = 256 * (256 * (256 * (256 * s2 (s1 e) + s2 (s1 d)) + s2 (s1 c)) + s2 (s1 b)) + s2 (s1 a) := by
    rw [show 3689348814741910323 = 256 * (256 * (256 * (256 * 858993459 + 51) + 51) + 51) + 51 from rfl, q2M_st ha, q2M_st hb, q2M_st hc, q2M_st hd, q2M_t e he]
  have ne := q2_lo e he; have nd := q2_lo d hd; have nc := q2_lo c hc; have nb := q2_lo b hb
  rw [e1, e2, show 1085102592571150095 = 256 * (256 * (256 * (256 * 252645135 + 15) + 15) + 15) + 15 from rfl, q3M_st ha (by omega), q3M_st hb (by omega), q3M_st hc (by omega), q3M_st hd ne, q3M_t e he]
theorem q6L_b {A B C D E : Nat} (ha : A ≤ 8) (hb : B ≤ 8) (hc : C ≤ 8) (hd : D ≤ 8) (he : E ≤ 8) : q6L (q5L (q4L (256 * (256 * (256 * (256 * E + D) + C) + B) + A))) % 128 = A + B + C + D + E := by
  have e1 : q4L (256 * (256 * (256 * (256 * E + D) + C) + B) + A) = 4294967296 * E + 16777216 * (D + E) + 65536 * (C + D) + 256 * (B + C) + (A + B) := by unfold q4L; omega
  have e2 : q5L (4294967296 * E + 16777216 * (D + E) + 65536 * (C + D) + 256 * (B + C) + (A + B)) = 4294967296 * E + 16777216 * (D + E) + 65536 * (C + D + E) + 256 * (B + C + D + E) + (A + B + C + D) := by unfold q5L; omega
  have e3 : q6L (4294967296 * E + 16777216 * (D + E) + 65536 * (C + D + E) + 256 * (B + C + D + E) + (A + B + C + D)) = 4294967296 * E + 16777216 * (D + E) + 65536 * (C + D + E) + 256 * (B + C + D + E) + (A + B + C + D + E) := by unfold q6L; omega
  rw [e1, e2, e3]
  omega
theorem cL_is {n : Nat} (h : n < 1099511627776) : q6L (q5L (q4L (q3M 1085102592571150095 (q2M 3689348814741910323 (q1M 6148914691236517205 n))))) % 128 = cL n := by
  have e : n = 256 * (256 * (256 * (256 * (n / 4294967296) + n / 16777216 % 256) + n / 65536 % 256) + n / 256 % 256) + n % 256 := by omega
  have he : n / 4294967296 < 256 := by omega
  have k : ∀ x, x % 256 < 256 := fun x => Nat.mod_lt _ (by decide)
  have key := q3L (k n) (k (n / 256)) (k (n / 65536)) (k (n / 16777216)) he
  rw [← e] at key
  rw [key]
  exact q6L_b (p8_le _ (k _)) (p8_le _ (k _)) (p8_le _ (k _)) (p8_le _ (k _)) (p8_le _ he)
theorem cL_le {n : Nat} (h : n < 1099511627776) : cL n ≤ 40 := by
  have k : ∀ x, x % 256 < 256 := fun x => Nat.mod_lt _ (by decide)
  have := p8_le _ (k n); have := p8_le _ (k (n / 256)); have := p8_le _ (k (n / 65536)); have := p8_le _ (k (n / 16777216)); have := p8_le (n / 4294967296) (by omega)
  unfold cL
  omega
theorem cL_ct {n : Nat} (h : n < 1099511627776) : cL n = ct (fun i => n.testBit i) 40 := by
  have h2 : p8 (n / 4294967296) = p8 (n / 4294967296 % 256) := by rw [show n / 4294967296 % 256 = n / 4294967296 by omega]
  unfold cL
  rw [h2, p8_lo, p8_sh, p8_lo (n / 65536), p8_lo (n / 16777216), p8_lo (n / 4294967296)]
  simp only [Nat.div_div_eq_div_mul]
  simp only [ct, tb_div]
  simp only [Nat.reducePow, Nat.reduceMul, Nat.div_one]
  omega
theorem bc_b1 {n : Nat} (h : n < 1099511627776) : q1M 6148914691236517205 n < 2 ^ 62 ∧ q2M 3689348814741910323 (q1M 6148914691236517205 n) < 2 ^ 63 ∧ q3M 1085102592571150095 (q2M 3689348814741910323 (q1M 6148914691236517205 n)) < 2 ^ 61 := by
  have l1 : q1M 6148914691236517205 n ≤ n := Nat.sub_le _ _
  have l2 : (q1M 6148914691236517205 n &&& 3689348814741910323) ≤ q1M 6148914691236517205 n := Nat.and_le_left
  have l3 : (q1M 6148914691236517205 n / 4 &&& 3689348814741910323) ≤ q1M 6148914691236517205 n / 4 := Nat.and_le_left
  have l4 : q3M 1085102592571150095 (q2M 3689348814741910323 (q1M 6148914691236517205 n)) ≤ 1085102592571150095 := Nat.and_le_right
  have e2 : q2M 3689348814741910323 (q1M 6148914691236517205 n) = (q1M 6148914691236517205 n &&& 3689348814741910323) + (q1M 6148914691236517205 n / 4 &&& 3689348814741910323) := rfl
  refine ⟨by omega, by omega, by omega⟩
set_option maxHeartbeats 4000000 in
set_option maxRecDepth 100000 in
theorem c_J13_bitCount_x (l : Launch) (g : Gx) (Ty : TyM) (G : Gh) (n : Nat) (hn : n < 1099511627776) : Met l yJ13_bitCount_95d88 (wsG yJ13_bitCount_95d88 cJ13_bitCount_95d88 2 (some .int)) ({ frames := 0, cells := 0, slots := 0, locals := 0 }) (PcH g Ty G [.long (lN n)]) (vp_Si (fun r => r = nI (cL n))) 0 0 (fun _ => False) := by
  refine Met.ofW (cc := cJ13_bitCount_95d88) (maxL := 2) (ret := (some .int)) (by decide) rfl ?_
  intro p e s m args below meth c s₁ B hml hv
  obtain ⟨rfl, hK, hH⟩ := hv
  have hx := B.exec
  have hb := B.bytes
  have hr := B.returns
  have hts := atoms_spec (ws := (wsG yJ13_bitCount_95d88 cJ13_bitCount_95d88 2 (some .int))) B.pre
  have hG : ∀ w ∈ GW, w.before ([.long (lN n)] : List Value).toArray s = true := fun w h => hts w (List.mem_cons_of_mem _ h)
  have hown : s.vm.findClass "java/lang/Long" = some m.cls := findClass_of_methodNamed B.named
  have hlocks := B.notSynchronized
  have hl := lv_entry [.long (lN n)] (n := 2) (Nat.le_of_ble_eq_true rfl)
  rw [lg_entry_eq]
  generalize (lg_sl [.long (lN n)] ++ List.replicate (2 - (lg_sl [.long (lN n)]).length) Slot.unset).toArray = ls at hl ⊢
  have hl : lv_has ls 2 [(0, .long (lN n))] := hl
  obtain ⟨k1, k2, k3⟩ := bc_b1 hn
  obtain ⟨a1, e1⟩ : ∃ z, z = q1M 6148914691236517205 n := ⟨_, rfl⟩
  obtain ⟨a2, e2⟩ : ∃ z, z = q2M 3689348814741910323 a1 := ⟨_, rfl⟩
  obtain ⟨a3, e3⟩ : ∃ z, z = q3M 1085102592571150095 a2 := ⟨_, rfl⟩
  rw [← e1, ← e2] at k2 k3
  rw [← e1] at k1
  rw [← e3] at k3
  refine lv_lload_n hx hb dJ13_bitCount_95d88_0 rfl (lv_at hl 0 rfl) ?_
  refine lv_lload_n hx hb dJ13_bitCount_95d88_1 rfl (lv_at hl 0 rfl) ?_
  refine lv_iconst (v := 1) hx hb dJ13_bitCount_95d88_2 (by decide) ?_
  refine lv_lushr hx hb dJ13_bitCount_95d88_3 rfl ?_
  refine lv_topl (fun u_1 eu_1 => ?_)
  have eu_1 : u_1 = lN (n / 2) := by rw [eu_1]; exact wb_shr (k := 1) (by omega) (by decide)
  refine lv_ldc2 (v := 6148914691236517205) hx hb hown (hG _ mw_1093) dJ13_bitCount_95d88_4 ?_
  refine lv_land hx hb dJ13_bitCount_95d88_7 ?_
  refine lv_topl (fun u_2 eu_2 => ?_)
  have eu_2 : u_2 = lN (n / 2 &&& 6148914691236517205) := by rw [eu_2, eu_1]; exact wb_and (by omega) (by decide)
  refine lv_lsub hx hb dJ13_bitCount_95d88_8 ?_
  refine lv_topl (fun u_3 eu_3 => ?_)
  have eu_3 : u_3 = lN a1 := by rw [eu_3, eu_2, lN_sub (Nat.le_trans Nat.and_le_left (Nat.div_le_self _ _)), e1]; rfl
  refine lv_lstore_n (lv' := [(0, .long u_3)]) hx hb dJ13_bitCount_95d88_9 rfl hl (by decide) rfl (fun ls hl => ?_)
  refine lv_lload_n hx hb dJ13_bitCount_95d88_10 rfl (lv_at hl 0 rfl) ?_
  refine lv_ldc2 (v := 3689348814741910323) hx hb hown (hG _ mw_1094) dJ13_bitCount_95d88_11 ?_
  refine lv_land hx hb dJ13_bitCount_95d88_14 ?_
  refine lv_topl (fun u_4 eu_4 => ?_)
  have eu_4 : u_4 = lN (a1 &&& 3689348814741910323) := by rw [eu_4, eu_3]; exact wb_and (by omega) (by decide)
  refine lv_lload_n hx hb dJ13_bitCount_95d88_15 rfl (lv_at hl 0 rfl) ?_
  refine lv_iconst (v := 2) hx hb dJ13_bitCount_95d88_16 (by decide) ?_
  refine lv_lushr hx hb dJ13_bitCount_95d88_17 rfl ?_
  refine lv_topl (fun u_5 eu_5 => ?_)
  have eu_5 : u_5 = lN (a1 / 4) := by rw [eu_5, eu_3]; exact wb_shr (k := 2) (by omega) (by decide)
  refine lv_ldc2 (v := 3689348814741910323) hx hb hown (hG _ mw_1094) dJ13_bitCount_95d88_18 ?_
  refine lv_land hx hb dJ13_bitCount_95d88_21 ?_
  refine lv_topl (fun u_6 eu_6 => ?_)
  have eu_6 : u_6 = lN (a1 / 4 &&& 3689348814741910323) := by rw [eu_6, eu_5]; exact wb_and (by omega) (by decide)
  refine lv_ladd hx hb dJ13_bitCount_95d88_22 ?_
  refine lv_topl (fun u_7 eu_7 => ?_)
  have eu_7 : u_7 = lN a2 := by rw [eu_7, eu_4, eu_6, lN_add, e2]; rfl
  refine lv_lstore_n (lv' := [(0, .long u_7)]) hx hb dJ13_bitCount_95d88_23 rfl hl (by decide) rfl (fun ls hl => ?_)
  refine lv_lload_n hx hb dJ13_bitCount_95d88_24 rfl (lv_at hl 0 rfl) ?_
  refine lv_lload_n hx hb dJ13_bitCount_95d88_25 rfl (lv_at hl 0 rfl) ?_
  refine lv_iconst (v := 4) hx hb dJ13_bitCount_95d88_26 (by decide) ?_
  refine lv_lushr hx hb dJ13_bitCount_95d88_27 rfl ?_
  refine lv_topl (fun u_8 eu_8 => ?_)
  have eu_8 : u_8 = lN (a2 / 16) := by rw [eu_8, eu_7]; exact wb_shr (k := 4) (by omega) (by decide)
  refine lv_ladd hx hb dJ13_bitCount_95d88_28 ?_
  refine lv_topl (fun u_9 eu_9 => ?_)
  have eu_9 : u_9 = lN (a2 + a2 / 16) := by rw [eu_9, eu_7, eu_8, lN_add]
  refine lv_ldc2 (v := 1085102592571150095) hx hb hown (hG _ mw_1095) dJ13_bitCount_95d88_29 ?_
  refine lv_land hx hb dJ13_bitCount_95d88_32 ?_
  refine lv_topl (fun u_10 eu_10 => ?_)
  have eu_10 : u_10 = lN a3 := by rw [eu_10, eu_9, e3]; exact wb_and (by omega) (by decide)
  refine lv_lstore_n (lv' := [(0, .long u_10)]) hx hb dJ13_bitCount_95d88_33 rfl hl (by decide) rfl (fun ls hl => ?_)
  refine lv_lload_n hx hb dJ13_bitCount_95d88_34 rfl (lv_at hl 0 rfl) ?_
  refine lv_lload_n hx hb dJ13_bitCount_95d88_35 rfl (lv_at hl 0 rfl) ?_
  refine lv_bipush (v := 8) hx hb dJ13_bitCount_95d88_36 (by decide) ?_
  refine lv_lushr hx hb dJ13_bitCount_95d88_38 rfl ?_
  refine lv_topl (fun u_11 eu_11 => ?_)
  have eu_11 : u_11 = lN (a3 / 256) := by rw [eu_11, eu_10]; exact wb_shr (k := 8) (by omega) (by decide)
  refine lv_ladd hx hb dJ13_bitCount_95d88_39 ?_
  refine lv_topl (fun u_12 eu_12 => ?_)
  have eu_12 : u_12 = lN (q4L a3) := by rw [eu_12, eu_10, eu_11, lN_add]; rfl
  have k4 : q4L a3 < 2 ^ 62 := by unfold q4L; omega
  refine lv_lstore_n (lv' := [(0, .long u_12)]) hx hb dJ13_bitCount_95d88_40 rfl hl (by decide) rfl (fun ls hl => ?_)
  refine lv_lload_n hx hb dJ13_bitCount_95d88_41 rfl (lv_at hl 0 rfl) ?_
  refine lv_lload_n hx hb dJ13_bitCount_95d88_42 rfl (lv_at hl 0 rfl) ?_
  refine lv_bipush (v := 16) hx hb dJ13_bitCount_95d88_43 (by decide) ?_
  refine lv_lushr hx hb dJ13_bitCount_95d88_45 rfl ?_
  refine lv_topl (fun u_13 eu_13 => ?_)
  have eu_13 : u_13 = lN (q4L a3 / 65536) := by rw [eu_13, eu_12]; exact wb_shr (k := 16) (by omega) (by decide)
  refine lv_ladd hx hb dJ13_bitCount_95d88_46 ?_
  refine lv_topl (fun u_14 eu_14 => ?_)
  have eu_14 : u_14 = lN (q5L (q4L a3)) := by rw [eu_14, eu_12, eu_13, lN_add]; rfl
  have k5 : q5L (q4L a3) < 2 ^ 63 := by unfold q5L; omega
  refine lv_lstore_n (lv' := [(0, .long u_14)]) hx hb dJ13_bitCount_95d88_47 rfl hl (by decide) rfl (fun ls hl => ?_)
  refine lv_lload_n hx hb dJ13_bitCount_95d88_48 rfl (lv_at hl 0 rfl) ?_
  refine lv_lload_n hx hb dJ13_bitCount_95d88_49 rfl (lv_at hl 0 rfl) ?_
  refine lv_bipush (v := 32) hx hb dJ13_bitCount_95d88_50 (by decide) ?_
  refine lv_lushr hx hb dJ13_bitCount_95d88_52 rfl ?_
  refine lv_topl (fun u_15 eu_15 => ?_)
  have eu_15 : u_15 = lN (q5L (q4L a3) / 4294967296) := by rw [eu_15, eu_14]; exact wb_shr (k := 32) (by omega) (by decide)
  refine lv_ladd hx hb dJ13_bitCount_95d88_53 ?_
  refine lv_topl (fun u_16 eu_16 => ?_)
  have eu_16 : u_16 = lN (q6L (q5L (q4L a3))) := by rw [eu_16, eu_14, eu_15, lN_add]; rfl
  refine lv_lstore_n (lv' := [(0, .long u_16)]) hx hb dJ13_bitCount_95d88_54 rfl hl (by decide) rfl (fun ls hl => ?_)
  refine lv_lload_n hx hb dJ13_bitCount_95d88_55 rfl (lv_at hl 0 rfl) ?_
  refine lv_l2i hx hb dJ13_bitCount_95d88_56 rfl ?_
  refine lv_topi (fun x_17 ex_17 => ?_)
  have ex_17 : x_17 = nI (q6L (q5L (q4L a3))) := by rw [ex_17, eu_16]; exact lN_i _
  refine lv_bipush (v := 127) hx hb dJ13_bitCount_95d88_57 (by decide) ?_
  refine lv_iand hx hb dJ13_bitCount_95d88_59 ?_
  refine lv_topi (fun x_18 ex_18 => ?_)
  have ex_18 : x_18 = nI (cL n) := by
    have h := cL_is hn
    rw [← e1, ← e2, ← e3] at h
    rw [ex_18, ex_17, pk_and _ 7 (by decide)]
    congr 1
    show (BitVec.ofNat 32 (q6L (q5L (q4L a3)))).toNat % 2 ^ 7 = _
    rw [BitVec.toNat_ofNat]
    omega
  exact W.iret hx hb hr (fun t ht hW => ⟨x_18, rfl, ex_18, ht⟩) (fun q h => by cases h) dJ13_bitCount_95d88_60
