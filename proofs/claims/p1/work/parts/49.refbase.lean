/-! ===== the reference: numbers ===== -/
theorem in_rng {r a b c : Int32} {l l2 u u2 : Int} (h : r = 0 ∨ (b ≤ a ∧ a ≤ c)) (hn : ¬ r = 0) (h1 : rgI l l2 b) (h2 : rgI u2 u c) : rgI l u a := by
  have q := h.resolve_left hn
  have q1 := fz_le.mp q.1; have q2 := fz_le.mp q.2
  exact ⟨Int.le_trans h1.1 q1, Int.le_trans q2 h2.2⟩
def bc1 (x : Int32) : Int32 := x - ((Int32.toUInt32 x >>> (Int32.toUInt32 1 &&& Int32.toUInt32 31)).toInt32 &&& 1431655765)
def bc2 (x : Int32) : Int32 := (x &&& 858993459) + ((Int32.toUInt32 x >>> (Int32.toUInt32 2 &&& Int32.toUInt32 31)).toInt32 &&& 858993459)
def bc3 (x : Int32) : Int32 := (x + (Int32.toUInt32 x >>> (Int32.toUInt32 4 &&& Int32.toUInt32 31)).toInt32) &&& 252645135
def bc4 (x : Int32) : Int32 := x + (Int32.toUInt32 x >>> (Int32.toUInt32 8 &&& Int32.toUInt32 31)).toInt32
def bc5 (x : Int32) : Int32 := x + (Int32.toUInt32 x >>> (Int32.toUInt32 16 &&& Int32.toUInt32 31)).toInt32
def F_J6_bitCount_0f7a4 (x : Int32) : Int32 := bc5 (bc4 (bc3 (bc2 (bc1 x)))) &&& 63
def jrem (x y : Int32) : Int32 := x - x / y * y
