theorem aset_id {G : Gh} {a : Nat} : aset G a (G.2.1 a) = G := by
  unfold aset
  refine Prod.ext rfl (Prod.ext ?_ rfl)
  funext b
  show (if b = a then G.2.1 a else G.2.1 b) = G.2.1 b
  split
  · rename_i h; rw [h]
  · rfl
theorem as_as {G : Gh} {a : Nat} {f h : Nat → Int32} : aset (aset G a f) a h = aset G a h := by
  unfold aset
  refine Prod.ext rfl (Prod.ext ?_ rfl)
  funext b
  show (if b = a then h else if b = a then f else G.2.1 b) = if b = a then h else G.2.1 b
  split <;> rfl
theorem as_eq {G G1 : Gh} {a : Nat} {f : Nat → Int32} (e : G1 = aset G a f) : G1.2.1 a = f := by rw [e]; exact aset_eq
theorem as_step {G G0 G1 : Gh} {a : Nat} {f : Nat → Int32} (h : G0 = aset G a (G0.2.1 a)) (e : G1 = aset G0 a f) : G1 = aset G a (G1.2.1 a) := by
  have q : G1.2.1 a = f := as_eq e
  rw [q, e]
  have : aset G0 a f = aset (aset G a (G0.2.1 a)) a f := congrArg (fun z => aset z a f) h
  rw [this]
  exact as_as
