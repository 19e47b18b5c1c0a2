/-! ===== P2: bytes of a word are bytes ===== -/
theorem byt_8 (y : Int8) : byt y.toInt32 := by
  unfold byt
  rw [Int8.toInt_toInt32]
  have h1 := Int8.le_toInt y
  have h2 := Int8.toInt_lt y
  omega
theorem byt_pby (x : Int32) (i : Nat) : byt (pby x i) := byt_8 _
theorem byt_tpu {f : Nat → Int32} {len n : Nat} {x : Int32} (h : ∀ i, i < len → byt (f i)) (hn : n ≤ len + 4) : ∀ i, i < n → byt (tpu f len x i) := fun i hi => by
  unfold tpu
  by_cases e : len ≤ i ∧ i < len + 4
  · rw [if_pos e]; exact byt_pby _ _
  · rw [if_neg e]; exact h i (by omega)
theorem byt_tp5 {f : Nat → Int32} {len : Nat} {x1 x2 x3 x4 x5 : Int32} (h : ∀ i, i < len → byt (f i)) : ∀ i, i < len + 20 → byt (tp5 f len x1 x2 x3 x4 x5 i) :=
  byt_tpu (byt_tpu (byt_tpu (byt_tpu (byt_tpu h (Nat.le_refl _)) (by omega)) (by omega)) (by omega)) (by omega)
