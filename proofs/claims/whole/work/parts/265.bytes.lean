/-! ===== P2: bytes ===== -/
def byt (y : Int32) : Prop := -128 ≤ y.toInt ∧ y.toInt ≤ 127
theorem byt_all {P : Int32 → Bool} (h : (List.range 256).all (fun n => P (Int32.ofInt ((n : Int) - 128))) = true) {y : Int32} (hy : byt y) : P y = true := by
  have h1 := List.all_eq_true.1 h (y.toInt + 128).toNat (List.mem_range.2 (by have := hy.1; have := hy.2; omega))
  have e : (((y.toInt + 128).toNat : Int) - 128) = y.toInt := by have := hy.1; omega
  rw [e, Int32.ofInt_toInt] at h1
  exact h1
def bz (x : Int32) : Bool := !(x == 0)
def bchk (y : Int32) : Bool := ((y &&& 255 == 32 || y &&& 255 == 10) == (y == 32 || y == 10)) && (cgo 2 y == (bz (f_X14_small y) || bz (f_X14_digit y) || y == 95)) && (cgo 4 y == (bz (f_X14_capital y) || bz (f_X14_digit y))) && (cgo 5 y == bz (f_X14_digit y)) && (kdf y == (if f_X14_small y = 0 then (if f_X14_capital y = 0 then (if f_X14_digit y = 0 then (if ixOf y < 0 then 1 else y) else 5) else 4) else 2)) && (!(cgo 2 y || cgo 4 y || cgo 5 y) || y &&& 255 == y) && (ixOf y < 0 || (y == 33 || y == 38 || y == 40 || y == 41 || y == 44 || y == 46 || y == 59 || y == 61 || y == 94 || y == 124))
theorem bchk_all {y : Int32} (hy : byt y) : bchk y = true := byt_all (P := bchk) (by decide +kernel) hy
theorem by_sp {y : Int32} (hy : byt y) : (y &&& 255 = 32 ∨ y &&& 255 = 10) ↔ (y = 32 ∨ y = 10) := by
  have := bchk_all hy
  simp only [bchk, Bool.and_eq_true, beq_iff_eq] at this
  have h := this.1.1.1.1.1.1
  rw [Bool.eq_iff_iff] at h
  simpa using h
theorem by_2 {y : Int32} (hy : byt y) : cgo 2 y = (bz (f_X14_small y) || bz (f_X14_digit y) || y == 95) := by
  have := bchk_all hy
  simp only [bchk, Bool.and_eq_true, beq_iff_eq] at this
  exact this.1.1.1.1.1.2
theorem by_4 {y : Int32} (hy : byt y) : cgo 4 y = (bz (f_X14_capital y) || bz (f_X14_digit y)) := by
  have := bchk_all hy
  simp only [bchk, Bool.and_eq_true, beq_iff_eq] at this
  exact this.1.1.1.1.2
theorem by_5 {y : Int32} (hy : byt y) : cgo 5 y = bz (f_X14_digit y) := by
  have := bchk_all hy
  simp only [bchk, Bool.and_eq_true, beq_iff_eq] at this
  exact this.1.1.1.2
theorem by_k {y : Int32} (hy : byt y) : kdf y = (if f_X14_small y = 0 then (if f_X14_capital y = 0 then (if f_X14_digit y = 0 then (if ixOf y < 0 then 1 else y) else 5) else 4) else 2) := by
  have := bchk_all hy
  simp only [bchk, Bool.and_eq_true, beq_iff_eq] at this
  exact this.1.1.2
theorem by_m {y : Int32} (hy : byt y) (h : cgo 2 y = true ∨ cgo 4 y = true ∨ cgo 5 y = true) : y &&& 255 = y := by
  have := bchk_all hy
  simp only [bchk, Bool.and_eq_true, Bool.or_eq_true, Bool.not_eq_true', beq_iff_eq, Bool.or_eq_false_iff] at this
  rcases this.1.2 with h1 | h1
  · rcases h with h | h | h
    · rw [h1.1.1] at h; cases h
    · rw [h1.1.2] at h; cases h
    · rw [h1.2] at h; cases h
  · exact h1
theorem by_s {y : Int32} (hy : byt y) (h : ¬ ixOf y < 0) : y = 33 ∨ y = 38 ∨ y = 40 ∨ y = 41 ∨ y = 44 ∨ y = 46 ∨ y = 59 ∨ y = 61 ∨ y = 94 ∨ y = 124 := by
  have := bchk_all hy
  simp only [bchk, Bool.and_eq_true] at this
  have := this.2
  simp only [Bool.or_eq_true, decide_eq_true_eq, beq_iff_eq, or_assoc] at this
  rcases this with h1 | h1
  · exact absurd h1 h
  · exact h1
theorem cgo_no {kd y : Int32} (h2 : ¬ kd = 2) (h4 : ¬ kd = 4) (h5 : ¬ kd = 5) : cgo kd y = false := by
  unfold cgo f_X9_goesOn
  rw [if_pos h2, if_pos h4, if_pos h5]; rfl
