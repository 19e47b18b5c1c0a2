/-! ===== P3: bits of a long ===== -/
def tb (x : Int64) (j : Nat) : Bool := x.toBitVec.getLsbD j
theorem tb_ext {x y : Int64} (h : ∀ j, j < 64 → tb x j = tb y j) : x = y := by
  apply Int64.toBitVec_inj.1
  apply BitVec.eq_of_getLsbD_eq
  intro i hi
  exact h i hi
theorem tb_or (x y : Int64) (j : Nat) : tb (x ||| y) j = (tb x j || tb y j) := by
  unfold tb; rw [Int64.toBitVec_or, BitVec.getLsbD_or]
theorem tb_and (x y : Int64) (j : Nat) : tb (x &&& y) j = (tb x j && tb y j) := by
  unfold tb; rw [Int64.toBitVec_and, BitVec.getLsbD_and]
theorem tb_xor (x y : Int64) (j : Nat) : tb (x ^^^ y) j = (tb x j ^^ tb y j) := by
  unfold tb; rw [Int64.toBitVec_xor, BitVec.getLsbD_xor]
theorem tb_big {x : Int64} {j : Nat} (h : 64 ≤ j) : tb x j = false := by
  unfold tb; exact BitVec.getLsbD_of_ge _ _ h
theorem tb_0 (j : Nat) : tb 0 j = false := by
  unfold tb; show (0#64).getLsbD j = false; simp
theorem tb_m1 {j : Nat} (h : j < 64) : tb (-1) j = true := by
  unfold tb
  have : ∀ i : Fin 64, (Int64.toBitVec (-1)).getLsbD i.val = true := by decide +kernel
  exact this ⟨j, h⟩
theorem tb_not {x : Int64} {j : Nat} (h : j < 64) : tb (x ^^^ (-1)) j = !tb x j := by
  rw [tb_xor, tb_m1 h]; cases tb x j <;> rfl
theorem s64 : ∀ n : Fin 64, ((ii n.val).toInt64 &&& 63).toBitVec.smod 64 = BitVec.ofNat 64 n.val := by decide +kernel
theorem s64n {n : Nat} (h : n < 64) : (((ii n).toInt64 &&& 63).toBitVec.smod 64).toNat = n := by
  rw [s64 ⟨n, h⟩, BitVec.toNat_ofNat, Nat.mod_eq_of_lt (by omega)]
theorem s64u : ∀ n : Fin 64, (((ii n.val).toInt64.toUInt64 &&& Int64.toUInt64 63).toBitVec % 64).toNat = n.val := by decide +kernel
theorem tb_shl {x : Int64} {n j : Nat} (hn : n < 64) (hj : j < 64) : tb (x <<< ((ii n).toInt64 &&& 63)) j = (decide (n ≤ j) && tb x (j - n)) := by
  unfold tb
  rw [Int64.toBitVec_shiftLeft]
  show (x.toBitVec <<< (((ii n).toInt64 &&& 63).toBitVec.smod 64).toNat).getLsbD j = _
  rw [s64n hn, BitVec.getLsbD_shiftLeft]
  rcases Nat.lt_or_ge j n with h | h
  · simp [h, Nat.not_le.mpr h]
  · simp [hj, h, Nat.not_lt.mpr h]
theorem tb_shr {x : Int64} {n j : Nat} (hn : n < 64) (hj : j < 64) : tb (x >>> ((ii n).toInt64 &&& 63)) j = if n + j < 64 then tb x (n + j) else tb x 63 := by
  unfold tb
  rw [Int64.toBitVec_shiftRight]
  show (x.toBitVec.sshiftRight (((ii n).toInt64 &&& 63).toBitVec.smod 64).toNat).getLsbD j = _
  rw [s64n hn, BitVec.getLsbD_sshiftRight, BitVec.msb_eq_getLsbD_last]
  simp [hj]
theorem tb_ushr {x : Int64} {n : Nat} (hn : n < 64) (j : Nat) : tb ((x.toUInt64 >>> ((ii n).toInt64.toUInt64 &&& Int64.toUInt64 63)).toInt64) j = tb x (n + j) := by
  show (x.toUInt64 >>> ((ii n).toInt64.toUInt64 &&& Int64.toUInt64 63)).toBitVec.getLsbD j = x.toUInt64.toBitVec.getLsbD (n + j)
  rw [UInt64.toBitVec_shiftRight]
  show (x.toUInt64.toBitVec >>> (((ii n).toInt64.toUInt64 &&& Int64.toUInt64 63).toBitVec % 64).toNat).getLsbD j = _
  rw [s64u ⟨n, hn⟩, BitVec.getLsbD_ushiftRight]
theorem tb_1 (j : Nat) : tb 1 j = decide (j = 0) := by
  unfold tb
  show (1#64).getLsbD j = _
  rw [BitVec.getLsbD_one]; simp
theorem tb_one {n j : Nat} (hn : n < 64) (hj : j < 64) : tb ((1 : Int64) <<< ((ii n).toInt64 &&& 63)) j = decide (j = n) := by
  rw [tb_shl hn hj, tb_1]
  by_cases h : j = n
  · subst h; simp
  · rcases Nat.lt_or_ge j n with q | q
    · simp [h]; omega
    · simp [h]; omega
theorem tb_a1 (x : Int64) : x &&& 1 = 1 ↔ tb x 0 = true := by
  constructor
  · intro h
    have : tb (x &&& 1) 0 = true := by rw [h]; decide
    rw [tb_and, Bool.and_eq_true] at this
    exact this.1
  · intro h
    apply tb_ext
    intro j hj
    rw [tb_and, tb_1]
    by_cases q : j = 0
    · subst q; rw [h]; rfl
    · simp [q]
/-- the test of a bit -/
theorem tb_test {x : Int64} {n : Nat} (hn : n < 64) : lg_cmp ((x >>> ((ii n).toInt64 &&& 63)) &&& 1) 1 = 0 ↔ tb x n = true := by
  rw [lgc, tb_a1, tb_shr hn (by omega), if_pos (by omega)]; rfl
theorem tb_z (x : Int64) : x = 0 ↔ ∀ j, j < 64 → tb x j = false := by
  constructor
  · intro h j _; rw [h]; exact tb_0 j
  · intro h; exact tb_ext (fun j hj => by rw [h j hj, tb_0])
