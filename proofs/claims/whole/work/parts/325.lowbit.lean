/-! ===== P3: the lowest bit ===== -/
def low (y : Int64) (i : Nat) : Prop := i < 64 ∧ tb y i = true ∧ ∀ k, k < i → tb y k = false
theorem tbN (y : Int64) (k : Nat) : tb y k = y.toBitVec.toNat.testBit k := rfl
theorem low_nat {n i : Nat} (h1 : n.testBit i = true) (h2 : ∀ k, k < i → n.testBit k = false) : ∃ m, n = 2 ^ (i + 1) * m + 2 ^ i := by
  have hm : n % 2 ^ (i + 1) = 2 ^ i := by
    apply Nat.eq_of_testBit_eq
    intro k
    rw [Nat.testBit_mod_two_pow, Nat.testBit_two_pow]
    by_cases e : k = i
    · subst e; rw [h1]; simp
    · by_cases e2 : k < i
      · rw [h2 k e2]; simp; omega
      · have : ¬ k < i + 1 := by omega
        simp [this]; omega
  exact ⟨n / 2 ^ (i + 1), by have := Nat.div_add_mod n (2 ^ (i + 1)); rw [hm] at this; omega⟩
theorem low_sub {y : Int64} {i : Nat} (h : low y i) (k : Nat) : tb (y - 1) k = if k < i then true else if k = i then false else tb y k := by
  obtain ⟨hi, h1, h2⟩ := h
  obtain ⟨m, hm⟩ := low_nat (n := y.toBitVec.toNat) h1 h2
  have hlt := y.toBitVec.isLt
  have hp : 0 < 2 ^ i := Nat.two_pow_pos i
  have e : (y - 1).toBitVec.toNat = 2 ^ (i + 1) * m + (2 ^ i - 1) := by
    rw [Int64.toBitVec_sub, BitVec.toNat_sub]
    have e1 : (Int64.toBitVec 1).toNat = 1 := rfl
    rw [e1, show 2 ^ 64 - 1 + y.toBitVec.toNat = 2 ^ 64 + (y.toBitVec.toNat - 1) by omega, Nat.add_mod_left, Nat.mod_eq_of_lt (by omega)]
    omega
  have hb : 2 ^ i - 1 < 2 ^ (i + 1) := by rw [Nat.pow_succ]; omega
  have hb2 : 2 ^ i < 2 ^ (i + 1) := by rw [Nat.pow_succ]; omega
  rw [tbN, tbN, e, hm, Nat.testBit_two_pow_mul_add _ hb, Nat.testBit_two_pow_mul_add _ hb2, Nat.testBit_two_pow_sub_one, Nat.testBit_two_pow]
  by_cases q1 : k < i
  · rw [if_pos (by omega), if_pos q1]; simp [q1]
  · rw [if_neg q1]
    by_cases q2 : k = i
    · rw [if_pos (by omega), if_pos q2]; simp [q1]
    · rw [if_neg (by omega), if_neg q2, if_neg (by omega)]
theorem low_neg {y : Int64} {i : Nat} (h : low y i) {k : Nat} (hk : k < 64) : tb (-y) k = !tb (y - 1) k := by
  have e : -y = (y - 1) ^^^ (-1) := by
    apply Int64.toBitVec_inj.1
    rw [Int64.toBitVec_neg, Int64.toBitVec_xor, Int64.toBitVec_sub]
    apply BitVec.eq_of_toNat_eq
    have e2 : (Int64.toBitVec (-1)) = BitVec.allOnes 64 := rfl
    rw [e2, BitVec.xor_allOnes, BitVec.toNat_neg, BitVec.toNat_not, BitVec.toNat_sub]
    have e1 : (Int64.toBitVec 1).toNat = 1 := rfl
    have hlt := y.toBitVec.isLt
    obtain ⟨m, hm⟩ := low_nat (n := y.toBitVec.toNat) h.2.1 h.2.2
    have hp : 0 < 2 ^ i := Nat.two_pow_pos i
    rw [e1, show 2 ^ 64 - 1 + y.toBitVec.toNat = 2 ^ 64 + (y.toBitVec.toNat - 1) by omega, Nat.add_mod_left, Nat.mod_eq_of_lt (by omega), Nat.mod_eq_of_lt (by omega)]
    omega
  rw [e, tb_not hk]
theorem low_drop {y : Int64} {i : Nat} (h : low y i) (k : Nat) : tb (y &&& (y - 1)) k = (tb y k && !decide (k = i)) := by
  rw [tb_and, low_sub h]
  by_cases q1 : k < i
  · rw [if_pos q1, h.2.2 k q1]; rfl
  · rw [if_neg q1]
    by_cases q2 : k = i
    · rw [if_pos q2]; simp [q2]
    · rw [if_neg q2]; simp [q2]
theorem low_only {y : Int64} {i : Nat} (h : low y i) {k : Nat} (hk : k < 64) : tb (y &&& (-y)) k = decide (k = i) := by
  rw [tb_and, low_neg h hk, low_sub h]
  by_cases q1 : k < i
  · rw [if_pos q1]; simp; omega
  · rw [if_neg q1]
    by_cases q2 : k = i
    · rw [if_pos q2, q2, h.2.1]; simp
    · rw [if_neg q2]; cases tb y k <;> simp [q2]
theorem low_count {y : Int64} {i : Nat} (h : low y i) : fb_ct (tb ((y &&& (-y)) - 1)) 64 = i := by
  have h2 : low (y &&& (-y)) i := ⟨h.1, by rw [low_only h h.1]; simp, fun k hk => by rw [low_only h (by have := h.1; omega)]; simp; omega⟩
  have e : fb_ct (tb ((y &&& (-y)) - 1)) 64 = fb_ct (fun k => decide (k < i)) 64 := fb_ct_cong (fun k hk => by
    rw [low_sub h2, low_only h hk]
    by_cases q1 : k < i
    · rw [if_pos q1]; simp [q1]
    · rw [if_neg q1]
      by_cases q2 : k = i
      · rw [if_pos q2]; simp [q1]
      · rw [if_neg q2]; simp [q1, q2])
  rw [e]
  have hall : ∀ n, fb_ct (fun k => decide (k < i)) n = min n i := by
    intro n
    induction n with
    | zero => simp [fb_ct]
    | succ n ih => rw [fb_ct_succ, ih]; by_cases q : n < i <;> simp [q] <;> omega
  rw [hall]; have := h.1; omega
theorem low_ex {y : Int64} (h : 0 < fb_ct (tb y) 64) : ∃ i, low y i ∧ fb_ct (tb y) i = 0 := by
  obtain ⟨i, h1, h2, h3⟩ := fb_ct_kth (p := tb y) (k := 0) h
  exact ⟨i, ⟨h1, h2, fun k hk => fb_ct_zero.1 h3 k hk⟩, h3⟩
