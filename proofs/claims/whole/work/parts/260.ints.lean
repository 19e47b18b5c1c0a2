/-! ===== P2: small numbers ===== -/
def ii (n : Nat) : Int32 := Int32.ofNat n
theorem ii_toInt {n : Nat} (h : n < 2147483648) : (ii n).toInt = (n : Int) := by
  unfold ii
  rw [Int32.toInt_ofNat']
  rw [show Int32.size = 4294967296 from rfl]
  simp only [Int.bmod_def]
  split <;> omega
theorem ii_nat {n : Nat} (h : n < 2147483648) : (ii n).toNatClampNeg = n := by
  rw [Int32.toNatClampNeg, ii_toInt h]; rfl
theorem ii_add (n m : Nat) : ii n + ii m = ii (n + m) := by
  unfold ii; rw [Int32.ofNat_add]
theorem ii_one : (1 : Int32) = ii 1 := rfl
theorem ii_zero : (0 : Int32) = ii 0 := rfl
theorem ii_add1 (n : Nat) : ii n + 1 = ii (n + 1) := ii_add n 1
theorem ii_le {n m : Nat} (h : n < 2147483648) (h2 : m < 2147483648) : ii n ≤ ii m ↔ n ≤ m := by
  rw [Int32.le_iff_toInt_le, ii_toInt h, ii_toInt h2]; omega
theorem ii_lt {n m : Nat} (h : n < 2147483648) (h2 : m < 2147483648) : ii n < ii m ↔ n < m := by
  rw [Int32.lt_iff_toInt_lt, ii_toInt h, ii_toInt h2]; omega
theorem ii_inj {n m : Nat} (h : n < 2147483648) (h2 : m < 2147483648) : ii n = ii m ↔ n = m := by
  rw [← Int32.toInt_inj, ii_toInt h, ii_toInt h2]; omega
theorem ii_sub {n m : Nat} (h : m ≤ n) : ii n - ii m = ii (n - m) := by
  unfold ii; rw [Int32.ofNat_sub _ _ h]
theorem ii_inb {n N : Nat} (h : n < N) (hN : N < 2147483648) : inb (ii n) N = true := by
  have h1 : n < 2147483648 := by omega
  unfold inb
  rw [decide_eq_true_iff, ii_nat h1]
  have : ¬ (ii n < 0) := by rw [ii_zero, ii_lt h1 (by omega)]; omega
  rintro (h5 | h5)
  · exact this h5
  · omega
theorem ii_nn {n : Nat} (h : n < 2147483648) : ¬ (ii n < 0) := by rw [ii_zero, ii_lt h (by omega)]; omega
theorem ii_of {x : Int32} (h : 0 ≤ x) : x = ii x.toNatClampNeg := by
  have h1 : 0 ≤ x.toInt := by have := Int32.le_iff_toInt_le.1 h; simpa using this
  have h2 := Int32.toInt_lt x
  apply Int32.toInt_inj.1
  have e : x.toNatClampNeg = x.toInt.toNat := rfl
  rw [ii_toInt (by rw [e]; omega), e]; omega
theorem u1_if {α : Type} (f : Nat → α) (k j : Nat) (v : α) : u1 f k v j = if j = k then v else f j := rfl
theorem u2_if {α : Type} (f : Nat → Nat → α) (a k b j : Nat) (v : α) : u2 f a k v b j = if b = a ∧ j = k then v else f b j := by
  unfold u2
  rw [u1_if]
  by_cases h : b = a
  · subst h; rw [if_pos rfl, u1_if]; simp
  · simp [h]
theorem u2_e {α : Type} (f : Nat → Nat → α) (a k : Nat) (v : α) : u2 f a k v a k = v := by simp [u2_if]
theorem u2_a {α : Type} (f : Nat → Nat → α) {a b : Nat} (k j : Nat) (v : α) (h : b ≠ a) : u2 f a k v b j = f b j := by simp [u2_if, h]
theorem u2_k {α : Type} (f : Nat → Nat → α) (a b : Nat) {k j : Nat} (v : α) (h : j ≠ k) : u2 f a k v b j = f b j := by simp [u2_if, h]
