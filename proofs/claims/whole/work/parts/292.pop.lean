/-! ===== P3: Long.bitCount counts bits ===== -/
def uNn (x : Int64) : Nat := x.toBitVec.toNat
abbrev ush (x : Int64) (k : Int32) : Int64 := (x.toUInt64 >>> (k.toInt64.toUInt64 &&& Int64.toUInt64 63)).toInt64
def bg1 (y : Int64) : Int64 := y - (ush y 1 &&& 6148914691236517205)
def bg2 (y : Int64) : Int64 := (y &&& 3689348814741910323) + (ush y 2 &&& 3689348814741910323)
def bg3 (y : Int64) : Int64 := (y + ush y 4) &&& 1085102592571150095
def bg4 (y : Int64) : Int64 := y + ush y 8
def bg5 (y : Int64) : Int64 := y + ush y 16
def bg6 (y : Int64) : Int64 := y + ush y 32
theorem bc_rfl (y : Int64) : f_J13_bitCount_95d88 y = (bg6 (bg5 (bg4 (bg3 (bg2 (bg1 y)))))).toInt32 &&& 127 := rfl
theorem uN_ush (x : Int64) {k : Nat} (hk : k < 64) : uNn (ush x (ii k)) = uNn x / 2 ^ k := by
  unfold uNn ush
  show (x.toUInt64 >>> ((ii k).toInt64.toUInt64 &&& Int64.toUInt64 63)).toBitVec.toNat = _
  rw [UInt64.toBitVec_shiftRight]
  show (x.toUInt64.toBitVec >>> (((ii k).toInt64.toUInt64 &&& Int64.toUInt64 63).toBitVec % 64).toNat).toNat = _
  rw [s64u ⟨k, hk⟩, BitVec.toNat_ushiftRight, Nat.shiftRight_eq_div_pow]
  rfl
theorem uN_and (x y : Int64) : uNn (x &&& y) = uNn x &&& uNn y := by
  unfold uNn; rw [Int64.toBitVec_and, BitVec.toNat_and]
theorem uN_add' (x y : Int64) : uNn (x + y) = (uNn x + uNn y) % 18446744073709551616 := by
  unfold uNn; rw [Int64.toBitVec_add, BitVec.toNat_add]
theorem uN_sub' (x y : Int64) (h : uNn y ≤ uNn x) : uNn (x - y) = uNn x - uNn y := by
  unfold uNn at h ⊢
  rw [Int64.toBitVec_sub, BitVec.toNat_sub]
  have := x.toBitVec.isLt
  have := y.toBitVec.isLt
  omega
theorem uN_lt' (x : Int64) : uNn x < 18446744073709551616 := x.toBitVec.isLt
def msk (c : Nat) : Nat → Nat
  | 0 => 0
  | k + 1 => c + 256 * msk c k
theorem and_dig {a b c e : Nat} (ha : a < 256) (hc : c < 256) : (a + 256 * b) &&& (c + 256 * e) = (a &&& c) + 256 * (b &&& e) := by
  have h1 : ((a + 256 * b) &&& (c + 256 * e)) % 2 ^ 8 = a &&& c := by
    rw [Nat.and_mod_two_pow, show (a + 256 * b) % 2 ^ 8 = a by omega, show (c + 256 * e) % 2 ^ 8 = c by omega]
  have h2 : ((a + 256 * b) &&& (c + 256 * e)) / 2 ^ 8 = b &&& e := by
    rw [Nat.and_div_two_pow, show (a + 256 * b) / 2 ^ 8 = b by omega, show (c + 256 * e) / 2 ^ 8 = e by omega]
  omega
def p1 (x : Nat) : Nat := x - (x / 2 &&& 85)
def p2 (x : Nat) : Nat := (x &&& 51) + (x / 4 &&& 51)
def p3 (x : Nat) : Nat := (x + x / 16) % 16
def pcb (x : Nat) : Nat := fb_ct (fun j => x.testBit j) 8
def q1 (k n : Nat) : Nat := n - (n / 2 &&& msk 85 k)
def q2 (k n : Nat) : Nat := (n &&& msk 51 k) + (n / 4 &&& msk 51 k)
def q3 (k n : Nat) : Nat := (n + n / 16) &&& msk 15 k
theorem p_all : (List.range 256).all (fun x => decide (p1 x < 256) && decide (p2 (p1 x) < 256) && decide (p2 (p1 x) % 16 ≤ 4) && decide (p2 (p1 x) / 16 ≤ 4) && decide (p3 (p2 (p1 x)) = pcb x) && decide (pcb x ≤ 8) && decide ((x / 2 &&& 85) ≤ x) && decide ((x / 2 + 128) &&& 85 = x / 2 &&& 85) && decide (p2 x < 256) && (List.range 4).all (fun z => decide ((x / 4 + 64 * z) &&& 51 = x / 4 &&& 51))) = true := by decide +kernel
theorem p_at {x : Nat} (h : x < 256) : p1 x < 256 ∧ p2 (p1 x) < 256 ∧ p2 (p1 x) % 16 ≤ 4 ∧ p2 (p1 x) / 16 ≤ 4 ∧ p3 (p2 (p1 x)) = pcb x ∧ pcb x ≤ 8 ∧ (x / 2 &&& 85) ≤ x ∧ (x / 2 + 128) &&& 85 = x / 2 &&& 85 ∧ p2 x < 256 ∧ ∀ z, z < 4 → (x / 4 + 64 * z) &&& 51 = x / 4 &&& 51 := by
  have := List.all_eq_true.1 p_all x (List.mem_range.2 h)
  simp only [Bool.and_eq_true, decide_eq_true_iff] at this
  obtain ⟨⟨⟨⟨⟨⟨⟨⟨⟨a1, a2⟩, a3⟩, a4⟩, a5⟩, a6⟩, a7⟩, a8⟩, a9⟩, a10⟩ := this
  refine ⟨a1, a2, a3, a4, a5, a6, a7, a8, a9, fun z hz => ?_⟩
  have := List.all_eq_true.1 a10 z (List.mem_range.2 hz)
  simpa using this
theorem and15 (x : Nat) : x &&& 15 = x % 16 := Nat.and_two_pow_sub_one_eq_mod x 4
theorem q1_s {k x y : Nat} (hx : x < 256) (hy : (y / 2 &&& msk 85 k) ≤ y) : q1 (k + 1) (x + 256 * y) = p1 x + 256 * q1 k y ∧ ((x + 256 * y) / 2 &&& msk 85 (k + 1)) ≤ x + 256 * y := by
  obtain ⟨-, -, -, -, -, -, a7, a8, -, -⟩ := p_at hx
  have e : (x + 256 * y) / 2 &&& msk 85 (k + 1) = (x / 2 &&& 85) + 256 * (y / 2 &&& msk 85 k) := by
    rw [show (x + 256 * y) / 2 = (x / 2 + 128 * (y % 2)) + 256 * (y / 2) by omega, msk, and_dig (by omega) (by omega)]
    have : y % 2 = 0 ∨ y % 2 = 1 := by omega
    rcases this with q | q <;> rw [q]
    · simp
    · rw [show x / 2 + 128 * 1 = x / 2 + 128 by omega, a8]
  unfold q1 p1
  rw [e]
  generalize (x / 2 &&& 85) = A at *
  generalize (y / 2 &&& msk 85 k) = B at *
  omega
theorem q2_s {k x y : Nat} (hx : x < 256) : q2 (k + 1) (x + 256 * y) = p2 x + 256 * q2 k y := by
  obtain ⟨-, -, -, -, -, -, -, -, -, a10⟩ := p_at hx
  have e : (x + 256 * y) / 4 &&& msk 51 (k + 1) = (x / 4 &&& 51) + 256 * (y / 4 &&& msk 51 k) := by
    rw [show (x + 256 * y) / 4 = (x / 4 + 64 * (y % 4)) + 256 * (y / 4) by omega, msk, and_dig (by omega) (by omega), a10 (y % 4) (by omega)]
  have e2 : (x + 256 * y) &&& msk 51 (k + 1) = (x &&& 51) + 256 * (y &&& msk 51 k) := by
    rw [msk, and_dig hx (by omega)]
  unfold q2 p2
  rw [e, e2]; omega
theorem q3_s {k x y : Nat} (hx : x % 16 ≤ 4) (hx2 : x / 16 ≤ 4) (hy : y % 16 ≤ 4) : q3 (k + 1) (x + 256 * y) = p3 x + 256 * q3 k y := by
  unfold q3 p3
  rw [show x + 256 * y + (x + 256 * y) / 16 = (x + x / 16 + 16 * (y % 16)) + 256 * (y + y / 16) by omega, msk, and_dig (by omega) (by omega), and15]
  omega
def sH : Nat → Nat → Nat
  | 0, _ => 0
  | k + 1, n => pcb (n % 256) + 256 * sH k (n / 256)
theorem q_all : ∀ (k n : Nat), n < 256 ^ k → (n / 2 &&& msk 85 k) ≤ n ∧ q2 k (q1 k n) % 16 ≤ 4 ∧ q3 k (q2 k (q1 k n)) = sH k n
  | 0, n, h => by
    have e : n = 0 := by simpa using h
    subst e; decide
  | k + 1, n, h => by
    have hy : n / 256 < 256 ^ k := by rw [Nat.pow_succ] at h; omega
    obtain ⟨b1, b2, b3⟩ := q_all k (n / 256) hy
    have hx : n % 256 < 256 := by omega
    obtain ⟨a1, a2, a3, a4, a5, a6, a7, a8, a9, a10⟩ := p_at hx
    have e : n = n % 256 + 256 * (n / 256) := by omega
    have s1 := q1_s (k := k) hx b1
    have s2 := q2_s (k := k) (x := p1 (n % 256)) (y := q1 k (n / 256)) a1
    rw [← e] at s1
    refine ⟨s1.2, ?_, ?_⟩
    · rw [s1.1, s2]; omega
    · rw [s1.1, s2, q3_s a3 a4 b2, b3, a5]; rfl
theorem pcb_le (x : Nat) : pcb x ≤ 8 := fb_ct_le _ 8
theorem sH_8 (n : Nat) : ∃ c0 c1 c2 c3 c4 c5 c6 c7, c0 ≤ 8 ∧ c1 ≤ 8 ∧ c2 ≤ 8 ∧ c3 ≤ 8 ∧ c4 ≤ 8 ∧ c5 ≤ 8 ∧ c6 ≤ 8 ∧ c7 ≤ 8 ∧ sH 8 n = c0 + 256 * (c1 + 256 * (c2 + 256 * (c3 + 256 * (c4 + 256 * (c5 + 256 * (c6 + 256 * c7)))))) ∧ fb_ct (fun j => n.testBit j) 64 = c0 + c1 + c2 + c3 + c4 + c5 + c6 + c7 := by
  have hs : ∀ (k n : Nat), fb_ct (fun j => n.testBit j) (8 + k) = pcb (n % 256) + fb_ct (fun j => (n / 256).testBit j) k := by
    intro k n
    rw [fb_ct_split]
    congr 1
    · unfold pcb
      refine fb_ct_cong (fun j hj => ?_)
      show n.testBit j = (n % 2 ^ 8).testBit j
      rw [Nat.testBit_mod_two_pow]; simp [hj]
    · refine fb_ct_cong (fun j hj => ?_)
      show n.testBit (8 + j) = (n / 2 ^ 8).testBit j
      rw [Nat.testBit_div_two_pow, Nat.add_comm]
  refine ⟨pcb (n % 256), pcb (n / 256 % 256), pcb (n / 256 / 256 % 256), pcb (n / 256 / 256 / 256 % 256), pcb (n / 256 / 256 / 256 / 256 % 256), pcb (n / 256 / 256 / 256 / 256 / 256 % 256), pcb (n / 256 / 256 / 256 / 256 / 256 / 256 % 256), pcb (n / 256 / 256 / 256 / 256 / 256 / 256 / 256 % 256), pcb_le _, pcb_le _, pcb_le _, pcb_le _, pcb_le _, pcb_le _, pcb_le _, pcb_le _, ?_, ?_⟩
  · simp only [sH, Nat.mul_zero, Nat.add_zero]
  · rw [show (64 : Nat) = 8 + (8 + (8 + (8 + (8 + (8 + (8 + (8 + 0))))))) from rfl, hs, hs, hs, hs, hs, hs, hs, hs]
    simp only [fb_ct]
    omega
theorem ti32 (y : Int64) : ((y.toInt32 &&& 127) : Int32) = ii (uNn y % 128) := by
  apply Int32.toBitVec_inj.1
  apply BitVec.eq_of_getLsbD_eq
  intro i hi
  rw [Int32.toBitVec_and, BitVec.getLsbD_and]
  have e1 : y.toInt32.toBitVec.getLsbD i = (uNn y).testBit i := by
    show (y.toBitVec.signExtend 32).getLsbD i = _
    rw [BitVec.getLsbD_signExtend]
    have : i < 64 := by omega
    simp [hi, this, uNn, BitVec.testBit_toNat]
  have e2 : (127 : Int32).toBitVec.getLsbD i = decide (i < 7) := by
    have : ∀ j : Fin 32, (127 : Int32).toBitVec.getLsbD j.val = decide (j.val < 7) := by decide +kernel
    exact this ⟨i, hi⟩
  rw [e1, e2]
  show _ = (BitVec.ofNat 32 (uNn y % 2 ^ 7)).getLsbD i
  rw [BitVec.getLsbD_ofNat, Nat.testBit_mod_two_pow]
  simp [hi, Bool.and_comm]
theorem tb_nat (x : Int64) (j : Nat) : tb x j = (uNn x).testBit j := by
  unfold tb uNn; rw [BitVec.testBit_toNat]
theorem bc_eq (x : Int64) : f_J13_bitCount_95d88 x = ii (fb_ct (tb x) 64) := by
  have hx := uN_lt' x
  have hq := q_all 8 (uNn x) (by rw [show (256 : Nat) ^ 8 = 18446744073709551616 from rfl]; exact hx)
  have u1 : uNn (bg1 x) = q1 8 (uNn x) := by
    have e : uNn (ush x 1 &&& 6148914691236517205) = uNn x / 2 &&& msk 85 8 := by
      rw [uN_and, show ush x 1 = ush x (ii 1) from rfl, uN_ush x (by omega)]
      rfl
    unfold bg1
    rw [uN_sub' _ _ (by rw [e]; exact hq.1), e]; rfl
  have b1 : q1 8 (uNn x) < 18446744073709551616 := by unfold q1; omega
  have u2 : uNn (bg2 (bg1 x)) = q2 8 (q1 8 (uNn x)) := by
    have e : uNn (ush (bg1 x) 2 &&& 3689348814741910323) = q1 8 (uNn x) / 4 &&& msk 51 8 := by
      rw [uN_and, show ush (bg1 x) 2 = ush (bg1 x) (ii 2) from rfl, uN_ush _ (by omega), u1]
      rfl
    have e2 : uNn (bg1 x &&& 3689348814741910323) = q1 8 (uNn x) &&& msk 51 8 := by
      rw [uN_and, u1]; rfl
    unfold bg2
    rw [uN_add', e, e2]
    have h1 : (q1 8 (uNn x) &&& msk 51 8) ≤ msk 51 8 := Nat.and_le_right
    have h2 : (q1 8 (uNn x) / 4 &&& msk 51 8) ≤ msk 51 8 := Nat.and_le_right
    have h3 : msk 51 8 = 3689348814741910323 := rfl
    rw [Nat.mod_eq_of_lt (by omega)]; rfl
  have b2 : q2 8 (q1 8 (uNn x)) ≤ 7378697629483820646 := by
    have h1 : (q1 8 (uNn x) &&& msk 51 8) ≤ msk 51 8 := Nat.and_le_right
    have h2 : (q1 8 (uNn x) / 4 &&& msk 51 8) ≤ msk 51 8 := Nat.and_le_right
    have h3 : msk 51 8 = 3689348814741910323 := rfl
    unfold q2; omega
  have u3 : uNn (bg3 (bg2 (bg1 x))) = sH 8 (uNn x) := by
    unfold bg3
    rw [uN_and, uN_add', show ush (bg2 (bg1 x)) 4 = ush (bg2 (bg1 x)) (ii 4) from rfl, uN_ush _ (by omega), u2, Nat.mod_eq_of_lt (by omega), ← hq.2.2]
    rfl
  obtain ⟨c0, c1, c2, c3, c4, c5, c6, c7, l0, l1, l2, l3, l4, l5, l6, l7, hs, hc⟩ := sH_8 (uNn x)
  rw [hs] at u3
  have hct : fb_ct (tb x) 64 = fb_ct (fun j => (uNn x).testBit j) 64 := fb_ct_cong (fun j _ => tb_nat x j)
  rw [hct, hc, bc_rfl, ti32]
  congr 1
  clear hq u1 b1 u2 b2 hs hc hct hx
  generalize bg3 (bg2 (bg1 x)) = y at u3 ⊢
  have u4 : uNn (bg4 y) = (c0 + c1) + 256 * ((c1 + c2) + 256 * ((c2 + c3) + 256 * ((c3 + c4) + 256 * ((c4 + c5) + 256 * ((c5 + c6) + 256 * ((c6 + c7) + 256 * c7)))))) := by
    unfold bg4
    rw [uN_add', show ush y 8 = ush y (ii 8) from rfl, uN_ush _ (by omega), u3, show (2 : Nat) ^ 8 = 256 from rfl]
    omega
  have u5 : uNn (bg5 (bg4 y)) = (c0 + c1 + c2 + c3) + 256 * ((c1 + c2 + c3 + c4) + 256 * ((c2 + c3 + c4 + c5) + 256 * ((c3 + c4 + c5 + c6) + 256 * ((c4 + c5 + c6 + c7) + 256 * ((c5 + c6 + c7) + 256 * ((c6 + c7) + 256 * c7)))))) := by
    unfold bg5
    rw [uN_add', show ush (bg4 y) 16 = ush (bg4 y) (ii 16) from rfl, uN_ush _ (by omega), u4, show (2 : Nat) ^ 16 = 65536 from rfl]
    have e : ∀ H, ((c0 + c1) + 256 * ((c1 + c2) + 256 * H)) / 65536 = H := fun H => by omega
    rw [e, Nat.mod_eq_of_lt (by omega)]
    omega
  unfold bg6
  rw [uN_add', show ush (bg5 (bg4 y)) 32 = ush (bg5 (bg4 y)) (ii 32) from rfl, uN_ush _ (by omega), u5, show (2 : Nat) ^ 32 = 4294967296 from rfl]
  have e : ∀ H, ((c0 + c1 + c2 + c3) + 256 * ((c1 + c2 + c3 + c4) + 256 * ((c2 + c3 + c4 + c5) + 256 * ((c3 + c4 + c5 + c6) + 256 * H)))) / 4294967296 = H := fun H => by omega
  rw [e, Nat.mod_mod_of_dvd _ (by decide : 128 ∣ 18446744073709551616)]
  clear e u3 u4 u5
  omega
