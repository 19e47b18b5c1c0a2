/-! ===== P2: methods without loops that write nothing (by wip/whole/gen/auto.py) ===== -/
def f_J13_bitCount_95d88 (y0 : Int64) : Int32 := (((((((((y0 - (((y0.toUInt64 >>> ((1 : Int32).toInt64.toUInt64 &&& Int64.toUInt64 63)).toInt64) &&& 6148914691236517205)) &&& 3689348814741910323) + ((((y0 - (((y0.toUInt64 >>> ((1 : Int32).toInt64.toUInt64 &&& Int64.toUInt64 63)).toInt64) &&& 6148914691236517205)).toUInt64 >>> ((2 : Int32).toInt64.toUInt64 &&& Int64.toUInt64 63)).toInt64) &&& 3689348814741910323)) + (((((y0 - (((y0.toUInt64 >>> ((1 : Int32).toInt64.toUInt64 &&& Int64.toUInt64 63)).toInt64) &&& 6148914691236517205)) &&& 3689348814741910323) + ((((y0 - (((y0.toUInt64 >>> ((1 : Int32).toInt64.toUInt64 &&& Int64.toUInt64 63)).toInt64) &&& 6148914691236517205)).toUInt64 >>> ((2 : Int32).toInt64.toUInt64 &&& Int64.toUInt64 63)).toInt64) &&& 3689348814741910323)).toUInt64 >>> ((4 : Int32).toInt64.toUInt64 &&& Int64.toUInt64 63)).toInt64)) &&& 1085102592571150095) + (((((((y0 - (((y0.toUInt64 >>> ((1 : Int32).toInt64.toUInt64 &&& Int64.toUInt64 63)).toInt64) &&& 6148914691236517205)) &&& 3689348814741910323) + ((((y0 - (((y0.toUInt64 >>> ((1 : Int32).toInt64.toUInt64 &&& Int64.toUInt64 63)).toInt64) &&& 6148914691236517205)).toUInt64 >>> ((2 : Int32).toInt64.toUInt64 &&& Int64.toUInt64 63)).toInt64) &&& 3689348814741910323)) + (((((y0 - (((y0.toUInt64 >>> ((1 : Int32).toInt64.toUInt64 &&& Int64.toUInt64 63)).toInt64) &&& 6148914691236517205)) &&& 3689348814741910323) + ((((y0 - (((y0.toUInt64 >>> ((1 : Int32).toInt64.toUInt64 &&& Int64.toUInt64 63)).toInt64) &&& 6148914691236517205)).toUInt64 >>> ((2 : Int32).toInt64.toUInt64 &&& Int64.toUInt64 63)).toInt64) &&& 3689348814741910323)).toUInt64 >>> ((4 : Int32).toInt64.toUInt64 &&& Int64.toUInt64 63)).toInt64)) &&& 1085102592571150095).toUInt64 >>> ((8 : Int32).toInt64.toUInt64 &&& Int64.toUInt64 63)).toInt64)) + ((((((((y0 - (((y0.toUInt64 >>> ((1 : Int32).toInt64.toUInt64 &&& Int64.toUInt64 63)).toInt64) &&& 6148914691236517205)) &&& 3689348814741910323) + ((((y0 - (((y0.toUInt64 >>> ((1 : Int32).toInt64.toUInt64 &&& Int64.toUInt64 63)).toInt64) &&& 6148914691236517205)).toUInt64 >>> ((2 : Int32).toInt64.toUInt64 &&& Int64.toUInt64 63)).toInt64) &&& 3689348814741910323)) + (((((y0 - (((y0.toUInt64 >>> ((1 : Int32).toInt64.toUInt64 &&& Int64.toUInt64 63)).toInt64) &&& 6148914691236517205)) &&& 3689348814741910323) + ((((y0 - (((y0.toUInt64 >>> ((1 : Int32).toInt64.toUInt64 &&& Int64.toUInt64 63)).toInt64) &&& 6148914691236517205)).toUInt64 >>> ((2 : Int32).toInt64.toUInt64 &&& Int64.toUInt64 63)).toInt64) &&& 3689348814741910323)).toUInt64 >>> ((4 : Int32).toInt64.toUInt64 &&& Int64.toUInt64 63)).toInt64)) &&& 1085102592571150095) + (((((((y0 - (((y0.toUInt64 >>> ((1 : Int32).toInt64.toUInt64 &&& Int64.toUInt64 63)).toInt64) &&& 6148914691236517205)) &&& 3689348814741910323) + ((((y0 - (((y0.toUInt64 >>> ((1 : Int32).toInt64.toUInt64 &&& Int64.toUInt64 63)).toInt64) &&& 6148914691236517205)).toUInt64 >>> ((2 : Int32).toInt64.toUInt64 &&& Int64.toUInt64 63)).toInt64) &&& 3689348814741910323)) + (((((y0 - (((y0.toUInt64 >>> ((1 : Int32).toInt64.toUInt64 &&& Int64.toUInt64 63)).toInt64) &&& 6148914691236517205)) &&& 3689348814741910323) + ((((y0 - (((y0.toUInt64 >>> ((1 : Int32).toInt64.toUInt64 &&& Int64.toUInt64 63)).toInt64) &&& 6148914691236517205)).toUInt64 >>> ((2 : Int32).toInt64.toUInt64 &&& Int64.toUInt64 63)).toInt64) &&& 3689348814741910323)).toUInt64 >>> ((4 : Int32).toInt64.toUInt64 &&& Int64.toUInt64 63)).toInt64)) &&& 1085102592571150095).toUInt64 >>> ((8 : Int32).toInt64.toUInt64 &&& Int64.toUInt64 63)).toInt64)).toUInt64 >>> ((16 : Int32).toInt64.toUInt64 &&& Int64.toUInt64 63)).toInt64)) + (((((((((y0 - (((y0.toUInt64 >>> ((1 : Int32).toInt64.toUInt64 &&& Int64.toUInt64 63)).toInt64) &&& 6148914691236517205)) &&& 3689348814741910323) + ((((y0 - (((y0.toUInt64 >>> ((1 : Int32).toInt64.toUInt64 &&& Int64.toUInt64 63)).toInt64) &&& 6148914691236517205)).toUInt64 >>> ((2 : Int32).toInt64.toUInt64 &&& Int64.toUInt64 63)).toInt64) &&& 3689348814741910323)) + (((((y0 - (((y0.toUInt64 >>> ((1 : Int32).toInt64.toUInt64 &&& Int64.toUInt64 63)).toInt64) &&& 6148914691236517205)) &&& 3689348814741910323) + ((((y0 - (((y0.toUInt64 >>> ((1 : Int32).toInt64.toUInt64 &&& Int64.toUInt64 63)).toInt64) &&& 6148914691236517205)).toUInt64 >>> ((2 : Int32).toInt64.toUInt64 &&& Int64.toUInt64 63)).toInt64) &&& 3689348814741910323)).toUInt64 >>> ((4 : Int32).toInt64.toUInt64 &&& Int64.toUInt64 63)).toInt64)) &&& 1085102592571150095) + (((((((y0 - (((y0.toUInt64 >>> ((1 : Int32).toInt64.toUInt64 &&& Int64.toUInt64 63)).toInt64) &&& 6148914691236517205)) &&& 3689348814741910323) + ((((y0 - (((y0.toUInt64 >>> ((1 : Int32).toInt64.toUInt64 &&& Int64.toUInt64 63)).toInt64) &&& 6148914691236517205)).toUInt64 >>> ((2 : Int32).toInt64.toUInt64 &&& Int64.toUInt64 63)).toInt64) &&& 3689348814741910323)) + (((((y0 - (((y0.toUInt64 >>> ((1 : Int32).toInt64.toUInt64 &&& Int64.toUInt64 63)).toInt64) &&& 6148914691236517205)) &&& 3689348814741910323) + ((((y0 - (((y0.toUInt64 >>> ((1 : Int32).toInt64.toUInt64 &&& Int64.toUInt64 63)).toInt64) &&& 6148914691236517205)).toUInt64 >>> ((2 : Int32).toInt64.toUInt64 &&& Int64.toUInt64 63)).toInt64) &&& 3689348814741910323)).toUInt64 >>> ((4 : Int32).toInt64.toUInt64 &&& Int64.toUInt64 63)).toInt64)) &&& 1085102592571150095).toUInt64 >>> ((8 : Int32).toInt64.toUInt64 &&& Int64.toUInt64 63)).toInt64)) + ((((((((y0 - (((y0.toUInt64 >>> ((1 : Int32).toInt64.toUInt64 &&& Int64.toUInt64 63)).toInt64) &&& 6148914691236517205)) &&& 3689348814741910323) + ((((y0 - (((y0.toUInt64 >>> ((1 : Int32).toInt64.toUInt64 &&& Int64.toUInt64 63)).toInt64) &&& 6148914691236517205)).toUInt64 >>> ((2 : Int32).toInt64.toUInt64 &&& Int64.toUInt64 63)).toInt64) &&& 3689348814741910323)) + (((((y0 - (((y0.toUInt64 >>> ((1 : Int32).toInt64.toUInt64 &&& Int64.toUInt64 63)).toInt64) &&& 6148914691236517205)) &&& 3689348814741910323) + ((((y0 - (((y0.toUInt64 >>> ((1 : Int32).toInt64.toUInt64 &&& Int64.toUInt64 63)).toInt64) &&& 6148914691236517205)).toUInt64 >>> ((2 : Int32).toInt64.toUInt64 &&& Int64.toUInt64 63)).toInt64) &&& 3689348814741910323)).toUInt64 >>> ((4 : Int32).toInt64.toUInt64 &&& Int64.toUInt64 63)).toInt64)) &&& 1085102592571150095) + (((((((y0 - (((y0.toUInt64 >>> ((1 : Int32).toInt64.toUInt64 &&& Int64.toUInt64 63)).toInt64) &&& 6148914691236517205)) &&& 3689348814741910323) + ((((y0 - (((y0.toUInt64 >>> ((1 : Int32).toInt64.toUInt64 &&& Int64.toUInt64 63)).toInt64) &&& 6148914691236517205)).toUInt64 >>> ((2 : Int32).toInt64.toUInt64 &&& Int64.toUInt64 63)).toInt64) &&& 3689348814741910323)) + (((((y0 - (((y0.toUInt64 >>> ((1 : Int32).toInt64.toUInt64 &&& Int64.toUInt64 63)).toInt64) &&& 6148914691236517205)) &&& 3689348814741910323) + ((((y0 - (((y0.toUInt64 >>> ((1 : Int32).toInt64.toUInt64 &&& Int64.toUInt64 63)).toInt64) &&& 6148914691236517205)).toUInt64 >>> ((2 : Int32).toInt64.toUInt64 &&& Int64.toUInt64 63)).toInt64) &&& 3689348814741910323)).toUInt64 >>> ((4 : Int32).toInt64.toUInt64 &&& Int64.toUInt64 63)).toInt64)) &&& 1085102592571150095).toUInt64 >>> ((8 : Int32).toInt64.toUInt64 &&& Int64.toUInt64 63)).toInt64)).toUInt64 >>> ((16 : Int32).toInt64.toUInt64 &&& Int64.toUInt64 63)).toInt64)).toUInt64 >>> ((32 : Int32).toInt64.toUInt64 &&& Int64.toUInt64 63)).toInt64)).toInt32) &&& 127
theorem s_J13_bitCount_95d88 {xs : Nat → Int32} {L d : Nat} {S : Nat → Shp} {I : Nat → Nat → Int32} {J : Nat → Nat → Int64} {R : Nat → Nat → Nat} {c : Nat × Nat} {Q : Option (Option Value) → MH → Prop} {y0 : Int64}  (k : Q (some (some (.int (f_J13_bitCount_95d88 y0)))) (S, I, J, R, c)) : X xs L d 167 0 [.long y0, .null] [] (S, I, J, R, c) Q := by
  unfold f_J13_bitCount_95d88 at k
  exact b_J13_bitCount_95d88_0  k
def f_X8_byteAt (I : Nat → Nat → Int32) (x1 : Int32) : Int32 := (I 3 x1.toNatClampNeg) &&& 255
theorem s_X8_byteAt {xs : Nat → Int32} {L d : Nat} {S : Nat → Shp} {I : Nat → Nat → Int32} {J : Nat → Nat → Int64} {R : Nat → Nat → Nat} {c : Nat × Nat} {Q : Option (Option Value) → MH → Prop} {x1 : Int32} (hL : Lay S R) (hb5_1 : inb x1 2000 = true) (k : Q (some (some (.int (f_X8_byteAt I x1)))) (S, I, J, R, c)) : X xs L d 81 0 [.ref 2, .int x1] [] (S, I, J, R, c) Q := by
  unfold f_X8_byteAt at k
  exact b_X8_byteAt_0 hL hb5_1 k
def f_X9_longest (x0 : Int32) : Int32 := (if ¬ x0 = 2 then (if ¬ x0 = 4 then (if ¬ x0 = 5 then 1 else 4) else 4) else 8)
theorem s_X9_longest {xs : Nat → Int32} {L d : Nat} {S : Nat → Shp} {I : Nat → Nat → Int32} {J : Nat → Nat → Int64} {R : Nat → Nat → Nat} {c : Nat × Nat} {Q : Option (Option Value) → MH → Prop} {x0 : Int32}  (k : Q (some (some (.int (f_X9_longest x0)))) (S, I, J, R, c)) : X xs L d 88 0 [.int x0] [] (S, I, J, R, c) Q := by
  unfold f_X9_longest at k
  refine b_X9_longest_0  (fun c0 => ?_) (fun c0 => ?_)
  · rw [if_pos c0] at k
    refine b_X9_longest_8  (fun c1 => ?_) (fun c1 => ?_)
    · rw [if_pos c1] at k
      refine b_X9_longest_15  (fun c2 => ?_) (fun c2 => ?_)
      · rw [if_pos c2] at k
        refine b_X9_longest_24  ?_
        exact b_X9_longest_25  k
      · rw [if_neg c2] at k
        refine b_X9_longest_20  ?_
        exact b_X9_longest_25  k
    · rw [if_neg c1] at k
      exact b_X9_longest_13  k
  · rw [if_neg c0] at k
    exact b_X9_longest_5  k
def f_X9_kind (I : Nat → Nat → Int32) : Int32 := I 5 (I 4 5).toNatClampNeg
theorem s_X9_kind {xs : Nat → Int32} {L d : Nat} {S : Nat → Shp} {I : Nat → Nat → Int32} {J : Nat → Nat → Int64} {R : Nat → Nat → Nat} {c : Nat × Nat} {Q : Option (Option Value) → MH → Prop}  (hL : Lay S R) (hb8_1 : inb (I 4 5) 2001 = true) (k : Q (some (some (.int (f_X9_kind I)))) (S, I, J, R, c)) : X xs L d 93 0 [.ref 4] [] (S, I, J, R, c) Q := by
  unfold f_X9_kind at k
  exact b_X9_kind_0 hL hb8_1 k
def f_X9_place (I : Nat → Nat → Int32) : Int32 := I 6 (I 4 5).toNatClampNeg
theorem s_X9_place {xs : Nat → Int32} {L d : Nat} {S : Nat → Shp} {I : Nat → Nat → Int32} {J : Nat → Nat → Int64} {R : Nat → Nat → Nat} {c : Nat × Nat} {Q : Option (Option Value) → MH → Prop}  (hL : Lay S R) (hb8_1 : inb (I 4 5) 2001 = true) (k : Q (some (some (.int (f_X9_place I)))) (S, I, J, R, c)) : X xs L d 94 0 [.ref 4] [] (S, I, J, R, c) Q := by
  unfold f_X9_place at k
  exact b_X9_place_0 hL hb8_1 k
def f_X9_key (I : Nat → Nat → Int32) (J : Nat → Nat → Int64) : Int64 := J 7 (I 4 5).toNatClampNeg
theorem s_X9_key {xs : Nat → Int32} {L d : Nat} {S : Nat → Shp} {I : Nat → Nat → Int32} {J : Nat → Nat → Int64} {R : Nat → Nat → Nat} {c : Nat × Nat} {Q : Option (Option Value) → MH → Prop}  (hL : Lay S R) (hb8_1 : inb (I 4 5) 2001 = true) (k : Q (some (some (.long (f_X9_key I J)))) (S, I, J, R, c)) : X xs L d 95 0 [.ref 4] [] (S, I, J, R, c) Q := by
  unfold f_X9_key at k
  exact b_X9_key_0 hL hb8_1 k
def f_X9_index (I : Nat → Nat → Int32) : Int32 := I 4 5
theorem s_X9_index {xs : Nat → Int32} {L d : Nat} {S : Nat → Shp} {I : Nat → Nat → Int32} {J : Nat → Nat → Int64} {R : Nat → Nat → Nat} {c : Nat × Nat} {Q : Option (Option Value) → MH → Prop}  (hL : Lay S R) (k : Q (some (some (.int (f_X9_index I)))) (S, I, J, R, c)) : X xs L d 96 0 [.ref 4] [] (S, I, J, R, c) Q := by
  unfold f_X9_index at k
  exact b_X9_index_0 hL k
def f_X9_placeAt (I : Nat → Nat → Int32) (x1 : Int32) : Int32 := I 6 x1.toNatClampNeg
theorem s_X9_placeAt {xs : Nat → Int32} {L d : Nat} {S : Nat → Shp} {I : Nat → Nat → Int32} {J : Nat → Nat → Int64} {R : Nat → Nat → Nat} {c : Nat × Nat} {Q : Option (Option Value) → MH → Prop} {x1 : Int32} (hL : Lay S R) (hb5_1 : inb x1 2001 = true) (k : Q (some (some (.int (f_X9_placeAt I x1)))) (S, I, J, R, c)) : X xs L d 97 0 [.ref 4, .int x1] [] (S, I, J, R, c) Q := by
  unfold f_X9_placeAt at k
  exact b_X9_placeAt_0 hL hb5_1 k
def f_X9_keyAt (J : Nat → Nat → Int64) (x1 : Int32) : Int64 := J 7 x1.toNatClampNeg
theorem s_X9_keyAt {xs : Nat → Int32} {L d : Nat} {S : Nat → Shp} {I : Nat → Nat → Int32} {J : Nat → Nat → Int64} {R : Nat → Nat → Nat} {c : Nat × Nat} {Q : Option (Option Value) → MH → Prop} {x1 : Int32} (hL : Lay S R) (hb5_1 : inb x1 2001 = true) (k : Q (some (some (.long (f_X9_keyAt J x1)))) (S, I, J, R, c)) : X xs L d 98 0 [.ref 4, .int x1] [] (S, I, J, R, c) Q := by
  unfold f_X9_keyAt at k
  exact b_X9_keyAt_0 hL hb5_1 k
def f_X5_at (I : Nat → Nat → Int32) (r0 : Nat) (x1 : Int32) : Int32 := I (r0 + 1) x1.toNatClampNeg
theorem s_X5_at {xs : Nat → Int32} {L d : Nat} {S : Nat → Shp} {I : Nat → Nat → Int32} {J : Nat → Nat → Int64} {R : Nat → Nat → Nat} {c : Nat × Nat} {Q : Option (Option Value) → MH → Prop} {r0 : Nat} {x1 : Int32} (h_r0 : LyCd S R r0) (hb5_1 : inb x1 2000 = true) (k : Q (some (some (.int (f_X5_at I r0 x1)))) (S, I, J, R, c)) : X xs L d 58 0 [.ref r0, .int x1] [] (S, I, J, R, c) Q := by
  unfold f_X5_at at k
  exact b_X5_at_0 h_r0 hb5_1 k
def f_X7_ones (I : Nat → Nat → Int32) (J : Nat → Nat → Int64) : Int64 := (if (I 14 2) ≤ 0 then 0 else J 15 ((I 14 2) - 1).toNatClampNeg)
theorem s_X7_ones {xs : Nat → Int32} {L d : Nat} {S : Nat → Shp} {I : Nat → Nat → Int32} {J : Nat → Nat → Int64} {R : Nat → Nat → Nat} {c : Nat × Nat} {Q : Option (Option Value) → MH → Prop}  (hL : Lay S R) (hb17_1 : ¬ ((I 14 2) ≤ 0) → inb ((I 14 2) - 1) 64 = true) (k : Q (some (some (.long (f_X7_ones I J)))) (S, I, J, R, c)) : X xs L d 73 0 [.ref 14] [] (S, I, J, R, c) Q := by
  unfold f_X7_ones at k
  refine b_X7_ones_0 hL (fun c0 => ?_) (fun c0 => ?_)
  · rw [if_pos c0] at k
    refine b_X7_ones_21  ?_
    exact b_X7_ones_22  k
  · rw [if_neg c0] at k
    refine b_X7_ones_7 hL (hb17_1 c0) ?_
    exact b_X7_ones_22  k
def f_X7_zeros (I : Nat → Nat → Int32) (J : Nat → Nat → Int64) : Int64 := (if (I 14 2) ≤ 0 then 0 else J 16 ((I 14 2) - 1).toNatClampNeg)
theorem s_X7_zeros {xs : Nat → Int32} {L d : Nat} {S : Nat → Shp} {I : Nat → Nat → Int32} {J : Nat → Nat → Int64} {R : Nat → Nat → Nat} {c : Nat × Nat} {Q : Option (Option Value) → MH → Prop}  (hL : Lay S R) (hb17_1 : ¬ ((I 14 2) ≤ 0) → inb ((I 14 2) - 1) 64 = true) (k : Q (some (some (.long (f_X7_zeros I J)))) (S, I, J, R, c)) : X xs L d 74 0 [.ref 14] [] (S, I, J, R, c) Q := by
  unfold f_X7_zeros at k
  refine b_X7_zeros_0 hL (fun c0 => ?_) (fun c0 => ?_)
  · rw [if_pos c0] at k
    refine b_X7_zeros_21  ?_
    exact b_X7_zeros_22  k
  · rw [if_neg c0] at k
    refine b_X7_zeros_7 hL (hb17_1 c0) ?_
    exact b_X7_zeros_22  k
def f_X1_rankOf (I : Nat → Nat → Int32) (J : Nat → Nat → Int64) (r0 : Nat) (x1 : Int32) : Int32 := (if ¬ (I (r0 + 2) x1.toNatClampNeg) = 1 then 0 else (1 : Int32) + (f_J13_bitCount_95d88 (J (r0 + 8) x1.toNatClampNeg)))
theorem s_X1_rankOf {xs : Nat → Int32} {L d : Nat} {S : Nat → Shp} {I : Nat → Nat → Int32} {J : Nat → Nat → Int64} {R : Nat → Nat → Nat} {c : Nat × Nat} {Q : Option (Option Value) → MH → Prop} {r0 : Nat} {x1 : Int32} (h_r0 : LyCi S R r0) (hb5_1 : inb x1 40 = true) (hb16_2 : ¬ (¬ (I (r0 + 2) x1.toNatClampNeg) = 1) → inb x1 40 = true) (k : Q (some (some (.int (f_X1_rankOf I J r0 x1)))) (S, I, J, R, c)) : X xs L (d + 1) 36 0 [.ref r0, .int x1] [] (S, I, J, R, c) Q := by
  unfold f_X1_rankOf at k
  refine b_X1_rankOf_0 h_r0 hb5_1 (fun c0 => ?_) (fun c0 => ?_)
  · rw [if_pos c0] at k
    refine b_X1_rankOf_24  ?_
    exact b_X1_rankOf_25  k
  · rw [if_neg c0] at k
    refine b_X1_rankOf_10 h_r0 (hb16_2 c0) (s_J13_bitCount_95d88  ?_)
    refine b_X1_rankOf_20  ?_
    exact b_X1_rankOf_25  k
def f_X0_clauseRow (x0 : Int32) (x1 : Int32) : Int32 := (x0 * 48) + x1
theorem s_X0_clauseRow {xs : Nat → Int32} {L d : Nat} {S : Nat → Shp} {I : Nat → Nat → Int32} {J : Nat → Nat → Int64} {R : Nat → Nat → Nat} {c : Nat × Nat} {Q : Option (Option Value) → MH → Prop} {x0 : Int32} {x1 : Int32}  (k : Q (some (some (.int (f_X0_clauseRow x0 x1)))) (S, I, J, R, c)) : X xs L d 2 0 [.int x0, .int x1] [] (S, I, J, R, c) Q := by
  unfold f_X0_clauseRow at k
  exact b_X0_clauseRow_0  k
def f_X0_row (x0 : Int32) (x1 : Int32) : Int32 := ((x0 * 12) + x1) * 40
theorem s_X0_row {xs : Nat → Int32} {L d : Nat} {S : Nat → Shp} {I : Nat → Nat → Int32} {J : Nat → Nat → Int64} {R : Nat → Nat → Nat} {c : Nat × Nat} {Q : Option (Option Value) → MH → Prop} {x0 : Int32} {x1 : Int32}  (k : Q (some (some (.int (f_X0_row x0 x1)))) (S, I, J, R, c)) : X xs L d 3 0 [.int x0, .int x1] [] (S, I, J, R, c) Q := by
  unfold f_X0_row at k
  exact b_X0_row_0  k
def f_X0_lanesWith (x0 : Int32) (x1 : Int32) : Int64 := (if 6 ≤ x0 then (if ¬ ((x1 >>> ((x0 - 6) &&& 31)) &&& 1) = 1 then 0 else (-1)) else (jTab 1).getD x0.toNatClampNeg 0)
theorem s_X0_lanesWith {xs : Nat → Int32} {L d : Nat} {S : Nat → Shp} {I : Nat → Nat → Int32} {J : Nat → Nat → Int64} {R : Nat → Nat → Nat} {c : Nat × Nat} {Q : Option (Option Value) → MH → Prop} {x0 : Int32} {x1 : Int32} (hb10_0 : ¬ (6 ≤ x0) → inb x0 (jTab 1).length = true) (k : Q (some (some (.long (f_X0_lanesWith x0 x1)))) (S, I, J, R, c)) : X xs L d 4 0 [.int x0, .int x1] [] (S, I, J, R, c) Q := by
  unfold f_X0_lanesWith at k
  refine b_X0_lanesWith_0  (fun c0 => ?_) (fun c0 => ?_)
  · rw [if_pos c0] at k
    refine b_X0_lanesWith_12  (fun c1 => ?_) (fun c1 => ?_)
    · rw [if_pos c1] at k
      refine b_X0_lanesWith_30  ?_
      exact b_X0_lanesWith_31  k
    · rw [if_neg c1] at k
      refine b_X0_lanesWith_24  ?_
      exact b_X0_lanesWith_31  k
  · rw [if_neg c0] at k
    exact b_X0_lanesWith_6 (hb10_0 c0) k
def f_X0_bitOf (I : Nat → Nat → Int32) (q_13_1 : Nat) (x1 : Int32) : Int32 := ((I q_13_1 0) - 1) - x1
theorem s_X0_bitOf {xs : Nat → Int32} {L d : Nat} {S : Nat → Shp} {I : Nat → Nat → Int32} {J : Nat → Nat → Int64} {R : Nat → Nat → Nat} {c : Nat × Nat} {Q : Option (Option Value) → MH → Prop} {x1 : Int32} {q_13_1 : Nat} (hL : Lay S R) (hq_13_1 : R 13 1 = q_13_1) (h_q_13_1 : LyCm S R q_13_1) (k : Q (some (some (.int (f_X0_bitOf I q_13_1 x1)))) (S, I, J, R, c)) : X xs L d 5 0 [.ref 13, .int x1] [] (S, I, J, R, c) Q := by
  unfold f_X0_bitOf at k
  exact b_X0_bitOf_0 hL hq_13_1 h_q_13_1 k
def f_X0_wrongLanes (I : Nat → Nat → Int32) (J : Nat → Nat → Int64) (q_13_1 : Nat) (x1 : Int32) (x2 : Int32) (x3 : Int32) : Int64 := (J 20 (f_X0_clauseRow x3 x1).toNatClampNeg) &&& ((((J 19 (f_X0_clauseRow x3 x1).toNatClampNeg) &&& (J 21 ((f_X0_row x3 x2) + (I (q_13_1 + 2) x1.toNatClampNeg)).toNatClampNeg)) ||| (((J 19 (f_X0_clauseRow x3 x1).toNatClampNeg) ^^^ (-1)) &&& (J 22 ((f_X0_row x3 x2) + (I (q_13_1 + 2) x1.toNatClampNeg)).toNatClampNeg))) ^^^ (-1))
theorem s_X0_wrongLanes {xs : Nat → Int32} {L d : Nat} {S : Nat → Shp} {I : Nat → Nat → Int32} {J : Nat → Nat → Int64} {R : Nat → Nat → Nat} {c : Nat × Nat} {Q : Option (Option Value) → MH → Prop} {x1 : Int32} {x2 : Int32} {x3 : Int32} {q_13_1 : Nat} (hL : Lay S R) (hb9_1 : inb (f_X0_clauseRow x3 x1) 384 = true) (hq_13_1 : R 13 1 = q_13_1) (h_q_13_1 : LyCm S R q_13_1) (hb25_4 : inb x1 48 = true) (hb37_5 : inb ((f_X0_row x3 x2) + (I (q_13_1 + 2) x1.toNatClampNeg)) 3840 = true) (k : Q (some (some (.long (f_X0_wrongLanes I J q_13_1 x1 x2 x3)))) (S, I, J, R, c)) : X xs L (d + 1) 12 0 [.ref 13, .int x1, .int x2, .int x3, .null, .null, .null, .null, .null] [] (S, I, J, R, c) Q := by
  unfold f_X0_wrongLanes at k
  refine b_X0_wrongLanes_0 hL (s_X0_clauseRow  ?_)
  refine b_X0_wrongLanes_9 hL hb9_1 (s_X0_row  ?_)
  refine b_X0_wrongLanes_17 hL hq_13_1 h_q_13_1 hb25_4 hb37_5 hb37_5 (s_X0_clauseRow  ?_)
  exact b_X0_wrongLanes_65 hL hb9_1 k
def f_X0_changedLanes (J : Nat → Nat → Int64) (x1 : Int32) (x2 : Int32) (x3 : Int32) : Int64 := (if 6 ≤ x3 then (if 6 ≤ x3 then (((((J 21 ((f_X0_row x2 0) + x1).toNatClampNeg) ^^^ (((J 21 ((f_X0_row (x2 ||| ((1 : Int32) <<< ((x3 - 6) &&& 31))) 0) + x1).toNatClampNeg).toUInt64 >>> ((0 : Int32).toInt64.toUInt64 &&& Int64.toUInt64 63)).toInt64)) ||| ((J 22 ((f_X0_row x2 0) + x1).toNatClampNeg) ^^^ (((J 22 ((f_X0_row (x2 ||| ((1 : Int32) <<< ((x3 - 6) &&& 31))) 0) + x1).toNatClampNeg).toUInt64 >>> ((0 : Int32).toInt64.toUInt64 &&& Int64.toUInt64 63)).toInt64))) &&& (((J 23 x2.toNatClampNeg) ||| (((J 23 (x2 ||| ((1 : Int32) <<< ((x3 - 6) &&& 31))).toNatClampNeg).toUInt64 >>> ((0 : Int32).toInt64.toUInt64 &&& Int64.toUInt64 63)).toInt64)) ^^^ (-1))) &&& ((f_X0_lanesWith x3 x2) ^^^ (-1))) &&& (J 13 4) else (((((J 21 ((f_X0_row x2 0) + x1).toNatClampNeg) ^^^ (((J 21 ((f_X0_row x2 0) + x1).toNatClampNeg).toUInt64 >>> ((0 : Int32).toInt64.toUInt64 &&& Int64.toUInt64 63)).toInt64)) ||| ((J 22 ((f_X0_row x2 0) + x1).toNatClampNeg) ^^^ (((J 22 ((f_X0_row x2 0) + x1).toNatClampNeg).toUInt64 >>> ((0 : Int32).toInt64.toUInt64 &&& Int64.toUInt64 63)).toInt64))) &&& (((J 23 x2.toNatClampNeg) ||| (((J 23 x2.toNatClampNeg).toUInt64 >>> ((0 : Int32).toInt64.toUInt64 &&& Int64.toUInt64 63)).toInt64)) ^^^ (-1))) &&& ((f_X0_lanesWith x3 x2) ^^^ (-1))) &&& (J 13 4)) else (if 6 ≤ x3 then (((((J 21 ((f_X0_row x2 0) + x1).toNatClampNeg) ^^^ (((J 21 ((f_X0_row (x2 ||| ((1 : Int32) <<< ((x3 - 6) &&& 31))) 0) + x1).toNatClampNeg).toUInt64 >>> (((1 : Int32) <<< (x3 &&& 31)).toInt64.toUInt64 &&& Int64.toUInt64 63)).toInt64)) ||| ((J 22 ((f_X0_row x2 0) + x1).toNatClampNeg) ^^^ (((J 22 ((f_X0_row (x2 ||| ((1 : Int32) <<< ((x3 - 6) &&& 31))) 0) + x1).toNatClampNeg).toUInt64 >>> (((1 : Int32) <<< (x3 &&& 31)).toInt64.toUInt64 &&& Int64.toUInt64 63)).toInt64))) &&& (((J 23 x2.toNatClampNeg) ||| (((J 23 (x2 ||| ((1 : Int32) <<< ((x3 - 6) &&& 31))).toNatClampNeg).toUInt64 >>> (((1 : Int32) <<< (x3 &&& 31)).toInt64.toUInt64 &&& Int64.toUInt64 63)).toInt64)) ^^^ (-1))) &&& ((f_X0_lanesWith x3 x2) ^^^ (-1))) &&& (J 13 4) else (((((J 21 ((f_X0_row x2 0) + x1).toNatClampNeg) ^^^ (((J 21 ((f_X0_row x2 0) + x1).toNatClampNeg).toUInt64 >>> (((1 : Int32) <<< (x3 &&& 31)).toInt64.toUInt64 &&& Int64.toUInt64 63)).toInt64)) ||| ((J 22 ((f_X0_row x2 0) + x1).toNatClampNeg) ^^^ (((J 22 ((f_X0_row x2 0) + x1).toNatClampNeg).toUInt64 >>> (((1 : Int32) <<< (x3 &&& 31)).toInt64.toUInt64 &&& Int64.toUInt64 63)).toInt64))) &&& (((J 23 x2.toNatClampNeg) ||| (((J 23 x2.toNatClampNeg).toUInt64 >>> (((1 : Int32) <<< (x3 &&& 31)).toInt64.toUInt64 &&& Int64.toUInt64 63)).toInt64)) ^^^ (-1))) &&& ((f_X0_lanesWith x3 x2) ^^^ (-1))) &&& (J 13 4)))
theorem s_X0_changedLanes {xs : Nat → Int32} {L d : Nat} {S : Nat → Shp} {I : Nat → Nat → Int32} {J : Nat → Nat → Int64} {R : Nat → Nat → Nat} {c : Nat × Nat} {Q : Option (Option Value) → MH → Prop} {x1 : Int32} {x2 : Int32} {x3 : Int32} (hL : Lay S R) (hb60_1 : 6 ≤ x3 → 6 ≤ x3 → inb ((f_X0_row x2 0) + x1) 3840 = true) (hb67_2 : 6 ≤ x3 → 6 ≤ x3 → inb ((f_X0_row (x2 ||| ((1 : Int32) <<< ((x3 - 6) &&& 31))) 0) + x1) 3840 = true) (hb102_3 : 6 ≤ x3 → 6 ≤ x3 → inb x2 8 = true) (hb109_4 : 6 ≤ x3 → 6 ≤ x3 → inb (x2 ||| ((1 : Int32) <<< ((x3 - 6) &&& 31))) 8 = true) (hc5 : 6 ≤ x3 → 6 ≤ x3 → ¬ (6 ≤ x3) → inb x3 (jTab 1).length = true) (hb60_6 : 6 ≤ x3 → ¬ (6 ≤ x3) → inb ((f_X0_row x2 0) + x1) 3840 = true) (hb102_7 : 6 ≤ x3 → ¬ (6 ≤ x3) → inb x2 8 = true) (hc8 : 6 ≤ x3 → ¬ (6 ≤ x3) → ¬ (6 ≤ x3) → inb x3 (jTab 1).length = true) (hb60_9 : ¬ (6 ≤ x3) → 6 ≤ x3 → inb ((f_X0_row x2 0) + x1) 3840 = true) (hb67_10 : ¬ (6 ≤ x3) → 6 ≤ x3 → inb ((f_X0_row (x2 ||| ((1 : Int32) <<< ((x3 - 6) &&& 31))) 0) + x1) 3840 = true) (hb102_11 : ¬ (6 ≤ x3) → 6 ≤ x3 → inb x2 8 = true) (hb109_12 : ¬ (6 ≤ x3) → 6 ≤ x3 → inb (x2 ||| ((1 : Int32) <<< ((x3 - 6) &&& 31))) 8 = true) (hc13 : ¬ (6 ≤ x3) → 6 ≤ x3 → ¬ (6 ≤ x3) → inb x3 (jTab 1).length = true) (hb60_14 : ¬ (6 ≤ x3) → ¬ (6 ≤ x3) → inb ((f_X0_row x2 0) + x1) 3840 = true) (hb102_15 : ¬ (6 ≤ x3) → ¬ (6 ≤ x3) → inb x2 8 = true) (hc16 : ¬ (6 ≤ x3) → ¬ (6 ≤ x3) → ¬ (6 ≤ x3) → inb x3 (jTab 1).length = true) (k : Q (some (some (.long (f_X0_changedLanes J x1 x2 x3)))) (S, I, J, R, c)) : X xs L (d + 1) 25 0 [.ref 13, .int x1, .int x2, .int x3, .null, .null, .null, .null, .null, .null, .null, .null] [] (S, I, J, R, c) Q := by
  unfold f_X0_changedLanes at k
  refine b_X0_changedLanes_0  (fun c0 => ?_) (fun c0 => ?_)
  · rw [if_pos c0] at k
    refine b_X0_changedLanes_12  ?_
    refine b_X0_changedLanes_13  (fun c1 => ?_) (fun c1 => ?_)
    · rw [if_pos c1] at k
      refine b_X0_changedLanes_25  ?_
      refine b_X0_changedLanes_33  (s_X0_row  ?_)
      refine b_X0_changedLanes_40  (s_X0_row  ?_)
      refine b_X0_changedLanes_50 hL (hb60_1 c0 c1) (hb67_2 c0 c1) (hb60_1 c0 c1) (hb67_2 c0 c1) (hb102_3 c0 c1) (hb109_4 c0 c1) (s_X0_lanesWith (hc5 c0 c1) ?_)
      exact b_X0_changedLanes_130 hL k
    · rw [if_neg c1] at k
      refine b_X0_changedLanes_21  ?_
      refine b_X0_changedLanes_33  (s_X0_row  ?_)
      refine b_X0_changedLanes_40  (s_X0_row  ?_)
      refine b_X0_changedLanes_50 hL (hb60_6 c0 c1) (hb60_6 c0 c1) (hb60_6 c0 c1) (hb60_6 c0 c1) (hb102_7 c0 c1) (hb102_7 c0 c1) (s_X0_lanesWith (hc8 c0 c1) ?_)
      exact b_X0_changedLanes_130 hL k
  · rw [if_neg c0] at k
    refine b_X0_changedLanes_6  ?_
    refine b_X0_changedLanes_13  (fun c1 => ?_) (fun c1 => ?_)
    · rw [if_pos c1] at k
      refine b_X0_changedLanes_25  ?_
      refine b_X0_changedLanes_33  (s_X0_row  ?_)
      refine b_X0_changedLanes_40  (s_X0_row  ?_)
      refine b_X0_changedLanes_50 hL (hb60_9 c0 c1) (hb67_10 c0 c1) (hb60_9 c0 c1) (hb67_10 c0 c1) (hb102_11 c0 c1) (hb109_12 c0 c1) (s_X0_lanesWith (hc13 c0 c1) ?_)
      exact b_X0_changedLanes_130 hL k
    · rw [if_neg c1] at k
      refine b_X0_changedLanes_21  ?_
      refine b_X0_changedLanes_33  (s_X0_row  ?_)
      refine b_X0_changedLanes_40  (s_X0_row  ?_)
      refine b_X0_changedLanes_50 hL (hb60_14 c0 c1) (hb60_14 c0 c1) (hb60_14 c0 c1) (hb60_14 c0 c1) (hb102_15 c0 c1) (hb102_15 c0 c1) (s_X0_lanesWith (hc16 c0 c1) ?_)
      exact b_X0_changedLanes_130 hL k
def f_X14_byteAt (I : Nat → Nat → Int32) (x1 : Int32) : Int32 := (if (I 65 1) ≤ x1 then (-1) else I 66 x1.toNatClampNeg)
theorem s_X14_byteAt {xs : Nat → Int32} {L d : Nat} {S : Nat → Shp} {I : Nat → Nat → Int32} {J : Nat → Nat → Int64} {R : Nat → Nat → Nat} {c : Nat × Nat} {Q : Option (Option Value) → MH → Prop} {x1 : Int32} (hL : Lay S R) (hb13_1 : ¬ ((I 65 1) ≤ x1) → inb x1 2000 = true) (k : Q (some (some (.int (f_X14_byteAt I x1)))) (S, I, J, R, c)) : X xs L d 122 0 [.ref 65, .int x1] [] (S, I, J, R, c) Q := by
  unfold f_X14_byteAt at k
  refine b_X14_byteAt_0 hL (fun c0 => ?_) (fun c0 => ?_)
  · rw [if_pos c0] at k
    refine b_X14_byteAt_17  ?_
    exact b_X14_byteAt_18  k
  · rw [if_neg c0] at k
    refine b_X14_byteAt_8 hL (hb13_1 c0) ?_
    exact b_X14_byteAt_18  k
def f_X14_cell (x1 : Int32) (x2 : Int32) (x3 : Int32) : Int32 := (((x1 * 12) + x2) * 40) + x3
theorem s_X14_cell {xs : Nat → Int32} {L d : Nat} {S : Nat → Shp} {I : Nat → Nat → Int32} {J : Nat → Nat → Int64} {R : Nat → Nat → Nat} {c : Nat × Nat} {Q : Option (Option Value) → MH → Prop} {x1 : Int32} {x2 : Int32} {x3 : Int32}  (k : Q (some (some (.int (f_X14_cell x1 x2 x3)))) (S, I, J, R, c)) : X xs L d 148 0 [.ref 65, .int x1, .int x2, .int x3] [] (S, I, J, R, c) Q := by
  unfold f_X14_cell at k
  exact b_X14_cell_0  k
def f_X14_all (I : Nat → Nat → Int32) (q_65_13 : Nat) : Int32 := (if ¬ q_65_13 = 0 then (1 : Int32) <<< ((I q_65_13 8) &&& 31) else 0)
theorem s_X14_all {xs : Nat → Int32} {L d : Nat} {S : Nat → Shp} {I : Nat → Nat → Int32} {J : Nat → Nat → Int64} {R : Nat → Nat → Nat} {c : Nat × Nat} {Q : Option (Option Value) → MH → Prop}  {q_65_13 : Nat} (hL : Lay S R) (hq_65_13 : R 65 13 = q_65_13) (h_q_65_13 : LyCs S R q_65_13) (k : Q (some (some (.int (f_X14_all I q_65_13)))) (S, I, J, R, c)) : X xs L d 156 0 [.ref 65] [] (S, I, J, R, c) Q := by
  unfold f_X14_all at k
  refine b_X14_all_0 hL hq_65_13 (fun c0 => ?_) (fun c0 => ?_)
  · rw [if_pos c0] at k
    refine b_X14_all_11 hL hq_65_13 h_q_65_13 ?_
    exact b_X14_all_20  k
  · rw [if_neg c0] at k
    refine b_X14_all_7  ?_
    exact b_X14_all_20  k
