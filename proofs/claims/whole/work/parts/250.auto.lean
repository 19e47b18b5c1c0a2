/-! ===== P2: methods without loops that write nothing (by wip/whole/gen/auto.py) ===== -/
def f_J13_bitCount_95d88 (y0 : Int64) : Int32 := (((((((((y0 - (((y0.toUInt64 >>> ((1 : Int32).toInt64.toUInt64 &&& Int64.toUInt64 63)).toInt64) &&& 6148914691236517205)) &&& 3689348814741910323) + ((((y0 - (((y0.toUInt64 >>> ((1 : Int32).toInt64.toUInt64 &&& Int64.toUInt64 63)).toInt64) &&& 6148914691236517205)).toUInt64 >>> ((2 : Int32).toInt64.toUInt64 &&& Int64.toUInt64 63)).toInt64) &&& 3689348814741910323)) + (((((y0 - (((y0.toUInt64 >>> ((1 : Int32).toInt64.toUInt64 &&& Int64.toUInt64 63)).toInt64) &&& 6148914691236517205)) &&& 3689348814741910323) + ((((y0 - (((y0.toUInt64 >>> ((1 : Int32).toInt64.toUInt64 &&& Int64.toUInt64 63)).toInt64) &&& 6148914691236517205)).toUInt64 >>> ((2 : Int32).toInt64.toUInt64 &&& Int64.toUInt64 63)).toInt64) &&& 3689348814741910323)).toUInt64 >>> ((4 : Int32).toInt64.toUInt64 &&& Int64.toUInt64 63)).toInt64)) &&& 1085102592571150095) + (((((((y0 - (((y0.toUInt64 >>> ((1 : Int32).toInt64.toUInt64 &&& Int64.toUInt64 63)).toInt64) &&& 6148914691236517205)) &&& 3689348814741910323) + ((((y0 - (((y0.toUInt64 >>> ((1 : Int32).toInt64.toUInt64 &&& Int64.toUInt64 63)).toInt64) &&& 6148914691236517205)).toUInt64 >>> ((2 : Int32).toInt64.toUInt64 &&& Int64.toUInt64 63)).toInt64) &&& 3689348814741910323)) + (((((y0 - (((y0.toUInt64 >>> ((1 : Int32).toInt64.toUInt64 &&& Int64.toUInt64 63)).toInt64) &&& 6148914691236517205)) &&& 3689348814741910323) + ((((y0 - (((y0.toUInt64 >>> ((1 : Int32).toInt64.toUInt64 &&& Int64.toUInt64 63)).toInt64) &&& 6148914691236517205)).toUInt64 >>> ((2 : Int32).toInt64.toUInt64 &&& Int64.toUInt64 63)).toInt64) &&& 3689348814741910323)).toUInt64 >>> ((4 : Int32).toInt64.toUInt64 &&& Int64.toUInt64 63)).toInt64)) &&& 1085102592571150095).toUInt64 >>> ((8 : Int32).toInt64.toUInt64 &&& Int64.toUInt64 63)).toInt64)) + ((((((((y0 - (((y0.toUInt64 >>> ((1 : Int32).toInt64.toUInt64 &&& Int64.toUInt64 63)).toInt64) &&& 6148914691236517205)) &&& 3689348814741910323) + ((((y0 - (((y0.toUInt64 >>> ((1 : Int32).toInt64.toUInt64 &&& Int64.toUInt64 63)).toInt64) &&& 6148914691236517205)).toUInt64 >>> ((2 : Int32).toInt64.toUInt64 &&& Int64.toUInt64 63)).toInt64) &&& 3689348814741910323)) + (((((y0 - (((y0.toUInt64 >>> ((1 : Int32).toInt64.toUInt64 &&& Int64.toUInt64 63)).toInt64) &&& 6148914691236517205)) &&& 3689348814741910323) + ((((y0 - (((y0.toUInt64 >>> ((1 : Int32).toInt64.toUInt64 &&& Int64.toUInt64 63)).toInt64) &&& 6148914691236517205)).toUInt64 >>> ((2 : Int32).toInt64.toUInt64 &&& Int64.toUInt64 63)).toInt64) &&& 3689348814741910323)).toUInt64 >>> ((4 : Int32).toInt64.toUInt64 &&& Int64.toUInt64 63)).toInt64)) &&& 1085102592571150095) + (((((((y0 - (((y0.toUInt64 >>> ((1 : Int32).toInt64.toUInt64 &&& Int64.toUInt64 63)).toInt64) &&& 6148914691236517205)) &&& 3689348814741910323) + ((((y0 - (((y0.toUInt64 >>> ((1 : Int32).toInt64.toUInt64 &&& Int64.toUInt64 63)).toInt64) &&& 6148914691236517205)).toUInt64 >>> ((2 : Int32).toInt64.toUInt64 &&& Int64.toUInt64 63)).toInt64) &&& 3689348814741910323)) + (((((y0 - (((y0.toUInt64 >>> ((1 : Int32).toInt64.toUInt64 &&& Int64.toUInt64 63)).toInt64) &&& 6148914691236517205)) &&& 3689348814741910323) + ((((y0 - (((y0.toUInt64 >>> ((1 : Int32).toInt64.toUInt64 &&& Int64.toUInt64 63)).toInt64) &&& 6148914691236517205)).toUInt64 >>> ((2 : Int32).toInt64.toUInt64 &&& Int64.toUInt64 63)).toInt64) &&& 3689348814741910323)).toUInt64 >>> ((4 : Int32).toInt64.toUInt64 &&& Int64.toUInt64 63)).toInt64)) &&& 1085102592571150095).toUInt64 >>> ((8 : Int32).toInt64.toUInt64 &&& Int64.toUInt64 63)).toInt64)).toUInt64 >>> ((16 : Int32).toInt64.toUInt64 &&& Int64.toUInt64 63)).toInt64)) + (((((((((y0 - (((y0.toUInt64 >>> ((1 : Int32).toInt64.toUInt64 &&& Int64.toUInt64 63)).toInt64) &&& 6148914691236517205)) &&& 3689348814741910323) + ((((y0 - (((y0.toUInt64 >>> ((1 : Int32).toInt64.toUInt64 &&& Int64.toUInt64 63)).toInt64) &&& 6148914691236517205)).toUInt64 >>> ((2 : Int32).toInt64.toUInt64 &&& Int64.toUInt64 63)).toInt64) &&& 3689348814741910323)) + (((((y0 - (((y0.toUInt64 >>> ((1 : Int32).toInt64.toUInt64 &&& Int64.toUInt64 63)).toInt64) &&& 6148914691236517205)) &&& 3689348814741910323) + ((((y0 - (((y0.toUInt64 >>> ((1 : Int32).toInt64.toUInt64 &&& Int64.toUInt64 63)).toInt64) &&& 6148914691236517205)).toUInt64 >>> ((2 : Int32).toInt64.toUInt64 &&& Int64.toUInt64 63)).toInt64) &&& 3689348814741910323)).toUInt64 >>> ((4 : Int32).toInt64.toUInt64 &&& Int64.toUInt64 63)).toInt64)) &&& 1085102592571150095) + (((((((y0 - (((y0.toUInt64 >>> ((1 : Int32).toInt64.toUInt64 &&& Int64.toUInt64 63)).toInt64) &&& 6148914691236517205)) &&& 3689348814741910323) + ((((y0 - (((y0.toUInt64 >>> ((1 : Int32).toInt64.toUInt64 &&& Int64.toUInt64 63)).toInt64) &&& 6148914691236517205)).toUInt64 >>> ((2 : Int32).toInt64.toUInt64 &&& Int64.toUInt64 63)).toInt64) &&& 3689348814741910323)) + (((((y0 - (((y0.toUInt64 >>> ((1 : Int32).toInt64.toUInt64 &&& Int64.toUInt64 63)).toInt64) &&& 6148914691236517205)) &&& 3689348814741910323) + ((((y0 - (((y0.toUInt64 >>> ((1 : Int32).toInt64.toUInt64 &&& Int64.toUInt64 63)).toInt64) &&& 6148914691236517205)).toUInt64 >>> ((2 : Int32).toInt64.toUInt64 &&& Int64.toUInt64 63)).toInt64) &&& 3689348814741910323)).toUInt64 >>> ((4 : Int32).toInt64.toUInt64 &&& Int64.toUInt64 63)).toInt64)) &&& 1085102592571150095).toUInt64 >>> ((8 : Int32).toInt64.toUInt64 &&& Int64.toUInt64 63)).toInt64)) + ((((((((y0 - (((y0.toUInt64 >>> ((1 : Int32).toInt64.toUInt64 &&& Int64.toUInt64 63)).toInt64) &&& 6148914691236517205)) &&& 3689348814741910323) + ((((y0 - (((y0.toUInt64 >>> ((1 : Int32).toInt64.toUInt64 &&& Int64.toUInt64 63)).toInt64) &&& 6148914691236517205)).toUInt64 >>> ((2 : Int32).toInt64.toUInt64 &&& Int64.toUInt64 63)).toInt64) &&& 3689348814741910323)) + (((((y0 - (((y0.toUInt64 >>> ((1 : Int32).toInt64.toUInt64 &&& Int64.toUInt64 63)).toInt64) &&& 6148914691236517205)) &&& 3689348814741910323) + ((((y0 - (((y0.toUInt64 >>> ((1 : Int32).toInt64.toUInt64 &&& Int64.toUInt64 63)).toInt64) &&& 6148914691236517205)).toUInt64 >>> ((2 : Int32).toInt64.toUInt64 &&& Int64.toUInt64 63)).toInt64) &&& 3689348814741910323)).toUInt64 >>> ((4 : Int32).toInt64.toUInt64 &&& Int64.toUInt64 63)).toInt64)) &&& 1085102592571150095) + (((((((y0 - (((y0.toUInt64 >>> ((1 : Int32).toInt64.toUInt64 &&& Int64.toUInt64 63)).toInt64) &&& 6148914691236517205)) &&& 3689348814741910323) + ((((y0 - (((y0.toUInt64 >>> ((1 : Int32).toInt64.toUInt64 &&& Int64.toUInt64 63)).toInt64) &&& 6148914691236517205)).toUInt64 >>> ((2 : Int32).toInt64.toUInt64 &&& Int64.toUInt64 63)).toInt64) &&& 3689348814741910323)) + (((((y0 - (((y0.toUInt64 >>> ((1 : Int32).toInt64.toUInt64 &&& Int64.toUInt64 63)).toInt64) &&& 6148914691236517205)) &&& 3689348814741910323) + ((((y0 - (((y0.toUInt64 >>> ((1 : Int32).toInt64.toUInt64 &&& Int64.toUInt64 63)).toInt64) &&& 6148914691236517205)).toUInt64 >>> ((2 : Int32).toInt64.toUInt64 &&& Int64.toUInt64 63)).toInt64) &&& 3689348814741910323)).toUInt64 >>> ((4 : Int32).toInt64.toUInt64 &&& Int64.toUInt64 63)).toInt64)) &&& 1085102592571150095).toUInt64 >>> ((8 : Int32).toInt64.toUInt64 &&& Int64.toUInt64 63)).toInt64)).toUInt64 >>> ((16 : Int32).toInt64.toUInt64 &&& Int64.toUInt64 63)).toInt64)).toUInt64 >>> ((32 : Int32).toInt64.toUInt64 &&& Int64.toUInt64 63)).toInt64)).toInt32) &&& 127
theorem s_J13_bitCount_95d88 {xs : Nat → Int32} {L d : Nat} {S : Nat → Shp} {I : Nat → Nat → Int32} {J : Nat → Nat → Int64} {R : Nat → Nat → Nat} {c : Nat × Nat} {Q : Option (Option Value) → MH → Prop} {y0 : Int64}  (k : Q (some (some (.int (f_J13_bitCount_95d88 y0)))) (S, I, J, R, c)) : X xs L d 167 0 [.long y0, .null] [] (S, I, J, R, c) Q := by
  unfold f_J13_bitCount_95d88 at k
  exact b_J13_bitCount_95d88_0  k
def f_X8_byteAt (I : Nat → Nat → Int32) (x1 : Int32) : Int32 := (I 3 x1.toNatClampNeg) &&& 255
theorem s_X8_byteAt {xs : Nat → Int32} {L d : Nat} {S : Nat → Shp} {I : Nat → Nat → Int32} {J : Nat → Nat → Int64} {R : Nat → Nat → Nat} {c : Nat × Nat} {Q : Option (Option Value) → MH → Prop} {x1 : Int32} (hL : Lay S R) (hb5_1 : inb x1 2000 = true) (k : Q (some (some (.int (f_X8_byteAt I x1)))) (S, I, J, R, c)) : X xs L d 81 0 [.ref 2, .int x1] [] (S, I, J, R, c) Q := by
  unfold f_X8_byteAt at k
  exact b_X8_byteAt_0 hL hb5_1 k
def f_X9_isSmall (x0 : Int32) : Int32 := (if x0 < 97 then 0 else (if 122 < x0 then 0 else 1))
theorem s_X9_isSmall {xs : Nat → Int32} {L d : Nat} {S : Nat → Shp} {I : Nat → Nat → Int32} {J : Nat → Nat → Int64} {R : Nat → Nat → Nat} {c : Nat × Nat} {Q : Option (Option Value) → MH → Prop} {x0 : Int32}  (k : Q (some (some (.int (f_X9_isSmall x0)))) (S, I, J, R, c)) : X xs L d 90 0 [.int x0] [] (S, I, J, R, c) Q := by
  unfold f_X9_isSmall at k
  refine b_X9_isSmall_0  (fun c0 => ?_) (fun c0 => ?_)
  · rw [if_pos c0] at k
    refine b_X9_isSmall_16  ?_
    exact b_X9_isSmall_17 (by decide) k
  · rw [if_neg c0] at k
    refine b_X9_isSmall_6  (fun c1 => ?_) (fun c1 => ?_)
    · rw [if_pos c1] at k
      refine b_X9_isSmall_16  ?_
      exact b_X9_isSmall_17 (by decide) k
    · rw [if_neg c1] at k
      refine b_X9_isSmall_12  ?_
      exact b_X9_isSmall_17 (by decide) k
def f_X9_isCapital (x0 : Int32) : Int32 := (if x0 < 65 then 0 else (if 90 < x0 then 0 else 1))
theorem s_X9_isCapital {xs : Nat → Int32} {L d : Nat} {S : Nat → Shp} {I : Nat → Nat → Int32} {J : Nat → Nat → Int64} {R : Nat → Nat → Nat} {c : Nat × Nat} {Q : Option (Option Value) → MH → Prop} {x0 : Int32}  (k : Q (some (some (.int (f_X9_isCapital x0)))) (S, I, J, R, c)) : X xs L d 91 0 [.int x0] [] (S, I, J, R, c) Q := by
  unfold f_X9_isCapital at k
  refine b_X9_isCapital_0  (fun c0 => ?_) (fun c0 => ?_)
  · rw [if_pos c0] at k
    refine b_X9_isCapital_16  ?_
    exact b_X9_isCapital_17 (by decide) k
  · rw [if_neg c0] at k
    refine b_X9_isCapital_6  (fun c1 => ?_) (fun c1 => ?_)
    · rw [if_pos c1] at k
      refine b_X9_isCapital_16  ?_
      exact b_X9_isCapital_17 (by decide) k
    · rw [if_neg c1] at k
      refine b_X9_isCapital_12  ?_
      exact b_X9_isCapital_17 (by decide) k
def f_X9_isDigit (x0 : Int32) : Int32 := (if x0 < 48 then 0 else (if 57 < x0 then 0 else 1))
theorem s_X9_isDigit {xs : Nat → Int32} {L d : Nat} {S : Nat → Shp} {I : Nat → Nat → Int32} {J : Nat → Nat → Int64} {R : Nat → Nat → Nat} {c : Nat × Nat} {Q : Option (Option Value) → MH → Prop} {x0 : Int32}  (k : Q (some (some (.int (f_X9_isDigit x0)))) (S, I, J, R, c)) : X xs L d 92 0 [.int x0] [] (S, I, J, R, c) Q := by
  unfold f_X9_isDigit at k
  refine b_X9_isDigit_0  (fun c0 => ?_) (fun c0 => ?_)
  · rw [if_pos c0] at k
    refine b_X9_isDigit_16  ?_
    exact b_X9_isDigit_17 (by decide) k
  · rw [if_neg c0] at k
    refine b_X9_isDigit_6  (fun c1 => ?_) (fun c1 => ?_)
    · rw [if_pos c1] at k
      refine b_X9_isDigit_16  ?_
      exact b_X9_isDigit_17 (by decide) k
    · rw [if_neg c1] at k
      refine b_X9_isDigit_12  ?_
      exact b_X9_isDigit_17 (by decide) k
def f_X9_goesOn (x0 : Int32) (x1 : Int32) : Int32 := (if ¬ x0 = 2 then (if ¬ x0 = 4 then (if ¬ x0 = 5 then 0 else (if (f_X9_isDigit x1) = 0 then 0 else 1)) else (if ¬ (f_X9_isCapital x1) = 0 then 1 else (if (f_X9_isDigit x1) = 0 then 0 else 1))) else (if ¬ (f_X9_isSmall x1) = 0 then 1 else (if ¬ (f_X9_isDigit x1) = 0 then 1 else (if ¬ x1 = 95 then 0 else 1))))
theorem s_X9_goesOn {xs : Nat → Int32} {L d : Nat} {S : Nat → Shp} {I : Nat → Nat → Int32} {J : Nat → Nat → Int64} {R : Nat → Nat → Nat} {c : Nat × Nat} {Q : Option (Option Value) → MH → Prop} {x0 : Int32} {x1 : Int32}  (k : Q (some (some (.int (f_X9_goesOn x0 x1)))) (S, I, J, R, c)) : X xs L (d + 1) 86 0 [.int x0, .int x1] [] (S, I, J, R, c) Q := by
  unfold f_X9_goesOn at k
  refine b_X9_goesOn_0  (fun c0 => ?_) (fun c0 => ?_)
  · rw [if_pos c0] at k
    refine b_X9_goesOn_31  (fun c1 => ?_) (fun c1 => ?_)
    · rw [if_pos c1] at k
      refine b_X9_goesOn_56  (fun c2 => ?_) (fun c2 => ?_)
      · rw [if_pos c2] at k
        refine b_X9_goesOn_72  ?_
        exact b_X9_goesOn_73 (by decide) k
      · rw [if_neg c2] at k
        refine b_X9_goesOn_61  (s_X9_isDigit  ?_)
        refine b_X9_goesOn_65  (fun c3 => ?_) (fun c3 => ?_)
        · rw [if_pos c3] at k
          refine b_X9_goesOn_72  ?_
          exact b_X9_goesOn_73 (by decide) k
        · rw [if_neg c3] at k
          refine b_X9_goesOn_68  ?_
          exact b_X9_goesOn_73 (by decide) k
    · rw [if_neg c1] at k
      refine b_X9_goesOn_36  (s_X9_isCapital  ?_)
      refine b_X9_goesOn_40  (fun c2 => ?_) (fun c2 => ?_)
      · rw [if_pos c2] at k
        refine b_X9_goesOn_50  ?_
        exact b_X9_goesOn_55 (by decide) k
      · rw [if_neg c2] at k
        refine b_X9_goesOn_43  (s_X9_isDigit  ?_)
        refine b_X9_goesOn_47  (fun c3 => ?_) (fun c3 => ?_)
        · rw [if_pos c3] at k
          refine b_X9_goesOn_54  ?_
          exact b_X9_goesOn_55 (by decide) k
        · rw [if_neg c3] at k
          refine b_X9_goesOn_50  ?_
          exact b_X9_goesOn_55 (by decide) k
  · rw [if_neg c0] at k
    refine b_X9_goesOn_5  (s_X9_isSmall  ?_)
    refine b_X9_goesOn_9  (fun c1 => ?_) (fun c1 => ?_)
    · rw [if_pos c1] at k
      refine b_X9_goesOn_25  ?_
      exact b_X9_goesOn_30 (by decide) k
    · rw [if_neg c1] at k
      refine b_X9_goesOn_12  (s_X9_isDigit  ?_)
      refine b_X9_goesOn_16  (fun c2 => ?_) (fun c2 => ?_)
      · rw [if_pos c2] at k
        refine b_X9_goesOn_25  ?_
        exact b_X9_goesOn_30 (by decide) k
      · rw [if_neg c2] at k
        refine b_X9_goesOn_19  (fun c3 => ?_) (fun c3 => ?_)
        · rw [if_pos c3] at k
          refine b_X9_goesOn_29  ?_
          exact b_X9_goesOn_30 (by decide) k
        · rw [if_neg c3] at k
          refine b_X9_goesOn_25  ?_
          exact b_X9_goesOn_30 (by decide) k
def f_X9_longest (x0 : Int32) : Int32 := (if ¬ x0 = 2 then (if ¬ x0 = 4 then (if ¬ x0 = 5 then 1 else 4) else 4) else 8)
theorem s_X9_longest {xs : Nat → Int32} {L d : Nat} {S : Nat → Shp} {I : Nat → Nat → Int32} {J : Nat → Nat → Int64} {R : Nat → Nat → Nat} {c : Nat × Nat} {Q : Option (Option Value) → MH → Prop} {x0 : Int32}  (k : Q (some (some (.int (f_X9_longest x0)))) (S, I, J, R, c)) : X xs L d 88 0 [.int x0] [] (S, I, J, R, c) Q := by
  unfold f_X9_longest at k
  refine b_X9_longest_0  (fun c0 => ?_) (fun c0 => ?_)
  · rw [if_pos c0] at k
    refine b_X9_longest_8  (fun c1 => ?_) (fun c1 => ?_)
    · rw [if_pos c1] at k
      refine b_X9_longest_15  (fun c2 => ?_) (fun c2 => ?_)
      · rw [if_pos c2] at k
        refine b_X9_longest_24  ?_
        exact b_X9_longest_25  k
      · rw [if_neg c2] at k
        refine b_X9_longest_20  ?_
        exact b_X9_longest_25  k
    · rw [if_neg c1] at k
      exact b_X9_longest_13  k
  · rw [if_neg c0] at k
    exact b_X9_longest_5  k
def f_X9_isReserved (y0 : Int64) : Int32 := (if (lg_cmp y0 452824429940) = 0 then 1 else (if (lg_cmp y0 2003399269) = 0 then 1 else (if (lg_cmp y0 465491485544) = 0 then 1 else (if (lg_cmp y0 444150998382) = 0 then 1 else (if (lg_cmp y0 1952998766) = 0 then 1 else (if (lg_cmp y0 26995) = 0 then 1 else (if (lg_cmp y0 26982) = 0 then 1 else (if (lg_cmp y0 24948) = 0 then 1 else (if ¬ (lg_cmp y0 29807) = 0 then 0 else 1)))))))))
theorem s_X9_isReserved {xs : Nat → Int32} {L d : Nat} {S : Nat → Shp} {I : Nat → Nat → Int32} {J : Nat → Nat → Int64} {R : Nat → Nat → Nat} {c : Nat × Nat} {Q : Option (Option Value) → MH → Prop} {y0 : Int64}  (k : Q (some (some (.int (f_X9_isReserved y0)))) (S, I, J, R, c)) : X xs L d 89 0 [.long y0, .null] [] (S, I, J, R, c) Q := by
  unfold f_X9_isReserved at k
  refine b_X9_isReserved_0  (fun c0 => ?_) (fun c0 => ?_)
  · rw [if_pos c0] at k
    refine b_X9_isReserved_72  ?_
    exact b_X9_isReserved_77 (by decide) k
  · rw [if_neg c0] at k
    refine b_X9_isReserved_8  (fun c1 => ?_) (fun c1 => ?_)
    · rw [if_pos c1] at k
      refine b_X9_isReserved_72  ?_
      exact b_X9_isReserved_77 (by decide) k
    · rw [if_neg c1] at k
      refine b_X9_isReserved_16  (fun c2 => ?_) (fun c2 => ?_)
      · rw [if_pos c2] at k
        refine b_X9_isReserved_72  ?_
        exact b_X9_isReserved_77 (by decide) k
      · rw [if_neg c2] at k
        refine b_X9_isReserved_24  (fun c3 => ?_) (fun c3 => ?_)
        · rw [if_pos c3] at k
          refine b_X9_isReserved_72  ?_
          exact b_X9_isReserved_77 (by decide) k
        · rw [if_neg c3] at k
          refine b_X9_isReserved_32  (fun c4 => ?_) (fun c4 => ?_)
          · rw [if_pos c4] at k
            refine b_X9_isReserved_72  ?_
            exact b_X9_isReserved_77 (by decide) k
          · rw [if_neg c4] at k
            refine b_X9_isReserved_40  (fun c5 => ?_) (fun c5 => ?_)
            · rw [if_pos c5] at k
              refine b_X9_isReserved_72  ?_
              exact b_X9_isReserved_77 (by decide) k
            · rw [if_neg c5] at k
              refine b_X9_isReserved_48  (fun c6 => ?_) (fun c6 => ?_)
              · rw [if_pos c6] at k
                refine b_X9_isReserved_72  ?_
                exact b_X9_isReserved_77 (by decide) k
              · rw [if_neg c6] at k
                refine b_X9_isReserved_56  (fun c7 => ?_) (fun c7 => ?_)
                · rw [if_pos c7] at k
                  refine b_X9_isReserved_72  ?_
                  exact b_X9_isReserved_77 (by decide) k
                · rw [if_neg c7] at k
                  refine b_X9_isReserved_64  (fun c8 => ?_) (fun c8 => ?_)
                  · rw [if_pos c8] at k
                    refine b_X9_isReserved_76  ?_
                    exact b_X9_isReserved_77 (by decide) k
                  · rw [if_neg c8] at k
                    refine b_X9_isReserved_72  ?_
                    exact b_X9_isReserved_77 (by decide) k
def f_X9_kind (I : Nat → Nat → Int32) : Int32 := I 5 (I 4 5).toNatClampNeg
theorem s_X9_kind {xs : Nat → Int32} {L d : Nat} {S : Nat → Shp} {I : Nat → Nat → Int32} {J : Nat → Nat → Int64} {R : Nat → Nat → Nat} {c : Nat × Nat} {Q : Option (Option Value) → MH → Prop}  (hL : Lay S R) (hb8_1 : inb (I 4 5) 2001 = true) (k : Q (some (some (.int (f_X9_kind I)))) (S, I, J, R, c)) : X xs L d 93 0 [.ref 4] [] (S, I, J, R, c) Q := by
  unfold f_X9_kind at k
  exact b_X9_kind_0 hL hb8_1 k
def f_X9_place (I : Nat → Nat → Int32) : Int32 := I 6 (I 4 5).toNatClampNeg
theorem s_X9_place {xs : Nat → Int32} {L d : Nat} {S : Nat → Shp} {I : Nat → Nat → Int32} {J : Nat → Nat → Int64} {R : Nat → Nat → Nat} {c : Nat × Nat} {Q : Option (Option Value) → MH → Prop}  (hL : Lay S R) (hb8_1 : inb (I 4 5) 2001 = true) (k : Q (some (some (.int (f_X9_place I)))) (S, I, J, R, c)) : X xs L d 94 0 [.ref 4] [] (S, I, J, R, c) Q := by
  unfold f_X9_place at k
  exact b_X9_place_0 hL hb8_1 k
def f_X9_key (I : Nat → Nat → Int32) (J : Nat → Nat → Int64) : Int64 := J 7 (I 4 5).toNatClampNeg
theorem s_X9_key {xs : Nat → Int32} {L d : Nat} {S : Nat → Shp} {I : Nat → Nat → Int32} {J : Nat → Nat → Int64} {R : Nat → Nat → Nat} {c : Nat × Nat} {Q : Option (Option Value) → MH → Prop}  (hL : Lay S R) (hb8_1 : inb (I 4 5) 2001 = true) (k : Q (some (some (.long (f_X9_key I J)))) (S, I, J, R, c)) : X xs L d 95 0 [.ref 4] [] (S, I, J, R, c) Q := by
  unfold f_X9_key at k
  exact b_X9_key_0 hL hb8_1 k
def f_X9_index (I : Nat → Nat → Int32) : Int32 := I 4 5
theorem s_X9_index {xs : Nat → Int32} {L d : Nat} {S : Nat → Shp} {I : Nat → Nat → Int32} {J : Nat → Nat → Int64} {R : Nat → Nat → Nat} {c : Nat × Nat} {Q : Option (Option Value) → MH → Prop}  (hL : Lay S R) (k : Q (some (some (.int (f_X9_index I)))) (S, I, J, R, c)) : X xs L d 96 0 [.ref 4] [] (S, I, J, R, c) Q := by
  unfold f_X9_index at k
  exact b_X9_index_0 hL k
def f_X9_placeAt (I : Nat → Nat → Int32) (x1 : Int32) : Int32 := I 6 x1.toNatClampNeg
theorem s_X9_placeAt {xs : Nat → Int32} {L d : Nat} {S : Nat → Shp} {I : Nat → Nat → Int32} {J : Nat → Nat → Int64} {R : Nat → Nat → Nat} {c : Nat × Nat} {Q : Option (Option Value) → MH → Prop} {x1 : Int32} (hL : Lay S R) (hb5_1 : inb x1 2001 = true) (k : Q (some (some (.int (f_X9_placeAt I x1)))) (S, I, J, R, c)) : X xs L d 97 0 [.ref 4, .int x1] [] (S, I, J, R, c) Q := by
  unfold f_X9_placeAt at k
  exact b_X9_placeAt_0 hL hb5_1 k
def f_X9_keyAt (J : Nat → Nat → Int64) (x1 : Int32) : Int64 := J 7 x1.toNatClampNeg
theorem s_X9_keyAt {xs : Nat → Int32} {L d : Nat} {S : Nat → Shp} {I : Nat → Nat → Int32} {J : Nat → Nat → Int64} {R : Nat → Nat → Nat} {c : Nat × Nat} {Q : Option (Option Value) → MH → Prop} {x1 : Int32} (hL : Lay S R) (hb5_1 : inb x1 2001 = true) (k : Q (some (some (.long (f_X9_keyAt J x1)))) (S, I, J, R, c)) : X xs L d 98 0 [.ref 4, .int x1] [] (S, I, J, R, c) Q := by
  unfold f_X9_keyAt at k
  exact b_X9_keyAt_0 hL hb5_1 k
def f_X5_at (I : Nat → Nat → Int32) (r0 : Nat) (x1 : Int32) : Int32 := I (r0 + 1) x1.toNatClampNeg
theorem s_X5_at {xs : Nat → Int32} {L d : Nat} {S : Nat → Shp} {I : Nat → Nat → Int32} {J : Nat → Nat → Int64} {R : Nat → Nat → Nat} {c : Nat × Nat} {Q : Option (Option Value) → MH → Prop} {r0 : Nat} {x1 : Int32} (h_r0 : LyCd S R r0) (hb5_1 : inb x1 2000 = true) (k : Q (some (some (.int (f_X5_at I r0 x1)))) (S, I, J, R, c)) : X xs L d 58 0 [.ref r0, .int x1] [] (S, I, J, R, c) Q := by
  unfold f_X5_at at k
  exact b_X5_at_0 h_r0 hb5_1 k
def f_X7_ones (I : Nat → Nat → Int32) (J : Nat → Nat → Int64) : Int64 := (if (I 14 2) ≤ 0 then 0 else J 15 ((I 14 2) - 1).toNatClampNeg)
theorem s_X7_ones {xs : Nat → Int32} {L d : Nat} {S : Nat → Shp} {I : Nat → Nat → Int32} {J : Nat → Nat → Int64} {R : Nat → Nat → Nat} {c : Nat × Nat} {Q : Option (Option Value) → MH → Prop}  (hL : Lay S R) (hb17_1 : ¬ ((I 14 2) ≤ 0) → inb ((I 14 2) - 1) 64 = true) (k : Q (some (some (.long (f_X7_ones I J)))) (S, I, J, R, c)) : X xs L d 73 0 [.ref 14] [] (S, I, J, R, c) Q := by
  unfold f_X7_ones at k
  refine b_X7_ones_0 hL (fun c0 => ?_) (fun c0 => ?_)
  · rw [if_pos c0] at k
    refine b_X7_ones_21  ?_
    exact b_X7_ones_22  k
  · rw [if_neg c0] at k
    refine b_X7_ones_7 hL (hb17_1 c0) ?_
    exact b_X7_ones_22  k
def f_X7_zeros (I : Nat → Nat → Int32) (J : Nat → Nat → Int64) : Int64 := (if (I 14 2) ≤ 0 then 0 else J 16 ((I 14 2) - 1).toNatClampNeg)
theorem s_X7_zeros {xs : Nat → Int32} {L d : Nat} {S : Nat → Shp} {I : Nat → Nat → Int32} {J : Nat → Nat → Int64} {R : Nat → Nat → Nat} {c : Nat × Nat} {Q : Option (Option Value) → MH → Prop}  (hL : Lay S R) (hb17_1 : ¬ ((I 14 2) ≤ 0) → inb ((I 14 2) - 1) 64 = true) (k : Q (some (some (.long (f_X7_zeros I J)))) (S, I, J, R, c)) : X xs L d 74 0 [.ref 14] [] (S, I, J, R, c) Q := by
  unfold f_X7_zeros at k
  refine b_X7_zeros_0 hL (fun c0 => ?_) (fun c0 => ?_)
  · rw [if_pos c0] at k
    refine b_X7_zeros_21  ?_
    exact b_X7_zeros_22  k
  · rw [if_neg c0] at k
    refine b_X7_zeros_7 hL (hb17_1 c0) ?_
    exact b_X7_zeros_22  k
def f_X1_hasNode (I : Nat → Nat → Int32) (r0 : Nat) (x1 : Int32) : Int32 := (if x1 < 0 then 0 else (if (I r0 0) ≤ x1 then 0 else 1))
theorem s_X1_hasNode {xs : Nat → Int32} {L d : Nat} {S : Nat → Shp} {I : Nat → Nat → Int32} {J : Nat → Nat → Int64} {R : Nat → Nat → Nat} {c : Nat × Nat} {Q : Option (Option Value) → MH → Prop} {r0 : Nat} {x1 : Int32} (h_r0 : LyCi S R r0) (k : Q (some (some (.int (f_X1_hasNode I r0 x1)))) (S, I, J, R, c)) : X xs L d 27 0 [.ref r0, .int x1] [] (S, I, J, R, c) Q := by
  unfold f_X1_hasNode at k
  refine b_X1_hasNode_0  (fun c0 => ?_) (fun c0 => ?_)
  · rw [if_pos c0] at k
    refine b_X1_hasNode_16  ?_
    exact b_X1_hasNode_17 (by decide) k
  · rw [if_neg c0] at k
    refine b_X1_hasNode_4 h_r0 (fun c1 => ?_) (fun c1 => ?_)
    · rw [if_pos c1] at k
      refine b_X1_hasNode_16  ?_
      exact b_X1_hasNode_17 (by decide) k
    · rw [if_neg c1] at k
      refine b_X1_hasNode_12  ?_
      exact b_X1_hasNode_17 (by decide) k
def f_X1_rankOf (I : Nat → Nat → Int32) (J : Nat → Nat → Int64) (r0 : Nat) (x1 : Int32) : Int32 := (if ¬ (I (r0 + 2) x1.toNatClampNeg) = 1 then 0 else (1 : Int32) + (f_J13_bitCount_95d88 (J (r0 + 8) x1.toNatClampNeg)))
theorem s_X1_rankOf {xs : Nat → Int32} {L d : Nat} {S : Nat → Shp} {I : Nat → Nat → Int32} {J : Nat → Nat → Int64} {R : Nat → Nat → Nat} {c : Nat × Nat} {Q : Option (Option Value) → MH → Prop} {r0 : Nat} {x1 : Int32} (h_r0 : LyCi S R r0) (hb5_1 : inb x1 40 = true) (hb16_2 : ¬ (¬ (I (r0 + 2) x1.toNatClampNeg) = 1) → inb x1 40 = true) (k : Q (some (some (.int (f_X1_rankOf I J r0 x1)))) (S, I, J, R, c)) : X xs L (d + 1) 36 0 [.ref r0, .int x1] [] (S, I, J, R, c) Q := by
  unfold f_X1_rankOf at k
  refine b_X1_rankOf_0 h_r0 hb5_1 (fun c0 => ?_) (fun c0 => ?_)
  · rw [if_pos c0] at k
    refine b_X1_rankOf_24  ?_
    exact b_X1_rankOf_25  k
  · rw [if_neg c0] at k
    refine b_X1_rankOf_10 h_r0 (hb16_2 c0) (s_J13_bitCount_95d88  ?_)
    refine b_X1_rankOf_20  ?_
    exact b_X1_rankOf_25  k
def f_X0_clauseRow (x0 : Int32) (x1 : Int32) : Int32 := (x0 * 48) + x1
theorem s_X0_clauseRow {xs : Nat → Int32} {L d : Nat} {S : Nat → Shp} {I : Nat → Nat → Int32} {J : Nat → Nat → Int64} {R : Nat → Nat → Nat} {c : Nat × Nat} {Q : Option (Option Value) → MH → Prop} {x0 : Int32} {x1 : Int32}  (k : Q (some (some (.int (f_X0_clauseRow x0 x1)))) (S, I, J, R, c)) : X xs L d 2 0 [.int x0, .int x1] [] (S, I, J, R, c) Q := by
  unfold f_X0_clauseRow at k
  exact b_X0_clauseRow_0  k
def f_X0_row (x0 : Int32) (x1 : Int32) : Int32 := ((x0 * 12) + x1) * 40
theorem s_X0_row {xs : Nat → Int32} {L d : Nat} {S : Nat → Shp} {I : Nat → Nat → Int32} {J : Nat → Nat → Int64} {R : Nat → Nat → Nat} {c : Nat × Nat} {Q : Option (Option Value) → MH → Prop} {x0 : Int32} {x1 : Int32}  (k : Q (some (some (.int (f_X0_row x0 x1)))) (S, I, J, R, c)) : X xs L d 3 0 [.int x0, .int x1] [] (S, I, J, R, c) Q := by
  unfold f_X0_row at k
  exact b_X0_row_0  k
def f_X0_lanesWith (x0 : Int32) (x1 : Int32) : Int64 := (if 6 ≤ x0 then (if ¬ ((x1 >>> ((x0 - 6) &&& 31)) &&& 1) = 1 then 0 else (-1)) else (jTab 1).getD x0.toNatClampNeg 0)
theorem s_X0_lanesWith {xs : Nat → Int32} {L d : Nat} {S : Nat → Shp} {I : Nat → Nat → Int32} {J : Nat → Nat → Int64} {R : Nat → Nat → Nat} {c : Nat × Nat} {Q : Option (Option Value) → MH → Prop} {x0 : Int32} {x1 : Int32} (hb10_0 : ¬ (6 ≤ x0) → inb x0 (jTab 1).length = true) (k : Q (some (some (.long (f_X0_lanesWith x0 x1)))) (S, I, J, R, c)) : X xs L d 4 0 [.int x0, .int x1] [] (S, I, J, R, c) Q := by
  unfold f_X0_lanesWith at k
  refine b_X0_lanesWith_0  (fun c0 => ?_) (fun c0 => ?_)
  · rw [if_pos c0] at k
    refine b_X0_lanesWith_12  (fun c1 => ?_) (fun c1 => ?_)
    · rw [if_pos c1] at k
      refine b_X0_lanesWith_30  ?_
      exact b_X0_lanesWith_31  k
    · rw [if_neg c1] at k
      refine b_X0_lanesWith_24  ?_
      exact b_X0_lanesWith_31  k
  · rw [if_neg c0] at k
    exact b_X0_lanesWith_6 (hb10_0 c0) k
def f_X0_bitOf (I : Nat → Nat → Int32) (q_13_1 : Nat) (x1 : Int32) : Int32 := ((I q_13_1 0) - 1) - x1
theorem s_X0_bitOf {xs : Nat → Int32} {L d : Nat} {S : Nat → Shp} {I : Nat → Nat → Int32} {J : Nat → Nat → Int64} {R : Nat → Nat → Nat} {c : Nat × Nat} {Q : Option (Option Value) → MH → Prop} {x1 : Int32} {q_13_1 : Nat} (hL : Lay S R) (hq_13_1 : R 13 1 = q_13_1) (h_q_13_1 : LyCm S R q_13_1) (k : Q (some (some (.int (f_X0_bitOf I q_13_1 x1)))) (S, I, J, R, c)) : X xs L d 5 0 [.ref 13, .int x1] [] (S, I, J, R, c) Q := by
  unfold f_X0_bitOf at k
  exact b_X0_bitOf_0 hL hq_13_1 h_q_13_1 k
def f_X0_wrongLanes (I : Nat → Nat → Int32) (J : Nat → Nat → Int64) (q_13_1 : Nat) (x1 : Int32) (x2 : Int32) (x3 : Int32) : Int64 := (J 20 (f_X0_clauseRow x3 x1).toNatClampNeg) &&& ((((J 19 (f_X0_clauseRow x3 x1).toNatClampNeg) &&& (J 21 ((f_X0_row x3 x2) + (I (q_13_1 + 2) x1.toNatClampNeg)).toNatClampNeg)) ||| (((J 19 (f_X0_clauseRow x3 x1).toNatClampNeg) ^^^ (-1)) &&& (J 22 ((f_X0_row x3 x2) + (I (q_13_1 + 2) x1.toNatClampNeg)).toNatClampNeg))) ^^^ (-1))
theorem s_X0_wrongLanes {xs : Nat → Int32} {L d : Nat} {S : Nat → Shp} {I : Nat → Nat → Int32} {J : Nat → Nat → Int64} {R : Nat → Nat → Nat} {c : Nat × Nat} {Q : Option (Option Value) → MH → Prop} {x1 : Int32} {x2 : Int32} {x3 : Int32} {q_13_1 : Nat} (hL : Lay S R) (hb9_1 : inb (f_X0_clauseRow x3 x1) 384 = true) (hq_13_1 : R 13 1 = q_13_1) (h_q_13_1 : LyCm S R q_13_1) (hb25_4 : inb x1 48 = true) (hb37_5 : inb ((f_X0_row x3 x2) + (I (q_13_1 + 2) x1.toNatClampNeg)) 3840 = true) (k : Q (some (some (.long (f_X0_wrongLanes I J q_13_1 x1 x2 x3)))) (S, I, J, R, c)) : X xs L (d + 1) 12 0 [.ref 13, .int x1, .int x2, .int x3, .null, .null, .null, .null, .null] [] (S, I, J, R, c) Q := by
  unfold f_X0_wrongLanes at k
  refine b_X0_wrongLanes_0 hL (s_X0_clauseRow  ?_)
  refine b_X0_wrongLanes_9 hL hb9_1 (s_X0_row  ?_)
  refine b_X0_wrongLanes_17 hL hq_13_1 h_q_13_1 hb25_4 hb37_5 hb37_5 (s_X0_clauseRow  ?_)
  exact b_X0_wrongLanes_65 hL hb9_1 k
def f_X0_hasAssignment (I : Nat → Nat → Int32) (x1 : Int32) : Int32 := (if x1 < 0 then 0 else (if (I 13 2) ≤ x1 then 0 else 1))
theorem s_X0_hasAssignment {xs : Nat → Int32} {L d : Nat} {S : Nat → Shp} {I : Nat → Nat → Int32} {J : Nat → Nat → Int64} {R : Nat → Nat → Nat} {c : Nat × Nat} {Q : Option (Option Value) → MH → Prop} {x1 : Int32} (hL : Lay S R) (k : Q (some (some (.int (f_X0_hasAssignment I x1)))) (S, I, J, R, c)) : X xs L d 13 0 [.ref 13, .int x1] [] (S, I, J, R, c) Q := by
  unfold f_X0_hasAssignment at k
  refine b_X0_hasAssignment_0  (fun c0 => ?_) (fun c0 => ?_)
  · rw [if_pos c0] at k
    refine b_X0_hasAssignment_16  ?_
    exact b_X0_hasAssignment_17 (by decide) k
  · rw [if_neg c0] at k
    refine b_X0_hasAssignment_4 hL (fun c1 => ?_) (fun c1 => ?_)
    · rw [if_pos c1] at k
      refine b_X0_hasAssignment_16  ?_
      exact b_X0_hasAssignment_17 (by decide) k
    · rw [if_neg c1] at k
      refine b_X0_hasAssignment_12  ?_
      exact b_X0_hasAssignment_17 (by decide) k
def f_X0_isIn (y0 : Int64) (x2 : Int32) : Int32 := (if ¬ (lg_cmp ((y0 >>> ((x2 - x2 / 64 * 64).toInt64 &&& 63)) &&& 1) 1) = 0 then 0 else 1)
theorem s_X0_isIn {xs : Nat → Int32} {L d : Nat} {S : Nat → Shp} {I : Nat → Nat → Int32} {J : Nat → Nat → Int64} {R : Nat → Nat → Nat} {c : Nat × Nat} {Q : Option (Option Value) → MH → Prop} {y0 : Int64} {x2 : Int32}  (k : Q (some (some (.int (f_X0_isIn y0 x2)))) (S, I, J, R, c)) : X xs L d 19 0 [.long y0, .null, .int x2] [] (S, I, J, R, c) Q := by
  unfold f_X0_isIn at k
  refine b_X0_isIn_0  (fun c0 => ?_) (fun c0 => ?_)
  · rw [if_pos c0] at k
    refine b_X0_isIn_17  ?_
    exact b_X0_isIn_18 (by decide) k
  · rw [if_neg c0] at k
    refine b_X0_isIn_13  ?_
    exact b_X0_isIn_18 (by decide) k
def f_X0_valueOf (J : Nat → Nat → Int64) (x1 : Int32) (x2 : Int32) (x3 : Int32) : Int32 := (if (f_X0_isIn (J 23 (x3 / 64).toNatClampNeg) x3) = 0 then (if (f_X0_isIn (J 21 ((f_X0_row (x3 / 64) x2) + x1).toNatClampNeg) x3) = 0 then (if (f_X0_isIn (J 22 ((f_X0_row (x3 / 64) x2) + x1).toNatClampNeg) x3) = 0 then 2 else 0) else 1) else 3)
theorem s_X0_valueOf {xs : Nat → Int32} {L d : Nat} {S : Nat → Shp} {I : Nat → Nat → Int32} {J : Nat → Nat → Int64} {R : Nat → Nat → Nat} {c : Nat × Nat} {Q : Option (Option Value) → MH → Prop} {x1 : Int32} {x2 : Int32} {x3 : Int32} (hL : Lay S R) (hb22_1 : inb (x3 / 64) 8 = true) (hb38_2 : (f_X0_isIn (J 23 (x3 / 64).toNatClampNeg) x3) = 0 → inb ((f_X0_row (x3 / 64) x2) + x1) 3840 = true) (hb54_3 : (f_X0_isIn (J 23 (x3 / 64).toNatClampNeg) x3) = 0 → (f_X0_isIn (J 21 ((f_X0_row (x3 / 64) x2) + x1).toNatClampNeg) x3) = 0 → inb ((f_X0_row (x3 / 64) x2) + x1) 3840 = true) (k : Q (some (some (.int (f_X0_valueOf J x1 x2 x3)))) (S, I, J, R, c)) : X xs L (d + 1) 23 0 [.ref 13, .int x1, .int x2, .int x3, .null, .null] [] (S, I, J, R, c) Q := by
  unfold f_X0_valueOf at k
  refine b_X0_valueOf_0  (s_X0_row  ?_)
  refine b_X0_valueOf_12 hL hb22_1 (s_X0_isIn  ?_)
  refine b_X0_valueOf_27  (fun c0 => ?_) (fun c0 => ?_)
  · rw [if_pos c0] at k
    refine b_X0_valueOf_32 hL (hb38_2 c0) (s_X0_isIn  ?_)
    refine b_X0_valueOf_43  (fun c1 => ?_) (fun c1 => ?_)
    · rw [if_pos c1] at k
      refine b_X0_valueOf_48 hL (hb54_3 c0 c1) (s_X0_isIn  ?_)
      refine b_X0_valueOf_59  (fun c2 => ?_) (fun c2 => ?_)
      · rw [if_pos c2] at k
        refine b_X0_valueOf_66  ?_
        exact b_X0_valueOf_67  k
      · rw [if_neg c2] at k
        refine b_X0_valueOf_62  ?_
        exact b_X0_valueOf_67  k
    · rw [if_neg c1] at k
      exact b_X0_valueOf_46  k
  · rw [if_neg c0] at k
    exact b_X0_valueOf_30  k
def f_X0_changedLanes (J : Nat → Nat → Int64) (x1 : Int32) (x2 : Int32) (x3 : Int32) : Int64 := (if 6 ≤ x3 then (if 6 ≤ x3 then (((((J 21 ((f_X0_row x2 0) + x1).toNatClampNeg) ^^^ (((J 21 ((f_X0_row (x2 ||| ((1 : Int32) <<< ((x3 - 6) &&& 31))) 0) + x1).toNatClampNeg).toUInt64 >>> ((0 : Int32).toInt64.toUInt64 &&& Int64.toUInt64 63)).toInt64)) ||| ((J 22 ((f_X0_row x2 0) + x1).toNatClampNeg) ^^^ (((J 22 ((f_X0_row (x2 ||| ((1 : Int32) <<< ((x3 - 6) &&& 31))) 0) + x1).toNatClampNeg).toUInt64 >>> ((0 : Int32).toInt64.toUInt64 &&& Int64.toUInt64 63)).toInt64))) &&& (((J 23 x2.toNatClampNeg) ||| (((J 23 (x2 ||| ((1 : Int32) <<< ((x3 - 6) &&& 31))).toNatClampNeg).toUInt64 >>> ((0 : Int32).toInt64.toUInt64 &&& Int64.toUInt64 63)).toInt64)) ^^^ (-1))) &&& ((f_X0_lanesWith x3 x2) ^^^ (-1))) &&& (J 13 4) else (((((J 21 ((f_X0_row x2 0) + x1).toNatClampNeg) ^^^ (((J 21 ((f_X0_row x2 0) + x1).toNatClampNeg).toUInt64 >>> ((0 : Int32).toInt64.toUInt64 &&& Int64.toUInt64 63)).toInt64)) ||| ((J 22 ((f_X0_row x2 0) + x1).toNatClampNeg) ^^^ (((J 22 ((f_X0_row x2 0) + x1).toNatClampNeg).toUInt64 >>> ((0 : Int32).toInt64.toUInt64 &&& Int64.toUInt64 63)).toInt64))) &&& (((J 23 x2.toNatClampNeg) ||| (((J 23 x2.toNatClampNeg).toUInt64 >>> ((0 : Int32).toInt64.toUInt64 &&& Int64.toUInt64 63)).toInt64)) ^^^ (-1))) &&& ((f_X0_lanesWith x3 x2) ^^^ (-1))) &&& (J 13 4)) else (if 6 ≤ x3 then (((((J 21 ((f_X0_row x2 0) + x1).toNatClampNeg) ^^^ (((J 21 ((f_X0_row (x2 ||| ((1 : Int32) <<< ((x3 - 6) &&& 31))) 0) + x1).toNatClampNeg).toUInt64 >>> (((1 : Int32) <<< (x3 &&& 31)).toInt64.toUInt64 &&& Int64.toUInt64 63)).toInt64)) ||| ((J 22 ((f_X0_row x2 0) + x1).toNatClampNeg) ^^^ (((J 22 ((f_X0_row (x2 ||| ((1 : Int32) <<< ((x3 - 6) &&& 31))) 0) + x1).toNatClampNeg).toUInt64 >>> (((1 : Int32) <<< (x3 &&& 31)).toInt64.toUInt64 &&& Int64.toUInt64 63)).toInt64))) &&& (((J 23 x2.toNatClampNeg) ||| (((J 23 (x2 ||| ((1 : Int32) <<< ((x3 - 6) &&& 31))).toNatClampNeg).toUInt64 >>> (((1 : Int32) <<< (x3 &&& 31)).toInt64.toUInt64 &&& Int64.toUInt64 63)).toInt64)) ^^^ (-1))) &&& ((f_X0_lanesWith x3 x2) ^^^ (-1))) &&& (J 13 4) else (((((J 21 ((f_X0_row x2 0) + x1).toNatClampNeg) ^^^ (((J 21 ((f_X0_row x2 0) + x1).toNatClampNeg).toUInt64 >>> (((1 : Int32) <<< (x3 &&& 31)).toInt64.toUInt64 &&& Int64.toUInt64 63)).toInt64)) ||| ((J 22 ((f_X0_row x2 0) + x1).toNatClampNeg) ^^^ (((J 22 ((f_X0_row x2 0) + x1).toNatClampNeg).toUInt64 >>> (((1 : Int32) <<< (x3 &&& 31)).toInt64.toUInt64 &&& Int64.toUInt64 63)).toInt64))) &&& (((J 23 x2.toNatClampNeg) ||| (((J 23 x2.toNatClampNeg).toUInt64 >>> (((1 : Int32) <<< (x3 &&& 31)).toInt64.toUInt64 &&& Int64.toUInt64 63)).toInt64)) ^^^ (-1))) &&& ((f_X0_lanesWith x3 x2) ^^^ (-1))) &&& (J 13 4)))
theorem s_X0_changedLanes {xs : Nat → Int32} {L d : Nat} {S : Nat → Shp} {I : Nat → Nat → Int32} {J : Nat → Nat → Int64} {R : Nat → Nat → Nat} {c : Nat × Nat} {Q : Option (Option Value) → MH → Prop} {x1 : Int32} {x2 : Int32} {x3 : Int32} (hL : Lay S R) (hb60_1 : 6 ≤ x3 → 6 ≤ x3 → inb ((f_X0_row x2 0) + x1) 3840 = true) (hb67_2 : 6 ≤ x3 → 6 ≤ x3 → inb ((f_X0_row (x2 ||| ((1 : Int32) <<< ((x3 - 6) &&& 31))) 0) + x1) 3840 = true) (hb102_3 : 6 ≤ x3 → 6 ≤ x3 → inb x2 8 = true) (hb109_4 : 6 ≤ x3 → 6 ≤ x3 → inb (x2 ||| ((1 : Int32) <<< ((x3 - 6) &&& 31))) 8 = true) (hc5 : 6 ≤ x3 → 6 ≤ x3 → ¬ (6 ≤ x3) → inb x3 (jTab 1).length = true) (hb60_6 : 6 ≤ x3 → ¬ (6 ≤ x3) → inb ((f_X0_row x2 0) + x1) 3840 = true) (hb102_7 : 6 ≤ x3 → ¬ (6 ≤ x3) → inb x2 8 = true) (hc8 : 6 ≤ x3 → ¬ (6 ≤ x3) → ¬ (6 ≤ x3) → inb x3 (jTab 1).length = true) (hb60_9 : ¬ (6 ≤ x3) → 6 ≤ x3 → inb ((f_X0_row x2 0) + x1) 3840 = true) (hb67_10 : ¬ (6 ≤ x3) → 6 ≤ x3 → inb ((f_X0_row (x2 ||| ((1 : Int32) <<< ((x3 - 6) &&& 31))) 0) + x1) 3840 = true) (hb102_11 : ¬ (6 ≤ x3) → 6 ≤ x3 → inb x2 8 = true) (hb109_12 : ¬ (6 ≤ x3) → 6 ≤ x3 → inb (x2 ||| ((1 : Int32) <<< ((x3 - 6) &&& 31))) 8 = true) (hc13 : ¬ (6 ≤ x3) → 6 ≤ x3 → ¬ (6 ≤ x3) → inb x3 (jTab 1).length = true) (hb60_14 : ¬ (6 ≤ x3) → ¬ (6 ≤ x3) → inb ((f_X0_row x2 0) + x1) 3840 = true) (hb102_15 : ¬ (6 ≤ x3) → ¬ (6 ≤ x3) → inb x2 8 = true) (hc16 : ¬ (6 ≤ x3) → ¬ (6 ≤ x3) → ¬ (6 ≤ x3) → inb x3 (jTab 1).length = true) (k : Q (some (some (.long (f_X0_changedLanes J x1 x2 x3)))) (S, I, J, R, c)) : X xs L (d + 1) 25 0 [.ref 13, .int x1, .int x2, .int x3, .null, .null, .null, .null, .null, .null, .null, .null] [] (S, I, J, R, c) Q := by
  unfold f_X0_changedLanes at k
  refine b_X0_changedLanes_0  (fun c0 => ?_) (fun c0 => ?_)
  · rw [if_pos c0] at k
    refine b_X0_changedLanes_12  ?_
    refine b_X0_changedLanes_13  (fun c1 => ?_) (fun c1 => ?_)
    · rw [if_pos c1] at k
      refine b_X0_changedLanes_25  ?_
      refine b_X0_changedLanes_33  (s_X0_row  ?_)
      refine b_X0_changedLanes_40  (s_X0_row  ?_)
      refine b_X0_changedLanes_50 hL (hb60_1 c0 c1) (hb67_2 c0 c1) (hb60_1 c0 c1) (hb67_2 c0 c1) (hb102_3 c0 c1) (hb109_4 c0 c1) (s_X0_lanesWith (hc5 c0 c1) ?_)
      exact b_X0_changedLanes_130 hL k
    · rw [if_neg c1] at k
      refine b_X0_changedLanes_21  ?_
      refine b_X0_changedLanes_33  (s_X0_row  ?_)
      refine b_X0_changedLanes_40  (s_X0_row  ?_)
      refine b_X0_changedLanes_50 hL (hb60_6 c0 c1) (hb60_6 c0 c1) (hb60_6 c0 c1) (hb60_6 c0 c1) (hb102_7 c0 c1) (hb102_7 c0 c1) (s_X0_lanesWith (hc8 c0 c1) ?_)
      exact b_X0_changedLanes_130 hL k
  · rw [if_neg c0] at k
    refine b_X0_changedLanes_6  ?_
    refine b_X0_changedLanes_13  (fun c1 => ?_) (fun c1 => ?_)
    · rw [if_pos c1] at k
      refine b_X0_changedLanes_25  ?_
      refine b_X0_changedLanes_33  (s_X0_row  ?_)
      refine b_X0_changedLanes_40  (s_X0_row  ?_)
      refine b_X0_changedLanes_50 hL (hb60_9 c0 c1) (hb67_10 c0 c1) (hb60_9 c0 c1) (hb67_10 c0 c1) (hb102_11 c0 c1) (hb109_12 c0 c1) (s_X0_lanesWith (hc13 c0 c1) ?_)
      exact b_X0_changedLanes_130 hL k
    · rw [if_neg c1] at k
      refine b_X0_changedLanes_21  ?_
      refine b_X0_changedLanes_33  (s_X0_row  ?_)
      refine b_X0_changedLanes_40  (s_X0_row  ?_)
      refine b_X0_changedLanes_50 hL (hb60_14 c0 c1) (hb60_14 c0 c1) (hb60_14 c0 c1) (hb60_14 c0 c1) (hb102_15 c0 c1) (hb102_15 c0 c1) (s_X0_lanesWith (hc16 c0 c1) ?_)
      exact b_X0_changedLanes_130 hL k
def f_X10_hasPlace (I : Nat → Nat → Int32) (q_1_4 : Nat) (q_1_6 : Nat) (x1 : Int32) (x2 : Int32) : Int32 := (if (I 1 8) = 0 then 0 else (if (f_X1_hasNode I q_1_4 x1) = 0 then 0 else (if x2 < 0 then 0 else (if (I q_1_6 4) < x2 then 0 else 1))))
theorem s_X10_hasPlace {xs : Nat → Int32} {L d : Nat} {S : Nat → Shp} {I : Nat → Nat → Int32} {J : Nat → Nat → Int64} {R : Nat → Nat → Nat} {c : Nat × Nat} {Q : Option (Option Value) → MH → Prop} {x1 : Int32} {x2 : Int32} {q_1_4 q_1_6 : Nat} (hL : Lay S R) (hq_1_4 : R 1 4 = q_1_4) (h_q_1_4 : LyCi S R q_1_4) (hq_1_6 : R 1 6 = q_1_6) (h_q_1_6 : LyCm S R q_1_6) (k : Q (some (some (.int (f_X10_hasPlace I q_1_4 q_1_6 x1 x2)))) (S, I, J, R, c)) : X xs L (d + 1) 114 0 [.ref 1, .int x1, .int x2] [] (S, I, J, R, c) Q := by
  unfold f_X10_hasPlace at k
  refine b_X10_hasPlace_0 hL (fun c0 => ?_) (fun c0 => ?_)
  · rw [if_pos c0] at k
    refine b_X10_hasPlace_37  ?_
    exact b_X10_hasPlace_38 (by decide) k
  · rw [if_neg c0] at k
    refine b_X10_hasPlace_7 hL hq_1_4 h_q_1_4 (s_X1_hasNode h_q_1_4 ?_)
    refine b_X10_hasPlace_15  (fun c1 => ?_) (fun c1 => ?_)
    · rw [if_pos c1] at k
      refine b_X10_hasPlace_37  ?_
      exact b_X10_hasPlace_38 (by decide) k
    · rw [if_neg c1] at k
      refine b_X10_hasPlace_18  (fun c2 => ?_) (fun c2 => ?_)
      · rw [if_pos c2] at k
        refine b_X10_hasPlace_37  ?_
        exact b_X10_hasPlace_38 (by decide) k
      · rw [if_neg c2] at k
        refine b_X10_hasPlace_22 hL hq_1_6 h_q_1_6 (fun c3 => ?_) (fun c3 => ?_)
        · rw [if_pos c3] at k
          refine b_X10_hasPlace_37  ?_
          exact b_X10_hasPlace_38 (by decide) k
        · rw [if_neg c3] at k
          refine b_X10_hasPlace_33  ?_
          exact b_X10_hasPlace_38 (by decide) k
def f_X14_digit (x0 : Int32) : Int32 := (if x0 < 48 then 0 else (if 57 < x0 then 0 else 1))
theorem s_X14_digit {xs : Nat → Int32} {L d : Nat} {S : Nat → Shp} {I : Nat → Nat → Int32} {J : Nat → Nat → Int64} {R : Nat → Nat → Nat} {c : Nat × Nat} {Q : Option (Option Value) → MH → Prop} {x0 : Int32}  (k : Q (some (some (.int (f_X14_digit x0)))) (S, I, J, R, c)) : X xs L d 123 0 [.int x0] [] (S, I, J, R, c) Q := by
  unfold f_X14_digit at k
  refine b_X14_digit_0  (fun c0 => ?_) (fun c0 => ?_)
  · rw [if_pos c0] at k
    refine b_X14_digit_16  ?_
    exact b_X14_digit_17 (by decide) k
  · rw [if_neg c0] at k
    refine b_X14_digit_6  (fun c1 => ?_) (fun c1 => ?_)
    · rw [if_pos c1] at k
      refine b_X14_digit_16  ?_
      exact b_X14_digit_17 (by decide) k
    · rw [if_neg c1] at k
      refine b_X14_digit_12  ?_
      exact b_X14_digit_17 (by decide) k
def f_X14_small (x0 : Int32) : Int32 := (if x0 < 97 then 0 else (if 122 < x0 then 0 else 1))
theorem s_X14_small {xs : Nat → Int32} {L d : Nat} {S : Nat → Shp} {I : Nat → Nat → Int32} {J : Nat → Nat → Int64} {R : Nat → Nat → Nat} {c : Nat × Nat} {Q : Option (Option Value) → MH → Prop} {x0 : Int32}  (k : Q (some (some (.int (f_X14_small x0)))) (S, I, J, R, c)) : X xs L d 124 0 [.int x0] [] (S, I, J, R, c) Q := by
  unfold f_X14_small at k
  refine b_X14_small_0  (fun c0 => ?_) (fun c0 => ?_)
  · rw [if_pos c0] at k
    refine b_X14_small_16  ?_
    exact b_X14_small_17 (by decide) k
  · rw [if_neg c0] at k
    refine b_X14_small_6  (fun c1 => ?_) (fun c1 => ?_)
    · rw [if_pos c1] at k
      refine b_X14_small_16  ?_
      exact b_X14_small_17 (by decide) k
    · rw [if_neg c1] at k
      refine b_X14_small_12  ?_
      exact b_X14_small_17 (by decide) k
def f_X14_capital (x0 : Int32) : Int32 := (if x0 < 65 then 0 else (if 90 < x0 then 0 else 1))
theorem s_X14_capital {xs : Nat → Int32} {L d : Nat} {S : Nat → Shp} {I : Nat → Nat → Int32} {J : Nat → Nat → Int64} {R : Nat → Nat → Nat} {c : Nat × Nat} {Q : Option (Option Value) → MH → Prop} {x0 : Int32}  (k : Q (some (some (.int (f_X14_capital x0)))) (S, I, J, R, c)) : X xs L d 125 0 [.int x0] [] (S, I, J, R, c) Q := by
  unfold f_X14_capital at k
  refine b_X14_capital_0  (fun c0 => ?_) (fun c0 => ?_)
  · rw [if_pos c0] at k
    refine b_X14_capital_16  ?_
    exact b_X14_capital_17 (by decide) k
  · rw [if_neg c0] at k
    refine b_X14_capital_6  (fun c1 => ?_) (fun c1 => ?_)
    · rw [if_pos c1] at k
      refine b_X14_capital_16  ?_
      exact b_X14_capital_17 (by decide) k
    · rw [if_neg c1] at k
      refine b_X14_capital_12  ?_
      exact b_X14_capital_17 (by decide) k
def f_X14_byteAt (I : Nat → Nat → Int32) (x1 : Int32) : Int32 := (if (I 65 1) ≤ x1 then (-1) else I 66 x1.toNatClampNeg)
theorem s_X14_byteAt {xs : Nat → Int32} {L d : Nat} {S : Nat → Shp} {I : Nat → Nat → Int32} {J : Nat → Nat → Int64} {R : Nat → Nat → Nat} {c : Nat × Nat} {Q : Option (Option Value) → MH → Prop} {x1 : Int32} (hL : Lay S R) (hb13_1 : ¬ ((I 65 1) ≤ x1) → inb x1 2000 = true) (k : Q (some (some (.int (f_X14_byteAt I x1)))) (S, I, J, R, c)) : X xs L d 122 0 [.ref 65, .int x1] [] (S, I, J, R, c) Q := by
  unfold f_X14_byteAt at k
  refine b_X14_byteAt_0 hL (fun c0 => ?_) (fun c0 => ?_)
  · rw [if_pos c0] at k
    refine b_X14_byteAt_17  ?_
    exact b_X14_byteAt_18  k
  · rw [if_neg c0] at k
    refine b_X14_byteAt_8 hL (hb13_1 c0) ?_
    exact b_X14_byteAt_18  k
def f_X14_here (I : Nat → Nat → Int32) (x1 : Int32) : Int32 := (if ¬ (I 67 (I 65 7).toNatClampNeg) = x1 then 0 else 1)
theorem s_X14_here {xs : Nat → Int32} {L d : Nat} {S : Nat → Shp} {I : Nat → Nat → Int32} {J : Nat → Nat → Int64} {R : Nat → Nat → Nat} {c : Nat × Nat} {Q : Option (Option Value) → MH → Prop} {x1 : Int32} (hL : Lay S R) (hb8_1 : inb (I 65 7) 2001 = true) (k : Q (some (some (.int (f_X14_here I x1)))) (S, I, J, R, c)) : X xs L d 127 0 [.ref 65, .int x1] [] (S, I, J, R, c) Q := by
  unfold f_X14_here at k
  refine b_X14_here_0 hL hb8_1 (fun c0 => ?_) (fun c0 => ?_)
  · rw [if_pos c0] at k
    refine b_X14_here_17  ?_
    exact b_X14_here_18 (by decide) k
  · rw [if_neg c0] at k
    refine b_X14_here_13  ?_
    exact b_X14_here_18 (by decide) k
def f_X14_cell (x1 : Int32) (x2 : Int32) (x3 : Int32) : Int32 := (((x1 * 12) + x2) * 40) + x3
theorem s_X14_cell {xs : Nat → Int32} {L d : Nat} {S : Nat → Shp} {I : Nat → Nat → Int32} {J : Nat → Nat → Int64} {R : Nat → Nat → Nat} {c : Nat × Nat} {Q : Option (Option Value) → MH → Prop} {x1 : Int32} {x2 : Int32} {x3 : Int32}  (k : Q (some (some (.int (f_X14_cell x1 x2 x3)))) (S, I, J, R, c)) : X xs L d 148 0 [.ref 65, .int x1, .int x2, .int x3] [] (S, I, J, R, c) Q := by
  unfold f_X14_cell at k
  exact b_X14_cell_0  k
def f_X14_all (I : Nat → Nat → Int32) (q_65_13 : Nat) : Int32 := (if ¬ q_65_13 = 0 then (1 : Int32) <<< ((I q_65_13 8) &&& 31) else 0)
theorem s_X14_all {xs : Nat → Int32} {L d : Nat} {S : Nat → Shp} {I : Nat → Nat → Int32} {J : Nat → Nat → Int64} {R : Nat → Nat → Nat} {c : Nat × Nat} {Q : Option (Option Value) → MH → Prop}  {q_65_13 : Nat} (hL : Lay S R) (hq_65_13 : R 65 13 = q_65_13) (h_q_65_13 : LyCs S R q_65_13) (k : Q (some (some (.int (f_X14_all I q_65_13)))) (S, I, J, R, c)) : X xs L d 156 0 [.ref 65] [] (S, I, J, R, c) Q := by
  unfold f_X14_all at k
  refine b_X14_all_0 hL hq_65_13 (fun c0 => ?_) (fun c0 => ?_)
  · rw [if_pos c0] at k
    refine b_X14_all_11 hL hq_65_13 h_q_65_13 ?_
    exact b_X14_all_20  k
  · rw [if_neg c0] at k
    refine b_X14_all_7  ?_
    exact b_X14_all_20  k
def f_X14_isPlace (I : Nat → Nat → Int32) (q_65_13 : Nat) (q_65_11 : Nat) (x1 : Int32) (x2 : Int32) : Int32 := (if q_65_13 = 0 then 0 else (if x1 < 0 then 0 else (if (I q_65_11 4) ≤ x1 then 0 else (if x2 < 0 then 0 else (if (I q_65_13 9) < x2 then 0 else 1)))))
theorem s_X14_isPlace {xs : Nat → Int32} {L d : Nat} {S : Nat → Shp} {I : Nat → Nat → Int32} {J : Nat → Nat → Int64} {R : Nat → Nat → Nat} {c : Nat × Nat} {Q : Option (Option Value) → MH → Prop} {x1 : Int32} {x2 : Int32} {q_65_13 q_65_11 : Nat} (hL : Lay S R) (hq_65_13 : R 65 13 = q_65_13) (hq_65_11 : R 65 11 = q_65_11) (h_q_65_11 : LyNo S R q_65_11) (h_q_65_13 : LyCs S R q_65_13) (k : Q (some (some (.int (f_X14_isPlace I q_65_13 q_65_11 x1 x2)))) (S, I, J, R, c)) : X xs L d 161 0 [.ref 65, .int x1, .int x2] [] (S, I, J, R, c) Q := by
  unfold f_X14_isPlace at k
  refine b_X14_isPlace_0 hL hq_65_13 (fun c0 => ?_) (fun c0 => ?_)
  · rw [if_pos c0] at k
    refine b_X14_isPlace_41  ?_
    exact b_X14_isPlace_42 (by decide) k
  · rw [if_neg c0] at k
    refine b_X14_isPlace_7  (fun c1 => ?_) (fun c1 => ?_)
    · rw [if_pos c1] at k
      refine b_X14_isPlace_41  ?_
      exact b_X14_isPlace_42 (by decide) k
    · rw [if_neg c1] at k
      refine b_X14_isPlace_11 hL hq_65_11 h_q_65_11 (fun c2 => ?_) (fun c2 => ?_)
      · rw [if_pos c2] at k
        refine b_X14_isPlace_41  ?_
        exact b_X14_isPlace_42 (by decide) k
      · rw [if_neg c2] at k
        refine b_X14_isPlace_22  (fun c3 => ?_) (fun c3 => ?_)
        · rw [if_pos c3] at k
          refine b_X14_isPlace_41  ?_
          exact b_X14_isPlace_42 (by decide) k
        · rw [if_neg c3] at k
          refine b_X14_isPlace_26 hL hq_65_13 h_q_65_13 (fun c4 => ?_) (fun c4 => ?_)
          · rw [if_pos c4] at k
            refine b_X14_isPlace_41  ?_
            exact b_X14_isPlace_42 (by decide) k
          · rw [if_neg c4] at k
            refine b_X14_isPlace_37  ?_
            exact b_X14_isPlace_42 (by decide) k
def f_X14_covers (I : Nat → Nat → Int32) (r0 : Nat) (x1 : Int32) (x2 : Int32) (x3 : Int32) : Int32 := (if ¬ (I (r0 + 1) x1.toNatClampNeg) = x2 then 0 else (if x3 < (I (r0 + 4) x1.toNatClampNeg) then 0 else (if (I (r0 + 5) x1.toNatClampNeg) < x3 then 0 else 1)))
theorem s_X14_covers {xs : Nat → Int32} {L d : Nat} {S : Nat → Shp} {I : Nat → Nat → Int32} {J : Nat → Nat → Int64} {R : Nat → Nat → Nat} {c : Nat × Nat} {Q : Option (Option Value) → MH → Prop} {r0 : Nat} {x1 : Int32} {x2 : Int32} {x3 : Int32} (h_r0 : LyCs S R r0) (hb5_1 : inb x1 48 = true) (hb16_2 : ¬ (¬ (I (r0 + 1) x1.toNatClampNeg) = x2) → inb x1 48 = true) (hb26_3 : ¬ (¬ (I (r0 + 1) x1.toNatClampNeg) = x2) → ¬ (x3 < (I (r0 + 4) x1.toNatClampNeg)) → inb x1 48 = true) (k : Q (some (some (.int (f_X14_covers I r0 x1 x2 x3)))) (S, I, J, R, c)) : X xs L d 152 0 [.ref r0, .int x1, .int x2, .int x3] [] (S, I, J, R, c) Q := by
  unfold f_X14_covers at k
  refine b_X14_covers_0 h_r0 hb5_1 (fun c0 => ?_) (fun c0 => ?_)
  · rw [if_pos c0] at k
    refine b_X14_covers_34  ?_
    exact b_X14_covers_35 (by decide) k
  · rw [if_neg c0] at k
    refine b_X14_covers_10 h_r0 (hb16_2 c0) (fun c1 => ?_) (fun c1 => ?_)
    · rw [if_pos c1] at k
      refine b_X14_covers_34  ?_
      exact b_X14_covers_35 (by decide) k
    · rw [if_neg c1] at k
      refine b_X14_covers_20 h_r0 (hb26_3 c0 c1) (fun c2 => ?_) (fun c2 => ?_)
      · rw [if_pos c2] at k
        refine b_X14_covers_34  ?_
        exact b_X14_covers_35 (by decide) k
      · rw [if_neg c2] at k
        refine b_X14_covers_30  ?_
        exact b_X14_covers_35 (by decide) k
