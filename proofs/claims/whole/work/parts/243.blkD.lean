/-! ===== P1: blocks (by wip/whole/gen/blocks.py) ===== -/
set_option maxRecDepth 4000 in
theorem b_X0_run_0 {xs : Nat → Int32} {L d : Nat} {S : Nat → Shp} {I : Nat → Nat → Int32} {J : Nat → Nat → Int64} {R : Nat → Nat → Nat} {c : Nat × Nat} {Q : Option (Option Value) → MH → Prop} {r1 r2 : Nat} (hL : Lay S R) (h_r2 : LyCm S R r2) (hn_r2_13 : r2 ≠ 13) (kt : 6 ≤ (I r2 0) → X xs L (d + 1) 1 62 [.ref 13, .ref r1, .ref r2, .null] [.ref 13] (S, (u2 (u2 I 13 2 ((1 : Int32) <<< ((I r2 0) &&& 31))) 13 3 (if (1 : Int32) < (((1 : Int32) <<< ((I r2 0) &&& 31)) >>> (6 &&& 31)) then ((1 : Int32) <<< ((I r2 0) &&& 31)) >>> (6 &&& 31) else (1 : Int32))), J, (u2 (u2 R 13 0 r1) 13 1 r2), c) Q) (kf : ¬ (6 ≤ (I r2 0)) → X xs L (d + 1) 1 51 [.ref 13, .ref r1, .ref r2, .null] [.ref 13] (S, (u2 (u2 I 13 2 ((1 : Int32) <<< ((I r2 0) &&& 31))) 13 3 (if (1 : Int32) < (((1 : Int32) <<< ((I r2 0) &&& 31)) >>> (6 &&& 31)) then ((1 : Int32) <<< ((I r2 0) &&& 31)) >>> (6 &&& 31) else (1 : Int32))), J, (u2 (u2 R 13 0 r1) 13 1 r2), c) Q) : X xs L (d + 1) 1 0 [.ref 13, .ref r1, .ref r2, .null] [] (S, I, J, R, c) Q := by
  refine X_aload_n (q := 0) (show decode (mB 1) 0 = .ok (.aload_n 0, 1) by decide +kernel) (pc' := 1) rfl rfl rfl ?_
  refine X_aload_n (q := 1) (show decode (mB 1) 1 = .ok (.aload_n 1, 1) by decide +kernel) (pc' := 2) rfl rfl rfl ?_
  refine X_putR (ci := 0) (f := 0) (show decode (mB 1) 2 = .ok (.putfield 47, 3) by decide +kernel) (pc' := 5) rfl (ls_13 hL) (by decide +kernel) (by decide +kernel) rfl ?_
  refine X_aload_n (q := 0) (show decode (mB 1) 5 = .ok (.aload_n 0, 1) by decide +kernel) (pc' := 6) rfl rfl rfl ?_
  refine X_aload_n (q := 2) (show decode (mB 1) 6 = .ok (.aload_n 2, 1) by decide +kernel) (pc' := 7) rfl rfl rfl ?_
  refine X_putR (ci := 0) (f := 1) (show decode (mB 1) 7 = .ok (.putfield 51, 3) by decide +kernel) (pc' := 10) rfl (ls_13 hL) (by decide +kernel) (by decide +kernel) rfl ?_
  refine X_aload_n (q := 0) (show decode (mB 1) 10 = .ok (.aload_n 0, 1) by decide +kernel) (pc' := 11) rfl rfl rfl ?_
  refine X_iconst (v := 1) (show decode (mB 1) 11 = .ok (.iconst 1, 1) by decide +kernel) (pc' := 12) rfl rfl ?_
  refine X_aload_n (q := 0) (show decode (mB 1) 12 = .ok (.aload_n 0, 1) by decide +kernel) (pc' := 13) rfl rfl rfl ?_
  refine X_getR (ci := 0) (f := 1) (q := r2) (show decode (mB 1) 13 = .ok (.getfield 51, 3) by decide +kernel) (pc' := 16) rfl (ls_13 hL) (by decide +kernel) rfl (by simp [u2, u1]) ?_
  refine X_getI (ci := 3) (f := 0) (x := I r2 0) (show decode (mB 1) 16 = .ok (.getfield 55, 3) by decide +kernel) (pc' := 19) rfl h_r2.s0 (by decide +kernel) rfl rfl ?_
  refine X_ishl (show decode (mB 1) 19 = .ok (.ishl, 1) by decide +kernel) (pc' := 20) rfl ?_
  refine X_putI (ci := 0) (f := 2) (show decode (mB 1) 20 = .ok (.putfield 59, 3) by decide +kernel) (pc' := 23) rfl (ls_13 hL) (by decide +kernel) (by decide +kernel) rfl ?_
  refine X_aload_n (q := 0) (show decode (mB 1) 23 = .ok (.aload_n 0, 1) by decide +kernel) (pc' := 24) rfl rfl rfl ?_
  refine X_iconst (v := 1) (show decode (mB 1) 24 = .ok (.iconst 1, 1) by decide +kernel) (pc' := 25) rfl rfl ?_
  refine X_aload_n (q := 0) (show decode (mB 1) 25 = .ok (.aload_n 0, 1) by decide +kernel) (pc' := 26) rfl rfl rfl ?_
  refine X_getI (ci := 0) (f := 2) (x := (1 : Int32) <<< ((I r2 0) &&& 31)) (show decode (mB 1) 26 = .ok (.getfield 59, 3) by decide +kernel) (pc' := 29) rfl (ls_13 hL) (by decide +kernel) rfl (by simp [u2, u1]) ?_
  refine X_bipush (v := 6) (show decode (mB 1) 29 = .ok (.bipush 6, 2) by decide +kernel) (pc' := 31) rfl (by decide +kernel) ?_
  refine X_ishr (show decode (mB 1) 31 = .ok (.ishr, 1) by decide +kernel) (pc' := 32) rfl ?_
  refine X_max (show decode (mB 1) 32 = .ok (.invokestatic 62, 3) by decide +kernel) (pc' := 35) rfl (by decide +kernel) ⟨Nat.le_add_left 1 d, Nat.le_of_ble_eq_true rfl⟩ ?_
  refine X_putI (ci := 0) (f := 3) (show decode (mB 1) 35 = .ok (.putfield 68, 3) by decide +kernel) (pc' := 38) rfl (ls_13 hL) (by decide +kernel) (by decide +kernel) rfl ?_
  refine X_aload_n (q := 0) (show decode (mB 1) 38 = .ok (.aload_n 0, 1) by decide +kernel) (pc' := 39) rfl rfl rfl ?_
  refine X_aload_n (q := 0) (show decode (mB 1) 39 = .ok (.aload_n 0, 1) by decide +kernel) (pc' := 40) rfl rfl rfl ?_
  refine X_getR (ci := 0) (f := 1) (q := r2) (show decode (mB 1) 40 = .ok (.getfield 51, 3) by decide +kernel) (pc' := 43) rfl (ls_13 hL) (by decide +kernel) rfl (by simp [u2, u1]) ?_
  refine X_getI (ci := 3) (f := 0) (x := I r2 0) (show decode (mB 1) 43 = .ok (.getfield 55, 3) by decide +kernel) (pc' := 46) rfl h_r2.s0 (by decide +kernel) rfl (by simp [u2, u1, hn_r2_13, hn_r2_13]) ?_
  refine X_bipush (v := 6) (show decode (mB 1) 46 = .ok (.bipush 6, 2) by decide +kernel) (pc' := 48) rfl (by decide +kernel) ?_
  exact X_icmp_ge (tgt := 62) (show decode (mB 1) 48 = .ok (.if_icmp .ge 14, 3) by decide +kernel) rfl (pc' := 51) rfl kt kf
set_option maxRecDepth 4000 in
theorem b_X0_run_51 {xs : Nat → Int32} {L d : Nat} {S : Nat → Shp} {I : Nat → Nat → Int32} {J : Nat → Nat → Int64} {R : Nat → Nat → Nat} {c : Nat × Nat} {Q : Option (Option Value) → MH → Prop} {r1 r2 : Nat} (hL : Lay S R)  (k : X xs L (d + 1) 1 65 [.ref 13, .ref r1, .ref r2, .null] [.long (((1 : Int64) <<< ((I 13 2).toInt64 &&& 63)) - 1), .ref 13] (S, I, J, R, c) Q) : X xs L (d + 1) 1 51 [.ref 13, .ref r1, .ref r2, .null] [.ref 13] (S, I, J, R, c) Q := by
  refine X_lconst (v := 1) (show decode (mB 1) 51 = .ok (.lconst 1, 1) by decide +kernel) (pc' := 52) rfl rfl ?_
  refine X_aload_n (q := 0) (show decode (mB 1) 52 = .ok (.aload_n 0, 1) by decide +kernel) (pc' := 53) rfl rfl rfl ?_
  refine X_getI (ci := 0) (f := 2) (x := I 13 2) (show decode (mB 1) 53 = .ok (.getfield 59, 3) by decide +kernel) (pc' := 56) rfl (ls_13 hL) (by decide +kernel) rfl rfl ?_
  refine X_lshl (show decode (mB 1) 56 = .ok (.lshl, 1) by decide +kernel) (pc' := 57) rfl ?_
  refine X_lconst (v := 1) (show decode (mB 1) 57 = .ok (.lconst 1, 1) by decide +kernel) (pc' := 58) rfl rfl ?_
  refine X_lsub (show decode (mB 1) 58 = .ok (.lsub, 1) by decide +kernel) (pc' := 59) rfl ?_
  refine X_goto (tgt := 65) (show decode (mB 1) 59 = .ok (.goto 6, 3) by decide +kernel) rfl ?_
  exact k
set_option maxRecDepth 4000 in
theorem b_X0_run_62 {xs : Nat → Int32} {L d : Nat} {S : Nat → Shp} {I : Nat → Nat → Int32} {J : Nat → Nat → Int64} {R : Nat → Nat → Nat} {c : Nat × Nat} {Q : Option (Option Value) → MH → Prop} {r1 r2 : Nat}  (k : X xs L (d + 1) 1 65 [.ref 13, .ref r1, .ref r2, .null] [.long (-1), .ref 13] (S, I, J, R, c) Q) : X xs L (d + 1) 1 62 [.ref 13, .ref r1, .ref r2, .null] [.ref 13] (S, I, J, R, c) Q := by
  refine X_ldc2 (v := (-1)) (show decode (mB 1) 62 = .ok (.ldc2_w 71, 3) by decide +kernel) (pc' := 65) rfl (by decide +kernel) ?_
  exact k
set_option maxRecDepth 4000 in
theorem b_X0_run_65 {xs : Nat → Int32} {L d : Nat} {S : Nat → Shp} {I : Nat → Nat → Int32} {J : Nat → Nat → Int64} {R : Nat → Nat → Nat} {c : Nat × Nat} {Q : Option (Option Value) → MH → Prop} {r1 r2 : Nat} {sy1 : Int64} (hL : Lay S R)  (k : X xs L (d + 1) 1 70 [.ref 13, .ref r1, .ref r2, .int 0] [] (S, I, (u2 J 13 4 sy1), R, c) Q) : X xs L (d + 1) 1 65 [.ref 13, .ref r1, .ref r2, .null] [.long sy1, .ref 13] (S, I, J, R, c) Q := by
  refine X_putJ (ci := 0) (f := 4) (show decode (mB 1) 65 = .ok (.putfield 73, 3) by decide +kernel) (pc' := 68) rfl (ls_13 hL) (by decide +kernel) (by decide +kernel) rfl ?_
  refine X_iconst (v := 0) (show decode (mB 1) 68 = .ok (.iconst 0, 1) by decide +kernel) (pc' := 69) rfl rfl ?_
  refine X_istore_n (q := 3) (ls' := [.ref 13, .ref r1, .ref r2, .int 0]) (show decode (mB 1) 69 = .ok (.istore_n 3, 1) by decide +kernel) (pc' := 70) rfl rfl rfl ?_
  exact k
set_option maxRecDepth 4000 in
theorem b_X0_run_70 {xs : Nat → Int32} {L d : Nat} {S : Nat → Shp} {I : Nat → Nat → Int32} {J : Nat → Nat → Int64} {R : Nat → Nat → Nat} {c : Nat × Nat} {Q : Option (Option Value) → MH → Prop} {r1 r2 : Nat} {x3 : Int32} (hL : Lay S R)  (kt : (I 13 3) ≤ x3 → X xs L (d + 1) 1 109 [.ref 13, .ref r1, .ref r2, .int x3] [] (S, I, J, R, c) Q) (kf : ¬ ((I 13 3) ≤ x3) → X xs L (d + 1) 1 78 [.ref 13, .ref r1, .ref r2, .int x3] [] (S, I, J, R, c) Q) : X xs L (d + 1) 1 70 [.ref 13, .ref r1, .ref r2, .int x3] [] (S, I, J, R, c) Q := by
  refine X_iload_n (q := 3) (show decode (mB 1) 70 = .ok (.iload_n 3, 1) by decide +kernel) (pc' := 71) rfl rfl rfl ?_
  refine X_aload_n (q := 0) (show decode (mB 1) 71 = .ok (.aload_n 0, 1) by decide +kernel) (pc' := 72) rfl rfl rfl ?_
  refine X_getI (ci := 0) (f := 3) (x := I 13 3) (show decode (mB 1) 72 = .ok (.getfield 68, 3) by decide +kernel) (pc' := 75) rfl (ls_13 hL) (by decide +kernel) rfl rfl ?_
  exact X_icmp_ge (tgt := 109) (show decode (mB 1) 75 = .ok (.if_icmp .ge 34, 3) by decide +kernel) rfl (pc' := 78) rfl kt kf
set_option maxRecDepth 4000 in
theorem b_X0_run_78 {xs : Nat → Int32} {L d : Nat} {S : Nat → Shp} {I : Nat → Nat → Int32} {J : Nat → Nat → Int64} {R : Nat → Nat → Nat} {c : Nat × Nat} {Q : Option (Option Value) → MH → Prop} {r1 r2 : Nat} {x3 : Int32} (hL : Lay S R)  (k : X xs L d 6 0 [.ref 13, .int x3, .null] [] (S, I, J, R, c) (Kc xs L (d + 1) 1 83 [.ref 13, .ref r1, .ref r2, .int x3] [] Q)) : X xs L (d + 1) 1 78 [.ref 13, .ref r1, .ref r2, .int x3] [] (S, I, J, R, c) Q := by
  refine X_aload_n (q := 0) (show decode (mB 1) 78 = .ok (.aload_n 0, 1) by decide +kernel) (pc' := 79) rfl rfl rfl ?_
  refine X_iload_n (q := 3) (show decode (mB 1) 79 = .ok (.iload_n 3, 1) by decide +kernel) (pc' := 80) rfl rfl rfl ?_
  exact X_callV (y := 6) (n := 1) (st := [.int x3, .ref 13]) (as := [.ref 13, .int x3]) (rest := []) (ls0 := [.ref 13, .int x3, .null]) (ci := 0) (show decode (mB 1) 80 = .ok (.invokevirtual 77, 3) by decide +kernel) (pc' := 83) rfl (by decide +kernel) (by decide +kernel) rfl (ls_13 hL) (by decide +kernel) rfl rfl rfl rfl rfl k
set_option maxRecDepth 4000 in
theorem b_X0_run_83 {xs : Nat → Int32} {L d : Nat} {S : Nat → Shp} {I : Nat → Nat → Int32} {J : Nat → Nat → Int64} {R : Nat → Nat → Nat} {c : Nat × Nat} {Q : Option (Option Value) → MH → Prop} {r1 r2 : Nat} {x3 : Int32} (hL : Lay S R)  (k : X xs L d 7 0 [.ref 13, .int x3, .null, .null, .null, .null, .null] [] (S, I, J, R, c) (Kc xs L (d + 1) 1 88 [.ref 13, .ref r1, .ref r2, .int x3] [] Q)) : X xs L (d + 1) 1 83 [.ref 13, .ref r1, .ref r2, .int x3] [] (S, I, J, R, c) Q := by
  refine X_aload_n (q := 0) (show decode (mB 1) 83 = .ok (.aload_n 0, 1) by decide +kernel) (pc' := 84) rfl rfl rfl ?_
  refine X_iload_n (q := 3) (show decode (mB 1) 84 = .ok (.iload_n 3, 1) by decide +kernel) (pc' := 85) rfl rfl rfl ?_
  exact X_callV (y := 7) (n := 1) (st := [.int x3, .ref 13]) (as := [.ref 13, .int x3]) (rest := []) (ls0 := [.ref 13, .int x3, .null, .null, .null, .null, .null]) (ci := 0) (show decode (mB 1) 85 = .ok (.invokevirtual 81, 3) by decide +kernel) (pc' := 88) rfl (by decide +kernel) (by decide +kernel) rfl (ls_13 hL) (by decide +kernel) rfl rfl rfl rfl rfl k
set_option maxRecDepth 4000 in
theorem b_X0_run_88 {xs : Nat → Int32} {L d : Nat} {S : Nat → Shp} {I : Nat → Nat → Int32} {J : Nat → Nat → Int64} {R : Nat → Nat → Nat} {c : Nat × Nat} {Q : Option (Option Value) → MH → Prop} {r1 r2 : Nat} {x3 : Int32} (hL : Lay S R)  (k : X xs L d 8 0 [.ref 13, .int x3, .null, .null, .null, .null, .null, .null, .null] [] (S, I, J, R, c) (Kc xs L (d + 1) 1 93 [.ref 13, .ref r1, .ref r2, .int x3] [] Q)) : X xs L (d + 1) 1 88 [.ref 13, .ref r1, .ref r2, .int x3] [] (S, I, J, R, c) Q := by
  refine X_aload_n (q := 0) (show decode (mB 1) 88 = .ok (.aload_n 0, 1) by decide +kernel) (pc' := 89) rfl rfl rfl ?_
  refine X_iload_n (q := 3) (show decode (mB 1) 89 = .ok (.iload_n 3, 1) by decide +kernel) (pc' := 90) rfl rfl rfl ?_
  exact X_callV (y := 8) (n := 1) (st := [.int x3, .ref 13]) (as := [.ref 13, .int x3]) (rest := []) (ls0 := [.ref 13, .int x3, .null, .null, .null, .null, .null, .null, .null]) (ci := 0) (show decode (mB 1) 90 = .ok (.invokevirtual 84, 3) by decide +kernel) (pc' := 93) rfl (by decide +kernel) (by decide +kernel) rfl (ls_13 hL) (by decide +kernel) rfl rfl rfl rfl rfl k
set_option maxRecDepth 4000 in
theorem b_X0_run_93 {xs : Nat → Int32} {L d : Nat} {S : Nat → Shp} {I : Nat → Nat → Int32} {J : Nat → Nat → Int64} {R : Nat → Nat → Nat} {c : Nat × Nat} {Q : Option (Option Value) → MH → Prop} {r1 r2 : Nat} {x3 : Int32} (hL : Lay S R)  (k : X xs L d 9 0 [.ref 13, .int x3, .null, .null, .null, .null, .null, .null] [] (S, I, J, R, c) (Kc xs L (d + 1) 1 98 [.ref 13, .ref r1, .ref r2, .int x3] [] Q)) : X xs L (d + 1) 1 93 [.ref 13, .ref r1, .ref r2, .int x3] [] (S, I, J, R, c) Q := by
  refine X_aload_n (q := 0) (show decode (mB 1) 93 = .ok (.aload_n 0, 1) by decide +kernel) (pc' := 94) rfl rfl rfl ?_
  refine X_iload_n (q := 3) (show decode (mB 1) 94 = .ok (.iload_n 3, 1) by decide +kernel) (pc' := 95) rfl rfl rfl ?_
  exact X_callV (y := 9) (n := 1) (st := [.int x3, .ref 13]) (as := [.ref 13, .int x3]) (rest := []) (ls0 := [.ref 13, .int x3, .null, .null, .null, .null, .null, .null]) (ci := 0) (show decode (mB 1) 95 = .ok (.invokevirtual 87, 3) by decide +kernel) (pc' := 98) rfl (by decide +kernel) (by decide +kernel) rfl (ls_13 hL) (by decide +kernel) rfl rfl rfl rfl rfl k
set_option maxRecDepth 4000 in
theorem b_X0_run_98 {xs : Nat → Int32} {L d : Nat} {S : Nat → Shp} {I : Nat → Nat → Int32} {J : Nat → Nat → Int64} {R : Nat → Nat → Nat} {c : Nat × Nat} {Q : Option (Option Value) → MH → Prop} {r1 r2 : Nat} {x3 : Int32} (hL : Lay S R)  (k : X xs L d 11 0 [.ref 13, .int x3, .null, .null, .null, .null] [] (S, I, J, R, c) (Kc xs L (d + 1) 1 103 [.ref 13, .ref r1, .ref r2, .int x3] [] Q)) : X xs L (d + 1) 1 98 [.ref 13, .ref r1, .ref r2, .int x3] [] (S, I, J, R, c) Q := by
  refine X_aload_n (q := 0) (show decode (mB 1) 98 = .ok (.aload_n 0, 1) by decide +kernel) (pc' := 99) rfl rfl rfl ?_
  refine X_iload_n (q := 3) (show decode (mB 1) 99 = .ok (.iload_n 3, 1) by decide +kernel) (pc' := 100) rfl rfl rfl ?_
  exact X_callV (y := 11) (n := 1) (st := [.int x3, .ref 13]) (as := [.ref 13, .int x3]) (rest := []) (ls0 := [.ref 13, .int x3, .null, .null, .null, .null]) (ci := 0) (show decode (mB 1) 100 = .ok (.invokevirtual 90, 3) by decide +kernel) (pc' := 103) rfl (by decide +kernel) (by decide +kernel) rfl (ls_13 hL) (by decide +kernel) rfl rfl rfl rfl rfl k
set_option maxRecDepth 4000 in
theorem b_X0_run_103 {xs : Nat → Int32} {L d : Nat} {S : Nat → Shp} {I : Nat → Nat → Int32} {J : Nat → Nat → Int64} {R : Nat → Nat → Nat} {c : Nat × Nat} {Q : Option (Option Value) → MH → Prop} {r1 r2 : Nat} {x3 : Int32}  (k : X xs L (d + 1) 1 70 [.ref 13, .ref r1, .ref r2, .int (x3 + 1)] [] (S, I, J, R, c) Q) : X xs L (d + 1) 1 103 [.ref 13, .ref r1, .ref r2, .int x3] [] (S, I, J, R, c) Q := by
  refine X_iinc (q := 3) (v := x3 + 1) (ls' := [.ref 13, .ref r1, .ref r2, .int (x3 + 1)]) (show decode (mB 1) 103 = .ok (.iinc 3 1, 3) by decide +kernel) (pc' := 106) rfl rfl rfl rfl ?_
  refine X_goto (tgt := 70) (show decode (mB 1) 106 = .ok (.goto (-36), 3) by decide +kernel) rfl ?_
  exact k
set_option maxRecDepth 4000 in
theorem b_X0_run_109 {xs : Nat → Int32} {L d : Nat} {S : Nat → Shp} {I : Nat → Nat → Int32} {J : Nat → Nat → Int64} {R : Nat → Nat → Nat} {c : Nat × Nat} {Q : Option (Option Value) → MH → Prop} {r1 r2 : Nat} {x3 : Int32}  (k : Q (some none) (S, I, J, R, c)) : X xs L (d + 1) 1 109 [.ref 13, .ref r1, .ref r2, .int x3] [] (S, I, J, R, c) Q := by
  exact X_return (show decode (mB 1) 109 = .ok (.return_, 1) by decide +kernel) (by decide +kernel) k
set_option maxRecDepth 4000 in
theorem b_X0_clauseRow_0 {xs : Nat → Int32} {L d : Nat} {S : Nat → Shp} {I : Nat → Nat → Int32} {J : Nat → Nat → Int64} {R : Nat → Nat → Nat} {c : Nat × Nat} {Q : Option (Option Value) → MH → Prop} {x0 x1 : Int32}  (k : Q (some (some (.int ((x0 * 48) + x1)))) (S, I, J, R, c)) : X xs L d 2 0 [.int x0, .int x1] [] (S, I, J, R, c) Q := by
  refine X_iload_n (q := 0) (show decode (mB 2) 0 = .ok (.iload_n 0, 1) by decide +kernel) (pc' := 1) rfl rfl rfl ?_
  refine X_bipush (v := 48) (show decode (mB 2) 1 = .ok (.bipush 48, 2) by decide +kernel) (pc' := 3) rfl (by decide +kernel) ?_
  refine X_imul (show decode (mB 2) 3 = .ok (.imul, 1) by decide +kernel) (pc' := 4) rfl ?_
  refine X_iload_n (q := 1) (show decode (mB 2) 4 = .ok (.iload_n 1, 1) by decide +kernel) (pc' := 5) rfl rfl rfl ?_
  refine X_iadd (show decode (mB 2) 5 = .ok (.iadd, 1) by decide +kernel) (pc' := 6) rfl ?_
  exact X_ireturn (ty := .int) (show decode (mB 2) 6 = .ok (.ireturn, 1) by decide +kernel) (by decide +kernel) rfl k
set_option maxRecDepth 4000 in
theorem b_X0_row_0 {xs : Nat → Int32} {L d : Nat} {S : Nat → Shp} {I : Nat → Nat → Int32} {J : Nat → Nat → Int64} {R : Nat → Nat → Nat} {c : Nat × Nat} {Q : Option (Option Value) → MH → Prop} {x0 x1 : Int32}  (k : Q (some (some (.int (((x0 * 12) + x1) * 40)))) (S, I, J, R, c)) : X xs L d 3 0 [.int x0, .int x1] [] (S, I, J, R, c) Q := by
  refine X_iload_n (q := 0) (show decode (mB 3) 0 = .ok (.iload_n 0, 1) by decide +kernel) (pc' := 1) rfl rfl rfl ?_
  refine X_bipush (v := 12) (show decode (mB 3) 1 = .ok (.bipush 12, 2) by decide +kernel) (pc' := 3) rfl (by decide +kernel) ?_
  refine X_imul (show decode (mB 3) 3 = .ok (.imul, 1) by decide +kernel) (pc' := 4) rfl ?_
  refine X_iload_n (q := 1) (show decode (mB 3) 4 = .ok (.iload_n 1, 1) by decide +kernel) (pc' := 5) rfl rfl rfl ?_
  refine X_iadd (show decode (mB 3) 5 = .ok (.iadd, 1) by decide +kernel) (pc' := 6) rfl ?_
  refine X_bipush (v := 40) (show decode (mB 3) 6 = .ok (.bipush 40, 2) by decide +kernel) (pc' := 8) rfl (by decide +kernel) ?_
  refine X_imul (show decode (mB 3) 8 = .ok (.imul, 1) by decide +kernel) (pc' := 9) rfl ?_
  exact X_ireturn (ty := .int) (show decode (mB 3) 9 = .ok (.ireturn, 1) by decide +kernel) (by decide +kernel) rfl k
set_option maxRecDepth 4000 in
theorem b_X0_lanesWith_0 {xs : Nat → Int32} {L d : Nat} {S : Nat → Shp} {I : Nat → Nat → Int32} {J : Nat → Nat → Int64} {R : Nat → Nat → Nat} {c : Nat × Nat} {Q : Option (Option Value) → MH → Prop} {x0 x1 : Int32}  (kt : 6 ≤ x0 → X xs L d 4 12 [.int x0, .int x1] [] (S, I, J, R, c) Q) (kf : ¬ (6 ≤ x0) → X xs L d 4 6 [.int x0, .int x1] [] (S, I, J, R, c) Q) : X xs L d 4 0 [.int x0, .int x1] [] (S, I, J, R, c) Q := by
  refine X_iload_n (q := 0) (show decode (mB 4) 0 = .ok (.iload_n 0, 1) by decide +kernel) (pc' := 1) rfl rfl rfl ?_
  refine X_bipush (v := 6) (show decode (mB 4) 1 = .ok (.bipush 6, 2) by decide +kernel) (pc' := 3) rfl (by decide +kernel) ?_
  exact X_icmp_ge (tgt := 12) (show decode (mB 4) 3 = .ok (.if_icmp .ge 9, 3) by decide +kernel) rfl (pc' := 6) rfl kt kf
set_option maxRecDepth 4000 in
theorem b_X0_lanesWith_6 {xs : Nat → Int32} {L d : Nat} {S : Nat → Shp} {I : Nat → Nat → Int32} {J : Nat → Nat → Int64} {R : Nat → Nat → Nat} {c : Nat × Nat} {Q : Option (Option Value) → MH → Prop} {x0 x1 : Int32} (hb10 : inb x0 (jTab 1).length = true) (k : Q (some (some (.long ((jTab 1).getD x0.toNatClampNeg 0)))) (S, I, J, R, c)) : X xs L d 4 6 [.int x0, .int x1] [] (S, I, J, R, c) Q := by
  refine X_gets (e := 1) (show decode (mB 4) 6 = .ok (.getstatic 93, 3) by decide +kernel) (pc' := 9) rfl (by decide +kernel) ?_
  refine X_iload_n (q := 0) (show decode (mB 4) 9 = .ok (.iload_n 0, 1) by decide +kernel) (pc' := 10) rfl rfl rfl ?_
  refine X_tlaload (e := 1) (show decode (mB 4) 10 = .ok (.laload, 1) by decide +kernel) (pc' := 11) rfl hb10 ?_
  exact X_lreturn (show decode (mB 4) 11 = .ok (.lreturn, 1) by decide +kernel) (by decide +kernel) k
set_option maxRecDepth 4000 in
theorem b_X0_lanesWith_12 {xs : Nat → Int32} {L d : Nat} {S : Nat → Shp} {I : Nat → Nat → Int32} {J : Nat → Nat → Int64} {R : Nat → Nat → Nat} {c : Nat × Nat} {Q : Option (Option Value) → MH → Prop} {x0 x1 : Int32}  (kt : ¬ ((x1 >>> ((x0 - 6) &&& 31)) &&& 1) = 1 → X xs L d 4 30 [.int x0, .int x1] [] (S, I, J, R, c) Q) (kf : ¬ (¬ ((x1 >>> ((x0 - 6) &&& 31)) &&& 1) = 1) → X xs L d 4 24 [.int x0, .int x1] [] (S, I, J, R, c) Q) : X xs L d 4 12 [.int x0, .int x1] [] (S, I, J, R, c) Q := by
  refine X_iload_n (q := 1) (show decode (mB 4) 12 = .ok (.iload_n 1, 1) by decide +kernel) (pc' := 13) rfl rfl rfl ?_
  refine X_iload_n (q := 0) (show decode (mB 4) 13 = .ok (.iload_n 0, 1) by decide +kernel) (pc' := 14) rfl rfl rfl ?_
  refine X_bipush (v := 6) (show decode (mB 4) 14 = .ok (.bipush 6, 2) by decide +kernel) (pc' := 16) rfl (by decide +kernel) ?_
  refine X_isub (show decode (mB 4) 16 = .ok (.isub, 1) by decide +kernel) (pc' := 17) rfl ?_
  refine X_ishr (show decode (mB 4) 17 = .ok (.ishr, 1) by decide +kernel) (pc' := 18) rfl ?_
  refine X_iconst (v := 1) (show decode (mB 4) 18 = .ok (.iconst 1, 1) by decide +kernel) (pc' := 19) rfl rfl ?_
  refine X_iand (show decode (mB 4) 19 = .ok (.iand, 1) by decide +kernel) (pc' := 20) rfl ?_
  refine X_iconst (v := 1) (show decode (mB 4) 20 = .ok (.iconst 1, 1) by decide +kernel) (pc' := 21) rfl rfl ?_
  exact X_icmp_ne (tgt := 30) (show decode (mB 4) 21 = .ok (.if_icmp .ne 9, 3) by decide +kernel) rfl (pc' := 24) rfl kt kf
set_option maxRecDepth 4000 in
theorem b_X0_lanesWith_24 {xs : Nat → Int32} {L d : Nat} {S : Nat → Shp} {I : Nat → Nat → Int32} {J : Nat → Nat → Int64} {R : Nat → Nat → Nat} {c : Nat × Nat} {Q : Option (Option Value) → MH → Prop} {x0 x1 : Int32}  (k : X xs L d 4 31 [.int x0, .int x1] [.long (-1)] (S, I, J, R, c) Q) : X xs L d 4 24 [.int x0, .int x1] [] (S, I, J, R, c) Q := by
  refine X_ldc2 (v := (-1)) (show decode (mB 4) 24 = .ok (.ldc2_w 71, 3) by decide +kernel) (pc' := 27) rfl (by decide +kernel) ?_
  refine X_goto (tgt := 31) (show decode (mB 4) 27 = .ok (.goto 4, 3) by decide +kernel) rfl ?_
  exact k
set_option maxRecDepth 4000 in
theorem b_X0_lanesWith_30 {xs : Nat → Int32} {L d : Nat} {S : Nat → Shp} {I : Nat → Nat → Int32} {J : Nat → Nat → Int64} {R : Nat → Nat → Nat} {c : Nat × Nat} {Q : Option (Option Value) → MH → Prop} {x0 x1 : Int32}  (k : X xs L d 4 31 [.int x0, .int x1] [.long 0] (S, I, J, R, c) Q) : X xs L d 4 30 [.int x0, .int x1] [] (S, I, J, R, c) Q := by
  refine X_lconst (v := 0) (show decode (mB 4) 30 = .ok (.lconst 0, 1) by decide +kernel) (pc' := 31) rfl rfl ?_
  exact k
set_option maxRecDepth 4000 in
theorem b_X0_lanesWith_31 {xs : Nat → Int32} {L d : Nat} {S : Nat → Shp} {I : Nat → Nat → Int32} {J : Nat → Nat → Int64} {R : Nat → Nat → Nat} {c : Nat × Nat} {Q : Option (Option Value) → MH → Prop} {x0 x1 : Int32} {sy0 : Int64}  (k : Q (some (some (.long sy0))) (S, I, J, R, c)) : X xs L d 4 31 [.int x0, .int x1] [.long sy0] (S, I, J, R, c) Q := by
  exact X_lreturn (show decode (mB 4) 31 = .ok (.lreturn, 1) by decide +kernel) (by decide +kernel) k
set_option maxRecDepth 4000 in
theorem b_X0_bitOf_0 {xs : Nat → Int32} {L d : Nat} {S : Nat → Shp} {I : Nat → Nat → Int32} {J : Nat → Nat → Int64} {R : Nat → Nat → Nat} {c : Nat × Nat} {Q : Option (Option Value) → MH → Prop} {x1 : Int32} {q_13_1 : Nat} (hL : Lay S R) (hq_13_1 : R 13 1 = q_13_1) (h_q_13_1 : LyCm S R q_13_1) (k : Q (some (some (.int (((I q_13_1 0) - 1) - x1)))) (S, I, J, R, c)) : X xs L d 5 0 [.ref 13, .int x1] [] (S, I, J, R, c) Q := by
  refine X_aload_n (q := 0) (show decode (mB 5) 0 = .ok (.aload_n 0, 1) by decide +kernel) (pc' := 1) rfl rfl rfl ?_
  refine X_getR (ci := 0) (f := 1) (q := q_13_1) (show decode (mB 5) 1 = .ok (.getfield 51, 3) by decide +kernel) (pc' := 4) rfl (ls_13 hL) (by decide +kernel) rfl hq_13_1 ?_
  refine X_getI (ci := 3) (f := 0) (x := I q_13_1 0) (show decode (mB 5) 4 = .ok (.getfield 55, 3) by decide +kernel) (pc' := 7) rfl h_q_13_1.s0 (by decide +kernel) rfl rfl ?_
  refine X_iconst (v := 1) (show decode (mB 5) 7 = .ok (.iconst 1, 1) by decide +kernel) (pc' := 8) rfl rfl ?_
  refine X_isub (show decode (mB 5) 8 = .ok (.isub, 1) by decide +kernel) (pc' := 9) rfl ?_
  refine X_iload_n (q := 1) (show decode (mB 5) 9 = .ok (.iload_n 1, 1) by decide +kernel) (pc' := 10) rfl rfl rfl ?_
  refine X_isub (show decode (mB 5) 10 = .ok (.isub, 1) by decide +kernel) (pc' := 11) rfl ?_
  exact X_ireturn (ty := .int) (show decode (mB 5) 11 = .ok (.ireturn, 1) by decide +kernel) (by decide +kernel) rfl k
set_option maxRecDepth 4000 in
theorem b_X0_setVariables_0 {xs : Nat → Int32} {L d : Nat} {S : Nat → Shp} {I : Nat → Nat → Int32} {J : Nat → Nat → Int64} {R : Nat → Nat → Nat} {c : Nat × Nat} {Q : Option (Option Value) → MH → Prop} {x1 : Int32}  (k : X xs L (d + 1) 6 2 [.ref 13, .int x1, .int 0] [] (S, I, J, R, c) Q) : X xs L (d + 1) 6 0 [.ref 13, .int x1, .null] [] (S, I, J, R, c) Q := by
  refine X_iconst (v := 0) (show decode (mB 6) 0 = .ok (.iconst 0, 1) by decide +kernel) (pc' := 1) rfl rfl ?_
  refine X_istore_n (q := 2) (ls' := [.ref 13, .int x1, .int 0]) (show decode (mB 6) 1 = .ok (.istore_n 2, 1) by decide +kernel) (pc' := 2) rfl rfl rfl ?_
  exact k
set_option maxRecDepth 4000 in
theorem b_X0_setVariables_2 {xs : Nat → Int32} {L d : Nat} {S : Nat → Shp} {I : Nat → Nat → Int32} {J : Nat → Nat → Int64} {R : Nat → Nat → Nat} {c : Nat × Nat} {Q : Option (Option Value) → MH → Prop} {x1 x2 : Int32} {q_13_1 : Nat} (hL : Lay S R) (hq_13_1 : R 13 1 = q_13_1) (h_q_13_1 : LyCm S R q_13_1) (kt : (I q_13_1 0) ≤ x2 → X xs L (d + 1) 6 50 [.ref 13, .int x1, .int x2] [] (S, I, J, R, c) Q) (kf : ¬ ((I q_13_1 0) ≤ x2) → X xs L (d + 1) 6 13 [.ref 13, .int x1, .int x2] [] (S, I, J, R, c) Q) : X xs L (d + 1) 6 2 [.ref 13, .int x1, .int x2] [] (S, I, J, R, c) Q := by
  refine X_iload_n (q := 2) (show decode (mB 6) 2 = .ok (.iload_n 2, 1) by decide +kernel) (pc' := 3) rfl rfl rfl ?_
  refine X_aload_n (q := 0) (show decode (mB 6) 3 = .ok (.aload_n 0, 1) by decide +kernel) (pc' := 4) rfl rfl rfl ?_
  refine X_getR (ci := 0) (f := 1) (q := q_13_1) (show decode (mB 6) 4 = .ok (.getfield 51, 3) by decide +kernel) (pc' := 7) rfl (ls_13 hL) (by decide +kernel) rfl hq_13_1 ?_
  refine X_getI (ci := 3) (f := 0) (x := I q_13_1 0) (show decode (mB 6) 7 = .ok (.getfield 55, 3) by decide +kernel) (pc' := 10) rfl h_q_13_1.s0 (by decide +kernel) rfl rfl ?_
  exact X_icmp_ge (tgt := 50) (show decode (mB 6) 10 = .ok (.if_icmp .ge 40, 3) by decide +kernel) rfl (pc' := 13) rfl kt kf
set_option maxRecDepth 4000 in
theorem b_X0_setVariables_13 {xs : Nat → Int32} {L d : Nat} {S : Nat → Shp} {I : Nat → Nat → Int32} {J : Nat → Nat → Int64} {R : Nat → Nat → Nat} {c : Nat × Nat} {Q : Option (Option Value) → MH → Prop} {x1 x2 : Int32} (hL : Lay S R)  (k : X xs L d 5 0 [.ref 13, .int x2] [] (S, I, J, R, c) (Kc xs L (d + 1) 6 23 [.ref 13, .int x1, .int x2] [.int x2, .ref 17] Q)) : X xs L (d + 1) 6 13 [.ref 13, .int x1, .int x2] [] (S, I, J, R, c) Q := by
  refine X_aload_n (q := 0) (show decode (mB 6) 13 = .ok (.aload_n 0, 1) by decide +kernel) (pc' := 14) rfl rfl rfl ?_
  refine X_getR (ci := 0) (f := 6) (q := 17) (show decode (mB 6) 14 = .ok (.getfield 20, 3) by decide +kernel) (pc' := 17) rfl (ls_13 hL) (by decide +kernel) rfl (lr_13_6 hL) ?_
  refine X_iload_n (q := 2) (show decode (mB 6) 17 = .ok (.iload_n 2, 1) by decide +kernel) (pc' := 18) rfl rfl rfl ?_
  refine X_aload_n (q := 0) (show decode (mB 6) 18 = .ok (.aload_n 0, 1) by decide +kernel) (pc' := 19) rfl rfl rfl ?_
  refine X_iload_n (q := 2) (show decode (mB 6) 19 = .ok (.iload_n 2, 1) by decide +kernel) (pc' := 20) rfl rfl rfl ?_
  exact X_callV (y := 5) (n := 1) (st := [.int x2, .ref 13, .int x2, .ref 17]) (as := [.ref 13, .int x2]) (rest := [.int x2, .ref 17]) (ls0 := [.ref 13, .int x2]) (ci := 0) (show decode (mB 6) 20 = .ok (.invokevirtual 96, 3) by decide +kernel) (pc' := 23) rfl (by decide +kernel) (by decide +kernel) rfl (ls_13 hL) (by decide +kernel) rfl rfl rfl rfl rfl k
set_option maxRecDepth 4000 in
theorem b_X0_setVariables_23 {xs : Nat → Int32} {L d : Nat} {S : Nat → Shp} {I : Nat → Nat → Int32} {J : Nat → Nat → Int64} {R : Nat → Nat → Nat} {c : Nat × Nat} {Q : Option (Option Value) → MH → Prop} {x1 x2 sx1 sx2 : Int32}  (k : X xs L d 4 0 [.int sx2, .int x1] [] (S, I, J, R, c) (Kc xs L (d + 1) 6 27 [.ref 13, .int x1, .int x2] [.int sx1, .ref 17] Q)) : X xs L (d + 1) 6 23 [.ref 13, .int x1, .int x2] [.int sx2, .int sx1, .ref 17] (S, I, J, R, c) Q := by
  refine X_iload_n (q := 1) (show decode (mB 6) 23 = .ok (.iload_n 1, 1) by decide +kernel) (pc' := 24) rfl rfl rfl ?_
  exact X_callS (y := 4) (n := 2) (st := [.int x1, .int sx2, .int sx1, .ref 17]) (as := [.int sx2, .int x1]) (rest := [.int sx1, .ref 17]) (ls0 := [.int sx2, .int x1]) (show decode (mB 6) 24 = .ok (.invokestatic 100, 3) by decide +kernel) (pc' := 27) rfl (by decide +kernel) (by decide +kernel) rfl rfl rfl rfl rfl rfl rfl rfl k
set_option maxRecDepth 4000 in
theorem b_X0_setVariables_27 {xs : Nat → Int32} {L d : Nat} {S : Nat → Shp} {I : Nat → Nat → Int32} {J : Nat → Nat → Int64} {R : Nat → Nat → Nat} {c : Nat × Nat} {Q : Option (Option Value) → MH → Prop} {x1 x2 sx1 : Int32} {sy2 : Int64} (hL : Lay S R) (hb27 : inb sx1 9 = true) (hb38 : inb x2 9 = true) (hb43 : inb x2 9 = true) (k : X xs L (d + 1) 6 2 [.ref 13, .int x1, .int (x2 + 1)] [] (S, I, (u2 (u2 J 17 sx1.toNatClampNeg sy2) 18 x2.toNatClampNeg (((u2 J 17 sx1.toNatClampNeg sy2) 17 x2.toNatClampNeg) ^^^ (-1))), R, c) Q) : X xs L (d + 1) 6 27 [.ref 13, .int x1, .int x2] [.long sy2, .int sx1, .ref 17] (S, I, J, R, c) Q := by
  refine X_lastore (show decode (mB 6) 27 = .ok (.lastore, 1) by decide +kernel) (pc' := 28) rfl (ls_17 hL) hb27 ?_
  refine X_aload_n (q := 0) (show decode (mB 6) 28 = .ok (.aload_n 0, 1) by decide +kernel) (pc' := 29) rfl rfl rfl ?_
  refine X_getR (ci := 0) (f := 7) (q := 18) (show decode (mB 6) 29 = .ok (.getfield 24, 3) by decide +kernel) (pc' := 32) rfl (ls_13 hL) (by decide +kernel) rfl (lr_13_7 hL) ?_
  refine X_iload_n (q := 2) (show decode (mB 6) 32 = .ok (.iload_n 2, 1) by decide +kernel) (pc' := 33) rfl rfl rfl ?_
  refine X_aload_n (q := 0) (show decode (mB 6) 33 = .ok (.aload_n 0, 1) by decide +kernel) (pc' := 34) rfl rfl rfl ?_
  refine X_getR (ci := 0) (f := 6) (q := 17) (show decode (mB 6) 34 = .ok (.getfield 20, 3) by decide +kernel) (pc' := 37) rfl (ls_13 hL) (by decide +kernel) rfl (lr_13_6 hL) ?_
  refine X_iload_n (q := 2) (show decode (mB 6) 37 = .ok (.iload_n 2, 1) by decide +kernel) (pc' := 38) rfl rfl rfl ?_
  refine X_laload (w := (u2 J 17 sx1.toNatClampNeg sy2) 17 x2.toNatClampNeg) (show decode (mB 6) 38 = .ok (.laload, 1) by decide +kernel) (pc' := 39) rfl (ls_17 hL) hb38 rfl ?_
  refine X_ldc2 (v := (-1)) (show decode (mB 6) 39 = .ok (.ldc2_w 71, 3) by decide +kernel) (pc' := 42) rfl (by decide +kernel) ?_
  refine X_lxor (show decode (mB 6) 42 = .ok (.lxor, 1) by decide +kernel) (pc' := 43) rfl ?_
  refine X_lastore (show decode (mB 6) 43 = .ok (.lastore, 1) by decide +kernel) (pc' := 44) rfl (ls_18 hL) hb43 ?_
  refine X_iinc (q := 2) (v := x2 + 1) (ls' := [.ref 13, .int x1, .int (x2 + 1)]) (show decode (mB 6) 44 = .ok (.iinc 2 1, 3) by decide +kernel) (pc' := 47) rfl rfl rfl rfl ?_
  refine X_goto (tgt := 2) (show decode (mB 6) 47 = .ok (.goto (-45), 3) by decide +kernel) rfl ?_
  exact k
set_option maxRecDepth 4000 in
theorem b_X0_setVariables_50 {xs : Nat → Int32} {L d : Nat} {S : Nat → Shp} {I : Nat → Nat → Int32} {J : Nat → Nat → Int64} {R : Nat → Nat → Nat} {c : Nat × Nat} {Q : Option (Option Value) → MH → Prop} {x1 x2 : Int32}  (k : Q (some none) (S, I, J, R, c)) : X xs L (d + 1) 6 50 [.ref 13, .int x1, .int x2] [] (S, I, J, R, c) Q := by
  exact X_return (show decode (mB 6) 50 = .ok (.return_, 1) by decide +kernel) (by decide +kernel) k
set_option maxRecDepth 4000 in
theorem b_X0_workOutClauses_0 {xs : Nat → Int32} {L d : Nat} {S : Nat → Shp} {I : Nat → Nat → Int32} {J : Nat → Nat → Int64} {R : Nat → Nat → Nat} {c : Nat × Nat} {Q : Option (Option Value) → MH → Prop} {x1 : Int32}  (k : X xs L (d + 1) 7 2 [.ref 13, .int x1, .int 0, .null, .null, .null, .null] [] (S, I, J, R, c) Q) : X xs L (d + 1) 7 0 [.ref 13, .int x1, .null, .null, .null, .null, .null] [] (S, I, J, R, c) Q := by
  refine X_iconst (v := 0) (show decode (mB 7) 0 = .ok (.iconst 0, 1) by decide +kernel) (pc' := 1) rfl rfl ?_
  refine X_istore_n (q := 2) (ls' := [.ref 13, .int x1, .int 0, .null, .null, .null, .null]) (show decode (mB 7) 1 = .ok (.istore_n 2, 1) by decide +kernel) (pc' := 2) rfl rfl rfl ?_
  exact k
set_option maxRecDepth 4000 in
theorem b_X0_workOutClauses_2 {xs : Nat → Int32} {L d : Nat} {S : Nat → Shp} {I : Nat → Nat → Int32} {J : Nat → Nat → Int64} {R : Nat → Nat → Nat} {c : Nat × Nat} {Q : Option (Option Value) → MH → Prop} {x1 x2 : Int32} {v3 v4 v5 v6 : Value} {q_13_1 : Nat} (hL : Lay S R) (hq_13_1 : R 13 1 = q_13_1) (h_q_13_1 : LyCm S R q_13_1) (kt : (I q_13_1 3) ≤ x2 → X xs L (d + 1) 7 152 [.ref 13, .int x1, .int x2, v3, v4, v5, v6] [] (S, I, J, R, c) Q) (kf : ¬ ((I q_13_1 3) ≤ x2) → X xs L (d + 1) 7 13 [.ref 13, .int x1, .int x2, v3, v4, v5, v6] [] (S, I, J, R, c) Q) : X xs L (d + 1) 7 2 [.ref 13, .int x1, .int x2, v3, v4, v5, v6] [] (S, I, J, R, c) Q := by
  refine X_iload_n (q := 2) (show decode (mB 7) 2 = .ok (.iload_n 2, 1) by decide +kernel) (pc' := 3) rfl rfl rfl ?_
  refine X_aload_n (q := 0) (show decode (mB 7) 3 = .ok (.aload_n 0, 1) by decide +kernel) (pc' := 4) rfl rfl rfl ?_
  refine X_getR (ci := 0) (f := 1) (q := q_13_1) (show decode (mB 7) 4 = .ok (.getfield 51, 3) by decide +kernel) (pc' := 7) rfl (ls_13 hL) (by decide +kernel) rfl hq_13_1 ?_
  refine X_getI (ci := 3) (f := 3) (x := I q_13_1 3) (show decode (mB 7) 7 = .ok (.getfield 104, 3) by decide +kernel) (pc' := 10) rfl h_q_13_1.s0 (by decide +kernel) rfl rfl ?_
  exact X_icmp_ge (tgt := 152) (show decode (mB 7) 10 = .ok (.if_icmp .ge 142, 3) by decide +kernel) rfl (pc' := 13) rfl kt kf
set_option maxRecDepth 4000 in
theorem b_X0_workOutClauses_13 {xs : Nat → Int32} {L d : Nat} {S : Nat → Shp} {I : Nat → Nat → Int32} {J : Nat → Nat → Int64} {R : Nat → Nat → Nat} {c : Nat × Nat} {Q : Option (Option Value) → MH → Prop} {x1 x2 : Int32} {v3 v4 v5 v6 : Value} {q_13_1 : Nat} (hL : Lay S R) (hq_13_1 : R 13 1 = q_13_1) (h_q_13_1 : LyCm S R q_13_1) (hb21 : inb x2 48 = true) (hb31 : inb x2 48 = true) (hb42 : inb x2 48 = true) (k : X xs L d 2 0 [.int x1, .int x2] [] (S, I, J, R, c) (Kc xs L (d + 1) 7 50 [.ref 13, .int x1, .int x2, .int (I (q_13_1 + 5) x2.toNatClampNeg), .int (I (q_13_1 + 6) x2.toNatClampNeg), .int (I (q_13_1 + 7) x2.toNatClampNeg), v6] [] Q)) : X xs L (d + 1) 7 13 [.ref 13, .int x1, .int x2, v3, v4, v5, v6] [] (S, I, J, R, c) Q := by
  refine X_aload_n (q := 0) (show decode (mB 7) 13 = .ok (.aload_n 0, 1) by decide +kernel) (pc' := 14) rfl rfl rfl ?_
  refine X_getR (ci := 0) (f := 1) (q := q_13_1) (show decode (mB 7) 14 = .ok (.getfield 51, 3) by decide +kernel) (pc' := 17) rfl (ls_13 hL) (by decide +kernel) rfl hq_13_1 ?_
  refine X_getR (ci := 3) (f := 8) (q := (q_13_1 + 5)) (show decode (mB 7) 17 = .ok (.getfield 107, 3) by decide +kernel) (pc' := 20) rfl h_q_13_1.s0 (by decide +kernel) rfl h_q_13_1.r0_8 ?_
  refine X_iload_n (q := 2) (show decode (mB 7) 20 = .ok (.iload_n 2, 1) by decide +kernel) (pc' := 21) rfl rfl rfl ?_
  refine X_iaload (w := I (q_13_1 + 5) x2.toNatClampNeg) (show decode (mB 7) 21 = .ok (.iaload, 1) by decide +kernel) (pc' := 22) rfl h_q_13_1.s5 hb21 rfl ?_
  refine X_istore_n (q := 3) (ls' := [.ref 13, .int x1, .int x2, .int (I (q_13_1 + 5) x2.toNatClampNeg), v4, v5, v6]) (show decode (mB 7) 22 = .ok (.istore_n 3, 1) by decide +kernel) (pc' := 23) rfl rfl rfl ?_
  refine X_aload_n (q := 0) (show decode (mB 7) 23 = .ok (.aload_n 0, 1) by decide +kernel) (pc' := 24) rfl rfl rfl ?_
  refine X_getR (ci := 0) (f := 1) (q := q_13_1) (show decode (mB 7) 24 = .ok (.getfield 51, 3) by decide +kernel) (pc' := 27) rfl (ls_13 hL) (by decide +kernel) rfl hq_13_1 ?_
  refine X_getR (ci := 3) (f := 9) (q := (q_13_1 + 6)) (show decode (mB 7) 27 = .ok (.getfield 111, 3) by decide +kernel) (pc' := 30) rfl h_q_13_1.s0 (by decide +kernel) rfl h_q_13_1.r0_9 ?_
  refine X_iload_n (q := 2) (show decode (mB 7) 30 = .ok (.iload_n 2, 1) by decide +kernel) (pc' := 31) rfl rfl rfl ?_
  refine X_iaload (w := I (q_13_1 + 6) x2.toNatClampNeg) (show decode (mB 7) 31 = .ok (.iaload, 1) by decide +kernel) (pc' := 32) rfl h_q_13_1.s6 hb31 rfl ?_
  refine X_istore (q := 4) (ls' := [.ref 13, .int x1, .int x2, .int (I (q_13_1 + 5) x2.toNatClampNeg), .int (I (q_13_1 + 6) x2.toNatClampNeg), v5, v6]) (show decode (mB 7) 32 = .ok (.istore 4, 2) by decide +kernel) (pc' := 34) rfl rfl ?_
  refine X_aload_n (q := 0) (show decode (mB 7) 34 = .ok (.aload_n 0, 1) by decide +kernel) (pc' := 35) rfl rfl rfl ?_
  refine X_getR (ci := 0) (f := 1) (q := q_13_1) (show decode (mB 7) 35 = .ok (.getfield 51, 3) by decide +kernel) (pc' := 38) rfl (ls_13 hL) (by decide +kernel) rfl hq_13_1 ?_
  refine X_getR (ci := 3) (f := 10) (q := (q_13_1 + 7)) (show decode (mB 7) 38 = .ok (.getfield 114, 3) by decide +kernel) (pc' := 41) rfl h_q_13_1.s0 (by decide +kernel) rfl h_q_13_1.r0_10 ?_
  refine X_iload_n (q := 2) (show decode (mB 7) 41 = .ok (.iload_n 2, 1) by decide +kernel) (pc' := 42) rfl rfl rfl ?_
  refine X_iaload (w := I (q_13_1 + 7) x2.toNatClampNeg) (show decode (mB 7) 42 = .ok (.iaload, 1) by decide +kernel) (pc' := 43) rfl h_q_13_1.s7 hb42 rfl ?_
  refine X_istore (q := 5) (ls' := [.ref 13, .int x1, .int x2, .int (I (q_13_1 + 5) x2.toNatClampNeg), .int (I (q_13_1 + 6) x2.toNatClampNeg), .int (I (q_13_1 + 7) x2.toNatClampNeg), v6]) (show decode (mB 7) 43 = .ok (.istore 5, 2) by decide +kernel) (pc' := 45) rfl rfl ?_
  refine X_iload_n (q := 1) (show decode (mB 7) 45 = .ok (.iload_n 1, 1) by decide +kernel) (pc' := 46) rfl rfl rfl ?_
  refine X_iload_n (q := 2) (show decode (mB 7) 46 = .ok (.iload_n 2, 1) by decide +kernel) (pc' := 47) rfl rfl rfl ?_
  exact X_callS (y := 2) (n := 2) (st := [.int x2, .int x1]) (as := [.int x1, .int x2]) (rest := []) (ls0 := [.int x1, .int x2]) (show decode (mB 7) 47 = .ok (.invokestatic 117, 3) by decide +kernel) (pc' := 50) rfl (by decide +kernel) (by decide +kernel) rfl rfl rfl rfl rfl rfl rfl rfl k
set_option maxRecDepth 4000 in
theorem b_X0_workOutClauses_50 {xs : Nat → Int32} {L d : Nat} {S : Nat → Shp} {I : Nat → Nat → Int32} {J : Nat → Nat → Int64} {R : Nat → Nat → Nat} {c : Nat × Nat} {Q : Option (Option Value) → MH → Prop} {x1 x2 x3 x4 x5 sx0 : Int32} {v6 : Value} {q_13_1 : Nat} (hL : Lay S R) (hq_13_1 : R 13 1 = q_13_1) (h_q_13_1 : LyCm S R q_13_1) (k : X xs L d 72 0 [.ref 14, .ref (q_13_1 + 8), .int x3, .int x4, .ref 17, .ref 18, .int 0, .null, .null] [] (S, I, J, R, c) (Kc xs L (d + 1) 7 78 [.ref 13, .int x1, .int x2, .int x3, .int x4, .int x5, .int sx0] [] Q)) : X xs L (d + 1) 7 50 [.ref 13, .int x1, .int x2, .int x3, .int x4, .int x5, v6] [.int sx0] (S, I, J, R, c) Q := by
  refine X_istore (q := 6) (ls' := [.ref 13, .int x1, .int x2, .int x3, .int x4, .int x5, .int sx0]) (show decode (mB 7) 50 = .ok (.istore 6, 2) by decide +kernel) (pc' := 52) rfl rfl ?_
  refine X_aload_n (q := 0) (show decode (mB 7) 52 = .ok (.aload_n 0, 1) by decide +kernel) (pc' := 53) rfl rfl rfl ?_
  refine X_getR (ci := 0) (f := 5) (q := 14) (show decode (mB 7) 53 = .ok (.getfield 12, 3) by decide +kernel) (pc' := 56) rfl (ls_13 hL) (by decide +kernel) rfl (lr_13_5 hL) ?_
  refine X_aload_n (q := 0) (show decode (mB 7) 56 = .ok (.aload_n 0, 1) by decide +kernel) (pc' := 57) rfl rfl rfl ?_
  refine X_getR (ci := 0) (f := 1) (q := q_13_1) (show decode (mB 7) 57 = .ok (.getfield 51, 3) by decide +kernel) (pc' := 60) rfl (ls_13 hL) (by decide +kernel) rfl hq_13_1 ?_
  refine X_getR (ci := 3) (f := 11) (q := (q_13_1 + 8)) (show decode (mB 7) 60 = .ok (.getfield 120, 3) by decide +kernel) (pc' := 63) rfl h_q_13_1.s0 (by decide +kernel) rfl h_q_13_1.r0_11 ?_
  refine X_iload_n (q := 3) (show decode (mB 7) 63 = .ok (.iload_n 3, 1) by decide +kernel) (pc' := 64) rfl rfl rfl ?_
  refine X_iload (q := 4) (show decode (mB 7) 64 = .ok (.iload 4, 2) by decide +kernel) (pc' := 66) rfl rfl ?_
  refine X_aload_n (q := 0) (show decode (mB 7) 66 = .ok (.aload_n 0, 1) by decide +kernel) (pc' := 67) rfl rfl rfl ?_
  refine X_getR (ci := 0) (f := 6) (q := 17) (show decode (mB 7) 67 = .ok (.getfield 20, 3) by decide +kernel) (pc' := 70) rfl (ls_13 hL) (by decide +kernel) rfl (lr_13_6 hL) ?_
  refine X_aload_n (q := 0) (show decode (mB 7) 70 = .ok (.aload_n 0, 1) by decide +kernel) (pc' := 71) rfl rfl rfl ?_
  refine X_getR (ci := 0) (f := 7) (q := 18) (show decode (mB 7) 71 = .ok (.getfield 24, 3) by decide +kernel) (pc' := 74) rfl (ls_13 hL) (by decide +kernel) rfl (lr_13_7 hL) ?_
  refine X_iconst (v := 0) (show decode (mB 7) 74 = .ok (.iconst 0, 1) by decide +kernel) (pc' := 75) rfl rfl ?_
  exact X_callV (y := 72) (n := 6) (st := [.int 0, .ref 18, .ref 17, .int x4, .int x3, .ref (q_13_1 + 8), .ref 14]) (as := [.ref 14, .ref (q_13_1 + 8), .int x3, .int x4, .ref 17, .ref 18, .int 0]) (rest := []) (ls0 := [.ref 14, .ref (q_13_1 + 8), .int x3, .int x4, .ref 17, .ref 18, .int 0, .null, .null]) (ci := 6) (show decode (mB 7) 75 = .ok (.invokevirtual 124, 3) by decide +kernel) (pc' := 78) rfl (by decide +kernel) (by decide +kernel) rfl (ls_14 hL) (by decide +kernel) rfl rfl rfl rfl rfl k
set_option maxRecDepth 4000 in
theorem b_X0_workOutClauses_78 {xs : Nat → Int32} {L d : Nat} {S : Nat → Shp} {I : Nat → Nat → Int32} {J : Nat → Nat → Int64} {R : Nat → Nat → Nat} {c : Nat × Nat} {Q : Option (Option Value) → MH → Prop} {x1 x2 x3 x4 x5 x6 : Int32} (hL : Lay S R)  (k : X xs L d 73 0 [.ref 14] [] (S, I, J, R, c) (Kc xs L (d + 1) 7 91 [.ref 13, .int x1, .int x2, .int x3, .int x4, .int x5, .int x6] [.int x6, .ref 19] Q)) : X xs L (d + 1) 7 78 [.ref 13, .int x1, .int x2, .int x3, .int x4, .int x5, .int x6] [] (S, I, J, R, c) Q := by
  refine X_aload_n (q := 0) (show decode (mB 7) 78 = .ok (.aload_n 0, 1) by decide +kernel) (pc' := 79) rfl rfl rfl ?_
  refine X_getR (ci := 0) (f := 8) (q := 19) (show decode (mB 7) 79 = .ok (.getfield 27, 3) by decide +kernel) (pc' := 82) rfl (ls_13 hL) (by decide +kernel) rfl (lr_13_8 hL) ?_
  refine X_iload (q := 6) (show decode (mB 7) 82 = .ok (.iload 6, 2) by decide +kernel) (pc' := 84) rfl rfl ?_
  refine X_aload_n (q := 0) (show decode (mB 7) 84 = .ok (.aload_n 0, 1) by decide +kernel) (pc' := 85) rfl rfl rfl ?_
  refine X_getR (ci := 0) (f := 5) (q := 14) (show decode (mB 7) 85 = .ok (.getfield 12, 3) by decide +kernel) (pc' := 88) rfl (ls_13 hL) (by decide +kernel) rfl (lr_13_5 hL) ?_
  exact X_callV (y := 73) (n := 0) (st := [.ref 14, .int x6, .ref 19]) (as := [.ref 14]) (rest := [.int x6, .ref 19]) (ls0 := [.ref 14]) (ci := 6) (show decode (mB 7) 88 = .ok (.invokevirtual 128, 3) by decide +kernel) (pc' := 91) rfl (by decide +kernel) (by decide +kernel) rfl (ls_14 hL) (by decide +kernel) rfl rfl rfl rfl rfl k
set_option maxRecDepth 4000 in
theorem b_X0_workOutClauses_91 {xs : Nat → Int32} {L d : Nat} {S : Nat → Shp} {I : Nat → Nat → Int32} {J : Nat → Nat → Int64} {R : Nat → Nat → Nat} {c : Nat × Nat} {Q : Option (Option Value) → MH → Prop} {x1 x2 x3 x4 x5 x6 sx1 : Int32} {sy2 : Int64} {q_13_1 : Nat} (hL : Lay S R) (hb91 : inb sx1 384 = true) (hq_13_1 : R 13 1 = q_13_1) (h_q_13_1 : LyCm S R q_13_1) (k : X xs L d 72 0 [.ref 14, .ref (q_13_1 + 8), .int x4, .int x5, .ref 17, .ref 18, .int 0, .null, .null] [] (S, I, (u2 J 19 sx1.toNatClampNeg sy2), R, c) (Kc xs L (d + 1) 7 119 [.ref 13, .int x1, .int x2, .int x3, .int x4, .int x5, .int x6] [] Q)) : X xs L (d + 1) 7 91 [.ref 13, .int x1, .int x2, .int x3, .int x4, .int x5, .int x6] [.long sy2, .int sx1, .ref 19] (S, I, J, R, c) Q := by
  refine X_lastore (show decode (mB 7) 91 = .ok (.lastore, 1) by decide +kernel) (pc' := 92) rfl (ls_19 hL) hb91 ?_
  refine X_aload_n (q := 0) (show decode (mB 7) 92 = .ok (.aload_n 0, 1) by decide +kernel) (pc' := 93) rfl rfl rfl ?_
  refine X_getR (ci := 0) (f := 5) (q := 14) (show decode (mB 7) 93 = .ok (.getfield 12, 3) by decide +kernel) (pc' := 96) rfl (ls_13 hL) (by decide +kernel) rfl (lr_13_5 hL) ?_
  refine X_aload_n (q := 0) (show decode (mB 7) 96 = .ok (.aload_n 0, 1) by decide +kernel) (pc' := 97) rfl rfl rfl ?_
  refine X_getR (ci := 0) (f := 1) (q := q_13_1) (show decode (mB 7) 97 = .ok (.getfield 51, 3) by decide +kernel) (pc' := 100) rfl (ls_13 hL) (by decide +kernel) rfl hq_13_1 ?_
  refine X_getR (ci := 3) (f := 11) (q := (q_13_1 + 8)) (show decode (mB 7) 100 = .ok (.getfield 120, 3) by decide +kernel) (pc' := 103) rfl h_q_13_1.s0 (by decide +kernel) rfl h_q_13_1.r0_11 ?_
  refine X_iload (q := 4) (show decode (mB 7) 103 = .ok (.iload 4, 2) by decide +kernel) (pc' := 105) rfl rfl ?_
  refine X_iload (q := 5) (show decode (mB 7) 105 = .ok (.iload 5, 2) by decide +kernel) (pc' := 107) rfl rfl ?_
  refine X_aload_n (q := 0) (show decode (mB 7) 107 = .ok (.aload_n 0, 1) by decide +kernel) (pc' := 108) rfl rfl rfl ?_
  refine X_getR (ci := 0) (f := 6) (q := 17) (show decode (mB 7) 108 = .ok (.getfield 20, 3) by decide +kernel) (pc' := 111) rfl (ls_13 hL) (by decide +kernel) rfl (lr_13_6 hL) ?_
  refine X_aload_n (q := 0) (show decode (mB 7) 111 = .ok (.aload_n 0, 1) by decide +kernel) (pc' := 112) rfl rfl rfl ?_
  refine X_getR (ci := 0) (f := 7) (q := 18) (show decode (mB 7) 112 = .ok (.getfield 24, 3) by decide +kernel) (pc' := 115) rfl (ls_13 hL) (by decide +kernel) rfl (lr_13_7 hL) ?_
  refine X_iconst (v := 0) (show decode (mB 7) 115 = .ok (.iconst 0, 1) by decide +kernel) (pc' := 116) rfl rfl ?_
  exact X_callV (y := 72) (n := 6) (st := [.int 0, .ref 18, .ref 17, .int x5, .int x4, .ref (q_13_1 + 8), .ref 14]) (as := [.ref 14, .ref (q_13_1 + 8), .int x4, .int x5, .ref 17, .ref 18, .int 0]) (rest := []) (ls0 := [.ref 14, .ref (q_13_1 + 8), .int x4, .int x5, .ref 17, .ref 18, .int 0, .null, .null]) (ci := 6) (show decode (mB 7) 116 = .ok (.invokevirtual 124, 3) by decide +kernel) (pc' := 119) rfl (by decide +kernel) (by decide +kernel) rfl (ls_14 hL) (by decide +kernel) rfl rfl rfl rfl rfl k
set_option maxRecDepth 4000 in
theorem b_X0_workOutClauses_119 {xs : Nat → Int32} {L d : Nat} {S : Nat → Shp} {I : Nat → Nat → Int32} {J : Nat → Nat → Int64} {R : Nat → Nat → Nat} {c : Nat × Nat} {Q : Option (Option Value) → MH → Prop} {x1 x2 x3 x4 x5 x6 : Int32} (hL : Lay S R)  (kt : x5 ≤ x4 → X xs L (d + 1) 7 142 [.ref 13, .int x1, .int x2, .int x3, .int x4, .int x5, .int x6] [.int x6, .ref 20] (S, I, J, R, c) Q) (kf : ¬ (x5 ≤ x4) → X xs L (d + 1) 7 132 [.ref 13, .int x1, .int x2, .int x3, .int x4, .int x5, .int x6] [.int x6, .ref 20] (S, I, J, R, c) Q) : X xs L (d + 1) 7 119 [.ref 13, .int x1, .int x2, .int x3, .int x4, .int x5, .int x6] [] (S, I, J, R, c) Q := by
  refine X_aload_n (q := 0) (show decode (mB 7) 119 = .ok (.aload_n 0, 1) by decide +kernel) (pc' := 120) rfl rfl rfl ?_
  refine X_getR (ci := 0) (f := 9) (q := 20) (show decode (mB 7) 120 = .ok (.getfield 30, 3) by decide +kernel) (pc' := 123) rfl (ls_13 hL) (by decide +kernel) rfl (lr_13_9 hL) ?_
  refine X_iload (q := 6) (show decode (mB 7) 123 = .ok (.iload 6, 2) by decide +kernel) (pc' := 125) rfl rfl ?_
  refine X_iload (q := 4) (show decode (mB 7) 125 = .ok (.iload 4, 2) by decide +kernel) (pc' := 127) rfl rfl ?_
  refine X_iload (q := 5) (show decode (mB 7) 127 = .ok (.iload 5, 2) by decide +kernel) (pc' := 129) rfl rfl ?_
  exact X_icmp_ge (tgt := 142) (show decode (mB 7) 129 = .ok (.if_icmp .ge 13, 3) by decide +kernel) rfl (pc' := 132) rfl kt kf
set_option maxRecDepth 4000 in
theorem b_X0_workOutClauses_132 {xs : Nat → Int32} {L d : Nat} {S : Nat → Shp} {I : Nat → Nat → Int32} {J : Nat → Nat → Int64} {R : Nat → Nat → Nat} {c : Nat × Nat} {Q : Option (Option Value) → MH → Prop} {x1 x2 x3 x4 x5 x6 sx1 : Int32} (hL : Lay S R)  (k : X xs L d 73 0 [.ref 14] [] (S, I, J, R, c) (Kc xs L (d + 1) 7 139 [.ref 13, .int x1, .int x2, .int x3, .int x4, .int x5, .int x6] [.int sx1, .ref 20] Q)) : X xs L (d + 1) 7 132 [.ref 13, .int x1, .int x2, .int x3, .int x4, .int x5, .int x6] [.int sx1, .ref 20] (S, I, J, R, c) Q := by
  refine X_aload_n (q := 0) (show decode (mB 7) 132 = .ok (.aload_n 0, 1) by decide +kernel) (pc' := 133) rfl rfl rfl ?_
  refine X_getR (ci := 0) (f := 5) (q := 14) (show decode (mB 7) 133 = .ok (.getfield 12, 3) by decide +kernel) (pc' := 136) rfl (ls_13 hL) (by decide +kernel) rfl (lr_13_5 hL) ?_
  exact X_callV (y := 73) (n := 0) (st := [.ref 14, .int sx1, .ref 20]) (as := [.ref 14]) (rest := [.int sx1, .ref 20]) (ls0 := [.ref 14]) (ci := 6) (show decode (mB 7) 136 = .ok (.invokevirtual 128, 3) by decide +kernel) (pc' := 139) rfl (by decide +kernel) (by decide +kernel) rfl (ls_14 hL) (by decide +kernel) rfl rfl rfl rfl rfl k
set_option maxRecDepth 4000 in
theorem b_X0_workOutClauses_139 {xs : Nat → Int32} {L d : Nat} {S : Nat → Shp} {I : Nat → Nat → Int32} {J : Nat → Nat → Int64} {R : Nat → Nat → Nat} {c : Nat × Nat} {Q : Option (Option Value) → MH → Prop} {x1 x2 x3 x4 x5 x6 sx1 : Int32} {sy2 : Int64}  (k : X xs L (d + 1) 7 145 [.ref 13, .int x1, .int x2, .int x3, .int x4, .int x5, .int x6] [.long sy2, .int sx1, .ref 20] (S, I, J, R, c) Q) : X xs L (d + 1) 7 139 [.ref 13, .int x1, .int x2, .int x3, .int x4, .int x5, .int x6] [.long sy2, .int sx1, .ref 20] (S, I, J, R, c) Q := by
  refine X_goto (tgt := 145) (show decode (mB 7) 139 = .ok (.goto 6, 3) by decide +kernel) rfl ?_
  exact k
set_option maxRecDepth 4000 in
theorem b_X0_workOutClauses_142 {xs : Nat → Int32} {L d : Nat} {S : Nat → Shp} {I : Nat → Nat → Int32} {J : Nat → Nat → Int64} {R : Nat → Nat → Nat} {c : Nat × Nat} {Q : Option (Option Value) → MH → Prop} {x1 x2 x3 x4 x5 x6 sx1 : Int32}  (k : X xs L (d + 1) 7 145 [.ref 13, .int x1, .int x2, .int x3, .int x4, .int x5, .int x6] [.long (-1), .int sx1, .ref 20] (S, I, J, R, c) Q) : X xs L (d + 1) 7 142 [.ref 13, .int x1, .int x2, .int x3, .int x4, .int x5, .int x6] [.int sx1, .ref 20] (S, I, J, R, c) Q := by
  refine X_ldc2 (v := (-1)) (show decode (mB 7) 142 = .ok (.ldc2_w 71, 3) by decide +kernel) (pc' := 145) rfl (by decide +kernel) ?_
  exact k
set_option maxRecDepth 4000 in
theorem b_X0_workOutClauses_145 {xs : Nat → Int32} {L d : Nat} {S : Nat → Shp} {I : Nat → Nat → Int32} {J : Nat → Nat → Int64} {R : Nat → Nat → Nat} {c : Nat × Nat} {Q : Option (Option Value) → MH → Prop} {x1 x2 x3 x4 x5 x6 sx1 : Int32} {sy2 : Int64} (hL : Lay S R) (hb145 : inb sx1 384 = true) (k : X xs L (d + 1) 7 2 [.ref 13, .int x1, .int (x2 + 1), .int x3, .int x4, .int x5, .int x6] [] (S, I, (u2 J 20 sx1.toNatClampNeg sy2), R, c) Q) : X xs L (d + 1) 7 145 [.ref 13, .int x1, .int x2, .int x3, .int x4, .int x5, .int x6] [.long sy2, .int sx1, .ref 20] (S, I, J, R, c) Q := by
  refine X_lastore (show decode (mB 7) 145 = .ok (.lastore, 1) by decide +kernel) (pc' := 146) rfl (ls_20 hL) hb145 ?_
  refine X_iinc (q := 2) (v := x2 + 1) (ls' := [.ref 13, .int x1, .int (x2 + 1), .int x3, .int x4, .int x5, .int x6]) (show decode (mB 7) 146 = .ok (.iinc 2 1, 3) by decide +kernel) (pc' := 149) rfl rfl rfl rfl ?_
  refine X_goto (tgt := 2) (show decode (mB 7) 149 = .ok (.goto (-147), 3) by decide +kernel) rfl ?_
  exact k
set_option maxRecDepth 4000 in
theorem b_X0_workOutClauses_152 {xs : Nat → Int32} {L d : Nat} {S : Nat → Shp} {I : Nat → Nat → Int32} {J : Nat → Nat → Int64} {R : Nat → Nat → Nat} {c : Nat × Nat} {Q : Option (Option Value) → MH → Prop} {x1 x2 : Int32} {v3 v4 v5 v6 : Value}  (k : Q (some none) (S, I, J, R, c)) : X xs L (d + 1) 7 152 [.ref 13, .int x1, .int x2, v3, v4, v5, v6] [] (S, I, J, R, c) Q := by
  exact X_return (show decode (mB 7) 152 = .ok (.return_, 1) by decide +kernel) (by decide +kernel) k
set_option maxRecDepth 4000 in
theorem b_X0_layGivens_0 {xs : Nat → Int32} {L d : Nat} {S : Nat → Shp} {I : Nat → Nat → Int32} {J : Nat → Nat → Int64} {R : Nat → Nat → Nat} {c : Nat × Nat} {Q : Option (Option Value) → MH → Prop} {x1 : Int32}  (k : X xs L d 3 0 [.int x1, .int 0] [] (S, I, J, R, c) (Kc xs L (d + 1) 8 5 [.ref 13, .int x1, .null, .null, .null, .null, .null, .null, .null] [] Q)) : X xs L (d + 1) 8 0 [.ref 13, .int x1, .null, .null, .null, .null, .null, .null, .null] [] (S, I, J, R, c) Q := by
  refine X_iload_n (q := 1) (show decode (mB 8) 0 = .ok (.iload_n 1, 1) by decide +kernel) (pc' := 1) rfl rfl rfl ?_
  refine X_iconst (v := 0) (show decode (mB 8) 1 = .ok (.iconst 0, 1) by decide +kernel) (pc' := 2) rfl rfl ?_
  exact X_callS (y := 3) (n := 2) (st := [.int 0, .int x1]) (as := [.int x1, .int 0]) (rest := []) (ls0 := [.int x1, .int 0]) (show decode (mB 8) 2 = .ok (.invokestatic 131, 3) by decide +kernel) (pc' := 5) rfl (by decide +kernel) (by decide +kernel) rfl rfl rfl rfl rfl rfl rfl rfl k
set_option maxRecDepth 4000 in
theorem b_X0_layGivens_5 {xs : Nat → Int32} {L d : Nat} {S : Nat → Shp} {I : Nat → Nat → Int32} {J : Nat → Nat → Int64} {R : Nat → Nat → Nat} {c : Nat × Nat} {Q : Option (Option Value) → MH → Prop} {x1 sx0 : Int32}  (k : X xs L (d + 1) 8 6 [.ref 13, .int x1, .int sx0, .null, .null, .null, .null, .null, .null] [] (S, I, J, R, c) Q) : X xs L (d + 1) 8 5 [.ref 13, .int x1, .null, .null, .null, .null, .null, .null, .null] [.int sx0] (S, I, J, R, c) Q := by
  refine X_istore_n (q := 2) (ls' := [.ref 13, .int x1, .int sx0, .null, .null, .null, .null, .null, .null]) (show decode (mB 8) 5 = .ok (.istore_n 2, 1) by decide +kernel) (pc' := 6) rfl rfl rfl ?_
  exact k
set_option maxRecDepth 4000 in
theorem b_X0_layGivens_6 {xs : Nat → Int32} {L d : Nat} {S : Nat → Shp} {I : Nat → Nat → Int32} {J : Nat → Nat → Int64} {R : Nat → Nat → Nat} {c : Nat × Nat} {Q : Option (Option Value) → MH → Prop} {x1 x2 : Int32} {q_13_1 : Nat} (hL : Lay S R) (hq_13_1 : R 13 1 = q_13_1) (h_q_13_1 : LyCm S R q_13_1) (k : X xs L d 3 0 [.int x1, .int ((I q_13_1 4) + 1)] [] (S, I, J, R, c) (Kc xs L (d + 1) 8 20 [.ref 13, .int x1, .int x2, .null, .null, .null, .null, .null, .null] [.int x2] Q)) : X xs L (d + 1) 8 6 [.ref 13, .int x1, .int x2, .null, .null, .null, .null, .null, .null] [] (S, I, J, R, c) Q := by
  refine X_iload_n (q := 2) (show decode (mB 8) 6 = .ok (.iload_n 2, 1) by decide +kernel) (pc' := 7) rfl rfl rfl ?_
  refine X_iload_n (q := 1) (show decode (mB 8) 7 = .ok (.iload_n 1, 1) by decide +kernel) (pc' := 8) rfl rfl rfl ?_
  refine X_aload_n (q := 0) (show decode (mB 8) 8 = .ok (.aload_n 0, 1) by decide +kernel) (pc' := 9) rfl rfl rfl ?_
  refine X_getR (ci := 0) (f := 1) (q := q_13_1) (show decode (mB 8) 9 = .ok (.getfield 51, 3) by decide +kernel) (pc' := 12) rfl (ls_13 hL) (by decide +kernel) rfl hq_13_1 ?_
  refine X_getI (ci := 3) (f := 4) (x := I q_13_1 4) (show decode (mB 8) 12 = .ok (.getfield 134, 3) by decide +kernel) (pc' := 15) rfl h_q_13_1.s0 (by decide +kernel) rfl rfl ?_
  refine X_iconst (v := 1) (show decode (mB 8) 15 = .ok (.iconst 1, 1) by decide +kernel) (pc' := 16) rfl rfl ?_
  refine X_iadd (show decode (mB 8) 16 = .ok (.iadd, 1) by decide +kernel) (pc' := 17) rfl ?_
  exact X_callS (y := 3) (n := 2) (st := [.int ((I q_13_1 4) + 1), .int x1, .int x2]) (as := [.int x1, .int ((I q_13_1 4) + 1)]) (rest := [.int x2]) (ls0 := [.int x1, .int ((I q_13_1 4) + 1)]) (show decode (mB 8) 17 = .ok (.invokestatic 131, 3) by decide +kernel) (pc' := 20) rfl (by decide +kernel) (by decide +kernel) rfl rfl rfl rfl rfl rfl rfl rfl k
set_option maxRecDepth 4000 in
theorem b_X0_layGivens_20 {xs : Nat → Int32} {L d : Nat} {S : Nat → Shp} {I : Nat → Nat → Int32} {J : Nat → Nat → Int64} {R : Nat → Nat → Nat} {c : Nat × Nat} {Q : Option (Option Value) → MH → Prop} {x1 x2 sx0 sx1 : Int32}  (kt : sx1 ≤ sx0 → X xs L (d + 1) 8 43 [.ref 13, .int x1, .int x2, .null, .null, .null, .null, .null, .null] [] (S, I, J, R, c) Q) (kf : ¬ (sx1 ≤ sx0) → X xs L (d + 1) 8 23 [.ref 13, .int x1, .int x2, .null, .null, .null, .null, .null, .null] [] (S, I, J, R, c) Q) : X xs L (d + 1) 8 20 [.ref 13, .int x1, .int x2, .null, .null, .null, .null, .null, .null] [.int sx1, .int sx0] (S, I, J, R, c) Q := by
  exact X_icmp_ge (tgt := 43) (show decode (mB 8) 20 = .ok (.if_icmp .ge 23, 3) by decide +kernel) rfl (pc' := 23) rfl kt kf
set_option maxRecDepth 4000 in
theorem b_X0_layGivens_23 {xs : Nat → Int32} {L d : Nat} {S : Nat → Shp} {I : Nat → Nat → Int32} {J : Nat → Nat → Int64} {R : Nat → Nat → Nat} {c : Nat × Nat} {Q : Option (Option Value) → MH → Prop} {x1 x2 : Int32} (hL : Lay S R) (hb29 : inb x2 3840 = true) (hb36 : inb x2 3840 = true) (k : X xs L (d + 1) 8 6 [.ref 13, .int x1, .int (x2 + 1), .null, .null, .null, .null, .null, .null] [] (S, I, (u2 (u2 J 21 x2.toNatClampNeg 0) 22 x2.toNatClampNeg 0), R, c) Q) : X xs L (d + 1) 8 23 [.ref 13, .int x1, .int x2, .null, .null, .null, .null, .null, .null] [] (S, I, J, R, c) Q := by
  refine X_aload_n (q := 0) (show decode (mB 8) 23 = .ok (.aload_n 0, 1) by decide +kernel) (pc' := 24) rfl rfl rfl ?_
  refine X_getR (ci := 0) (f := 10) (q := 21) (show decode (mB 8) 24 = .ok (.getfield 35, 3) by decide +kernel) (pc' := 27) rfl (ls_13 hL) (by decide +kernel) rfl (lr_13_10 hL) ?_
  refine X_iload_n (q := 2) (show decode (mB 8) 27 = .ok (.iload_n 2, 1) by decide +kernel) (pc' := 28) rfl rfl rfl ?_
  refine X_lconst (v := 0) (show decode (mB 8) 28 = .ok (.lconst 0, 1) by decide +kernel) (pc' := 29) rfl rfl ?_
  refine X_lastore (show decode (mB 8) 29 = .ok (.lastore, 1) by decide +kernel) (pc' := 30) rfl (ls_21 hL) hb29 ?_
  refine X_aload_n (q := 0) (show decode (mB 8) 30 = .ok (.aload_n 0, 1) by decide +kernel) (pc' := 31) rfl rfl rfl ?_
  refine X_getR (ci := 0) (f := 11) (q := 22) (show decode (mB 8) 31 = .ok (.getfield 38, 3) by decide +kernel) (pc' := 34) rfl (ls_13 hL) (by decide +kernel) rfl (lr_13_11 hL) ?_
  refine X_iload_n (q := 2) (show decode (mB 8) 34 = .ok (.iload_n 2, 1) by decide +kernel) (pc' := 35) rfl rfl rfl ?_
  refine X_lconst (v := 0) (show decode (mB 8) 35 = .ok (.lconst 0, 1) by decide +kernel) (pc' := 36) rfl rfl ?_
  refine X_lastore (show decode (mB 8) 36 = .ok (.lastore, 1) by decide +kernel) (pc' := 37) rfl (ls_22 hL) hb36 ?_
  refine X_iinc (q := 2) (v := x2 + 1) (ls' := [.ref 13, .int x1, .int (x2 + 1), .null, .null, .null, .null, .null, .null]) (show decode (mB 8) 37 = .ok (.iinc 2 1, 3) by decide +kernel) (pc' := 40) rfl rfl rfl rfl ?_
  refine X_goto (tgt := 6) (show decode (mB 8) 40 = .ok (.goto (-34), 3) by decide +kernel) rfl ?_
  exact k
set_option maxRecDepth 4000 in
theorem b_X0_layGivens_43 {xs : Nat → Int32} {L d : Nat} {S : Nat → Shp} {I : Nat → Nat → Int32} {J : Nat → Nat → Int64} {R : Nat → Nat → Nat} {c : Nat × Nat} {Q : Option (Option Value) → MH → Prop} {x1 x2 : Int32}  (k : X xs L (d + 1) 8 45 [.ref 13, .int x1, .int 0, .null, .null, .null, .null, .null, .null] [] (S, I, J, R, c) Q) : X xs L (d + 1) 8 43 [.ref 13, .int x1, .int x2, .null, .null, .null, .null, .null, .null] [] (S, I, J, R, c) Q := by
  refine X_iconst (v := 0) (show decode (mB 8) 43 = .ok (.iconst 0, 1) by decide +kernel) (pc' := 44) rfl rfl ?_
  refine X_istore_n (q := 2) (ls' := [.ref 13, .int x1, .int 0, .null, .null, .null, .null, .null, .null]) (show decode (mB 8) 44 = .ok (.istore_n 2, 1) by decide +kernel) (pc' := 45) rfl rfl rfl ?_
  exact k
set_option maxRecDepth 4000 in
theorem b_X0_layGivens_45 {xs : Nat → Int32} {L d : Nat} {S : Nat → Shp} {I : Nat → Nat → Int32} {J : Nat → Nat → Int64} {R : Nat → Nat → Nat} {c : Nat × Nat} {Q : Option (Option Value) → MH → Prop} {x1 x2 : Int32} {v3 v5 v7 v8 : Value} {q_13_1 : Nat} (hL : Lay S R) (hq_13_1 : R 13 1 = q_13_1) (h_q_13_1 : LyCm S R q_13_1) (kt : (I q_13_1 2) ≤ x2 → X xs L (d + 1) 8 166 [.ref 13, .int x1, .int x2, v3, .null, v5, .null, v7, v8] [] (S, I, J, R, c) Q) (kf : ¬ ((I q_13_1 2) ≤ x2) → X xs L (d + 1) 8 56 [.ref 13, .int x1, .int x2, v3, .null, v5, .null, v7, v8] [] (S, I, J, R, c) Q) : X xs L (d + 1) 8 45 [.ref 13, .int x1, .int x2, v3, .null, v5, .null, v7, v8] [] (S, I, J, R, c) Q := by
  refine X_iload_n (q := 2) (show decode (mB 8) 45 = .ok (.iload_n 2, 1) by decide +kernel) (pc' := 46) rfl rfl rfl ?_
  refine X_aload_n (q := 0) (show decode (mB 8) 46 = .ok (.aload_n 0, 1) by decide +kernel) (pc' := 47) rfl rfl rfl ?_
  refine X_getR (ci := 0) (f := 1) (q := q_13_1) (show decode (mB 8) 47 = .ok (.getfield 51, 3) by decide +kernel) (pc' := 50) rfl (ls_13 hL) (by decide +kernel) rfl hq_13_1 ?_
  refine X_getI (ci := 3) (f := 2) (x := I q_13_1 2) (show decode (mB 8) 50 = .ok (.getfield 137, 3) by decide +kernel) (pc' := 53) rfl h_q_13_1.s0 (by decide +kernel) rfl rfl ?_
  exact X_icmp_ge (tgt := 166) (show decode (mB 8) 53 = .ok (.if_icmp .ge 113, 3) by decide +kernel) rfl (pc' := 56) rfl kt kf
set_option maxRecDepth 4000 in
theorem b_X0_layGivens_56 {xs : Nat → Int32} {L d : Nat} {S : Nat → Shp} {I : Nat → Nat → Int32} {J : Nat → Nat → Int64} {R : Nat → Nat → Nat} {c : Nat × Nat} {Q : Option (Option Value) → MH → Prop} {x1 x2 : Int32} {v3 v5 v7 v8 : Value} (hL : Lay S R)  (k : X xs L d 2 0 [.int x1, .int x2] [] (S, I, J, R, c) (Kc xs L (d + 1) 8 65 [.ref 13, .int x1, .int x2, v3, .null, v5, .null, v7, v8] [.ref 19] Q)) : X xs L (d + 1) 8 56 [.ref 13, .int x1, .int x2, v3, .null, v5, .null, v7, v8] [] (S, I, J, R, c) Q := by
  refine X_aload_n (q := 0) (show decode (mB 8) 56 = .ok (.aload_n 0, 1) by decide +kernel) (pc' := 57) rfl rfl rfl ?_
  refine X_getR (ci := 0) (f := 8) (q := 19) (show decode (mB 8) 57 = .ok (.getfield 27, 3) by decide +kernel) (pc' := 60) rfl (ls_13 hL) (by decide +kernel) rfl (lr_13_8 hL) ?_
  refine X_iload_n (q := 1) (show decode (mB 8) 60 = .ok (.iload_n 1, 1) by decide +kernel) (pc' := 61) rfl rfl rfl ?_
  refine X_iload_n (q := 2) (show decode (mB 8) 61 = .ok (.iload_n 2, 1) by decide +kernel) (pc' := 62) rfl rfl rfl ?_
  exact X_callS (y := 2) (n := 2) (st := [.int x2, .int x1, .ref 19]) (as := [.int x1, .int x2]) (rest := [.ref 19]) (ls0 := [.int x1, .int x2]) (show decode (mB 8) 62 = .ok (.invokestatic 117, 3) by decide +kernel) (pc' := 65) rfl (by decide +kernel) (by decide +kernel) rfl rfl rfl rfl rfl rfl rfl rfl k
set_option maxRecDepth 4000 in
theorem b_X0_layGivens_65 {xs : Nat → Int32} {L d : Nat} {S : Nat → Shp} {I : Nat → Nat → Int32} {J : Nat → Nat → Int64} {R : Nat → Nat → Nat} {c : Nat × Nat} {Q : Option (Option Value) → MH → Prop} {x1 x2 sx1 : Int32} {v3 v5 v7 v8 : Value} (hL : Lay S R) (hb65 : inb sx1 384 = true) (k : X xs L d 2 0 [.int x1, .int x2] [] (S, I, J, R, c) (Kc xs L (d + 1) 8 76 [.ref 13, .int x1, .int x2, .long (J 19 sx1.toNatClampNeg), .null, v5, .null, v7, v8] [.ref 20] Q)) : X xs L (d + 1) 8 65 [.ref 13, .int x1, .int x2, v3, .null, v5, .null, v7, v8] [.int sx1, .ref 19] (S, I, J, R, c) Q := by
  refine X_laload (w := J 19 sx1.toNatClampNeg) (show decode (mB 8) 65 = .ok (.laload, 1) by decide +kernel) (pc' := 66) rfl (ls_19 hL) hb65 rfl ?_
  refine X_lstore_n (q := 3) (ls' := [.ref 13, .int x1, .int x2, .long (J 19 sx1.toNatClampNeg), .null, v5, .null, v7, v8]) (show decode (mB 8) 66 = .ok (.lstore_n 3, 1) by decide +kernel) (pc' := 67) rfl rfl rfl ?_
  refine X_aload_n (q := 0) (show decode (mB 8) 67 = .ok (.aload_n 0, 1) by decide +kernel) (pc' := 68) rfl rfl rfl ?_
  refine X_getR (ci := 0) (f := 9) (q := 20) (show decode (mB 8) 68 = .ok (.getfield 30, 3) by decide +kernel) (pc' := 71) rfl (ls_13 hL) (by decide +kernel) rfl (lr_13_9 hL) ?_
  refine X_iload_n (q := 1) (show decode (mB 8) 71 = .ok (.iload_n 1, 1) by decide +kernel) (pc' := 72) rfl rfl rfl ?_
  refine X_iload_n (q := 2) (show decode (mB 8) 72 = .ok (.iload_n 2, 1) by decide +kernel) (pc' := 73) rfl rfl rfl ?_
  exact X_callS (y := 2) (n := 2) (st := [.int x2, .int x1, .ref 20]) (as := [.int x1, .int x2]) (rest := [.ref 20]) (ls0 := [.int x1, .int x2]) (show decode (mB 8) 73 = .ok (.invokestatic 117, 3) by decide +kernel) (pc' := 76) rfl (by decide +kernel) (by decide +kernel) rfl rfl rfl rfl rfl rfl rfl rfl k
set_option maxRecDepth 4000 in
theorem b_X0_layGivens_76 {xs : Nat → Int32} {L d : Nat} {S : Nat → Shp} {I : Nat → Nat → Int32} {J : Nat → Nat → Int64} {R : Nat → Nat → Nat} {c : Nat × Nat} {Q : Option (Option Value) → MH → Prop} {x1 x2 sx1 : Int32} {y3 : Int64} {v5 v7 v8 : Value} {q_13_1 : Nat} (hL : Lay S R) (hb76 : inb sx1 384 = true) (hq_13_1 : R 13 1 = q_13_1) (h_q_13_1 : LyCm S R q_13_1) (hb87 : inb x2 48 = true) (k : X xs L (d + 1) 8 90 [.ref 13, .int x1, .int x2, .long y3, .null, .long (J 20 sx1.toNatClampNeg), .null, .int (I (q_13_1 + 3) x2.toNatClampNeg), v8] [] (S, I, J, R, c) Q) : X xs L (d + 1) 8 76 [.ref 13, .int x1, .int x2, .long y3, .null, v5, .null, v7, v8] [.int sx1, .ref 20] (S, I, J, R, c) Q := by
  refine X_laload (w := J 20 sx1.toNatClampNeg) (show decode (mB 8) 76 = .ok (.laload, 1) by decide +kernel) (pc' := 77) rfl (ls_20 hL) hb76 rfl ?_
  refine X_lstore (q := 5) (ls' := [.ref 13, .int x1, .int x2, .long y3, .null, .long (J 20 sx1.toNatClampNeg), .null, v7, v8]) (show decode (mB 8) 77 = .ok (.lstore 5, 2) by decide +kernel) (pc' := 79) rfl rfl ?_
  refine X_aload_n (q := 0) (show decode (mB 8) 79 = .ok (.aload_n 0, 1) by decide +kernel) (pc' := 80) rfl rfl rfl ?_
  refine X_getR (ci := 0) (f := 1) (q := q_13_1) (show decode (mB 8) 80 = .ok (.getfield 51, 3) by decide +kernel) (pc' := 83) rfl (ls_13 hL) (by decide +kernel) rfl hq_13_1 ?_
  refine X_getR (ci := 3) (f := 6) (q := (q_13_1 + 3)) (show decode (mB 8) 83 = .ok (.getfield 140, 3) by decide +kernel) (pc' := 86) rfl h_q_13_1.s0 (by decide +kernel) rfl h_q_13_1.r0_6 ?_
  refine X_iload_n (q := 2) (show decode (mB 8) 86 = .ok (.iload_n 2, 1) by decide +kernel) (pc' := 87) rfl rfl rfl ?_
  refine X_iaload (w := I (q_13_1 + 3) x2.toNatClampNeg) (show decode (mB 8) 87 = .ok (.iaload, 1) by decide +kernel) (pc' := 88) rfl h_q_13_1.s3 hb87 rfl ?_
  refine X_istore (q := 7) (ls' := [.ref 13, .int x1, .int x2, .long y3, .null, .long (J 20 sx1.toNatClampNeg), .null, .int (I (q_13_1 + 3) x2.toNatClampNeg), v8]) (show decode (mB 8) 88 = .ok (.istore 7, 2) by decide +kernel) (pc' := 90) rfl rfl ?_
  exact k
set_option maxRecDepth 4000 in
theorem b_X0_layGivens_90 {xs : Nat → Int32} {L d : Nat} {S : Nat → Shp} {I : Nat → Nat → Int32} {J : Nat → Nat → Int64} {R : Nat → Nat → Nat} {c : Nat × Nat} {Q : Option (Option Value) → MH → Prop} {x1 x2 x7 : Int32} {y3 y5 : Int64} {v8 : Value} {q_13_1 : Nat} (hL : Lay S R) (hq_13_1 : R 13 1 = q_13_1) (h_q_13_1 : LyCm S R q_13_1) (hb100 : inb x2 48 = true) (kt : (I (q_13_1 + 4) x2.toNatClampNeg) < x7 → X xs L (d + 1) 8 160 [.ref 13, .int x1, .int x2, .long y3, .null, .long y5, .null, .int x7, v8] [] (S, I, J, R, c) Q) (kf : ¬ ((I (q_13_1 + 4) x2.toNatClampNeg) < x7) → X xs L (d + 1) 8 104 [.ref 13, .int x1, .int x2, .long y3, .null, .long y5, .null, .int x7, v8] [] (S, I, J, R, c) Q) : X xs L (d + 1) 8 90 [.ref 13, .int x1, .int x2, .long y3, .null, .long y5, .null, .int x7, v8] [] (S, I, J, R, c) Q := by
  refine X_iload (q := 7) (show decode (mB 8) 90 = .ok (.iload 7, 2) by decide +kernel) (pc' := 92) rfl rfl ?_
  refine X_aload_n (q := 0) (show decode (mB 8) 92 = .ok (.aload_n 0, 1) by decide +kernel) (pc' := 93) rfl rfl rfl ?_
  refine X_getR (ci := 0) (f := 1) (q := q_13_1) (show decode (mB 8) 93 = .ok (.getfield 51, 3) by decide +kernel) (pc' := 96) rfl (ls_13 hL) (by decide +kernel) rfl hq_13_1 ?_
  refine X_getR (ci := 3) (f := 7) (q := (q_13_1 + 4)) (show decode (mB 8) 96 = .ok (.getfield 143, 3) by decide +kernel) (pc' := 99) rfl h_q_13_1.s0 (by decide +kernel) rfl h_q_13_1.r0_7 ?_
  refine X_iload_n (q := 2) (show decode (mB 8) 99 = .ok (.iload_n 2, 1) by decide +kernel) (pc' := 100) rfl rfl rfl ?_
  refine X_iaload (w := I (q_13_1 + 4) x2.toNatClampNeg) (show decode (mB 8) 100 = .ok (.iaload, 1) by decide +kernel) (pc' := 101) rfl h_q_13_1.s4 hb100 rfl ?_
  exact X_icmp_gt (tgt := 160) (show decode (mB 8) 101 = .ok (.if_icmp .gt 59, 3) by decide +kernel) rfl (pc' := 104) rfl kt kf
set_option maxRecDepth 4000 in
theorem b_X0_layGivens_104 {xs : Nat → Int32} {L d : Nat} {S : Nat → Shp} {I : Nat → Nat → Int32} {J : Nat → Nat → Int64} {R : Nat → Nat → Nat} {c : Nat × Nat} {Q : Option (Option Value) → MH → Prop} {x1 x2 x7 : Int32} {y3 y5 : Int64} {v8 : Value}  (k : X xs L d 3 0 [.int x1, .int x7] [] (S, I, J, R, c) (Kc xs L (d + 1) 8 110 [.ref 13, .int x1, .int x2, .long y3, .null, .long y5, .null, .int x7, v8] [] Q)) : X xs L (d + 1) 8 104 [.ref 13, .int x1, .int x2, .long y3, .null, .long y5, .null, .int x7, v8] [] (S, I, J, R, c) Q := by
  refine X_iload_n (q := 1) (show decode (mB 8) 104 = .ok (.iload_n 1, 1) by decide +kernel) (pc' := 105) rfl rfl rfl ?_
  refine X_iload (q := 7) (show decode (mB 8) 105 = .ok (.iload 7, 2) by decide +kernel) (pc' := 107) rfl rfl ?_
  exact X_callS (y := 3) (n := 2) (st := [.int x7, .int x1]) (as := [.int x1, .int x7]) (rest := []) (ls0 := [.int x1, .int x7]) (show decode (mB 8) 107 = .ok (.invokestatic 131, 3) by decide +kernel) (pc' := 110) rfl (by decide +kernel) (by decide +kernel) rfl rfl rfl rfl rfl rfl rfl rfl k
set_option maxRecDepth 4000 in
theorem b_X0_layGivens_110 {xs : Nat → Int32} {L d : Nat} {S : Nat → Shp} {I : Nat → Nat → Int32} {J : Nat → Nat → Int64} {R : Nat → Nat → Nat} {c : Nat × Nat} {Q : Option (Option Value) → MH → Prop} {x1 x2 x7 sx0 : Int32} {y3 y5 : Int64} {v8 : Value} {q_13_1 : Nat} (hL : Lay S R) (hq_13_1 : R 13 1 = q_13_1) (h_q_13_1 : LyCm S R q_13_1) (hb118 : inb x2 48 = true) (hb129 : inb (sx0 + (I (q_13_1 + 2) x2.toNatClampNeg)) 3840 = true) (hb135 : inb (sx0 + (I (q_13_1 + 2) x2.toNatClampNeg)) 3840 = true) (hb143 : inb (sx0 + (I (q_13_1 + 2) x2.toNatClampNeg)) 3840 = true) (hb153 : inb (sx0 + (I (q_13_1 + 2) x2.toNatClampNeg)) 3840 = true) (k : X xs L (d + 1) 8 90 [.ref 13, .int x1, .int x2, .long y3, .null, .long y5, .null, .int (x7 + 1), .int (sx0 + (I (q_13_1 + 2) x2.toNatClampNeg))] [] (S, I, (u2 (u2 J 21 ((sx0 + (I (q_13_1 + 2) x2.toNatClampNeg)).toNatClampNeg) ((J 21 (sx0 + (I (q_13_1 + 2) x2.toNatClampNeg)).toNatClampNeg) ||| (y5 &&& y3))) 22 ((sx0 + (I (q_13_1 + 2) x2.toNatClampNeg)).toNatClampNeg) ((J 22 (sx0 + (I (q_13_1 + 2) x2.toNatClampNeg)).toNatClampNeg) ||| (y5 &&& (y3 ^^^ (-1))))), R, c) Q) : X xs L (d + 1) 8 110 [.ref 13, .int x1, .int x2, .long y3, .null, .long y5, .null, .int x7, v8] [.int sx0] (S, I, J, R, c) Q := by
  refine X_aload_n (q := 0) (show decode (mB 8) 110 = .ok (.aload_n 0, 1) by decide +kernel) (pc' := 111) rfl rfl rfl ?_
  refine X_getR (ci := 0) (f := 1) (q := q_13_1) (show decode (mB 8) 111 = .ok (.getfield 51, 3) by decide +kernel) (pc' := 114) rfl (ls_13 hL) (by decide +kernel) rfl hq_13_1 ?_
  refine X_getR (ci := 3) (f := 5) (q := (q_13_1 + 2)) (show decode (mB 8) 114 = .ok (.getfield 146, 3) by decide +kernel) (pc' := 117) rfl h_q_13_1.s0 (by decide +kernel) rfl h_q_13_1.r0_5 ?_
  refine X_iload_n (q := 2) (show decode (mB 8) 117 = .ok (.iload_n 2, 1) by decide +kernel) (pc' := 118) rfl rfl rfl ?_
  refine X_iaload (w := I (q_13_1 + 2) x2.toNatClampNeg) (show decode (mB 8) 118 = .ok (.iaload, 1) by decide +kernel) (pc' := 119) rfl h_q_13_1.s2 hb118 rfl ?_
  refine X_iadd (show decode (mB 8) 119 = .ok (.iadd, 1) by decide +kernel) (pc' := 120) rfl ?_
  refine X_istore (q := 8) (ls' := [.ref 13, .int x1, .int x2, .long y3, .null, .long y5, .null, .int x7, .int (sx0 + (I (q_13_1 + 2) x2.toNatClampNeg))]) (show decode (mB 8) 120 = .ok (.istore 8, 2) by decide +kernel) (pc' := 122) rfl rfl ?_
  refine X_aload_n (q := 0) (show decode (mB 8) 122 = .ok (.aload_n 0, 1) by decide +kernel) (pc' := 123) rfl rfl rfl ?_
  refine X_getR (ci := 0) (f := 10) (q := 21) (show decode (mB 8) 123 = .ok (.getfield 35, 3) by decide +kernel) (pc' := 126) rfl (ls_13 hL) (by decide +kernel) rfl (lr_13_10 hL) ?_
  refine X_iload (q := 8) (show decode (mB 8) 126 = .ok (.iload 8, 2) by decide +kernel) (pc' := 128) rfl rfl ?_
  refine X_dup2 (show decode (mB 8) 128 = .ok (.dup2, 1) by decide +kernel) (pc' := 129) rfl rfl rfl ?_
  refine X_laload (w := J 21 (sx0 + (I (q_13_1 + 2) x2.toNatClampNeg)).toNatClampNeg) (show decode (mB 8) 129 = .ok (.laload, 1) by decide +kernel) (pc' := 130) rfl (ls_21 hL) hb129 rfl ?_
  refine X_lload (q := 5) (show decode (mB 8) 130 = .ok (.lload 5, 2) by decide +kernel) (pc' := 132) rfl rfl ?_
  refine X_lload_n (q := 3) (show decode (mB 8) 132 = .ok (.lload_n 3, 1) by decide +kernel) (pc' := 133) rfl rfl rfl ?_
  refine X_land (show decode (mB 8) 133 = .ok (.land, 1) by decide +kernel) (pc' := 134) rfl ?_
  refine X_lor (show decode (mB 8) 134 = .ok (.lor, 1) by decide +kernel) (pc' := 135) rfl ?_
  refine X_lastore (show decode (mB 8) 135 = .ok (.lastore, 1) by decide +kernel) (pc' := 136) rfl (ls_21 hL) hb135 ?_
  refine X_aload_n (q := 0) (show decode (mB 8) 136 = .ok (.aload_n 0, 1) by decide +kernel) (pc' := 137) rfl rfl rfl ?_
  refine X_getR (ci := 0) (f := 11) (q := 22) (show decode (mB 8) 137 = .ok (.getfield 38, 3) by decide +kernel) (pc' := 140) rfl (ls_13 hL) (by decide +kernel) rfl (lr_13_11 hL) ?_
  refine X_iload (q := 8) (show decode (mB 8) 140 = .ok (.iload 8, 2) by decide +kernel) (pc' := 142) rfl rfl ?_
  refine X_dup2 (show decode (mB 8) 142 = .ok (.dup2, 1) by decide +kernel) (pc' := 143) rfl rfl rfl ?_
  refine X_laload (w := J 22 (sx0 + (I (q_13_1 + 2) x2.toNatClampNeg)).toNatClampNeg) (show decode (mB 8) 143 = .ok (.laload, 1) by decide +kernel) (pc' := 144) rfl (ls_22 hL) hb143 (by simp [u2, u1]) ?_
  refine X_lload (q := 5) (show decode (mB 8) 144 = .ok (.lload 5, 2) by decide +kernel) (pc' := 146) rfl rfl ?_
  refine X_lload_n (q := 3) (show decode (mB 8) 146 = .ok (.lload_n 3, 1) by decide +kernel) (pc' := 147) rfl rfl rfl ?_
  refine X_ldc2 (v := (-1)) (show decode (mB 8) 147 = .ok (.ldc2_w 71, 3) by decide +kernel) (pc' := 150) rfl (by decide +kernel) ?_
  refine X_lxor (show decode (mB 8) 150 = .ok (.lxor, 1) by decide +kernel) (pc' := 151) rfl ?_
  refine X_land (show decode (mB 8) 151 = .ok (.land, 1) by decide +kernel) (pc' := 152) rfl ?_
  refine X_lor (show decode (mB 8) 152 = .ok (.lor, 1) by decide +kernel) (pc' := 153) rfl ?_
  refine X_lastore (show decode (mB 8) 153 = .ok (.lastore, 1) by decide +kernel) (pc' := 154) rfl (ls_22 hL) hb153 ?_
  refine X_iinc (q := 7) (v := x7 + 1) (ls' := [.ref 13, .int x1, .int x2, .long y3, .null, .long y5, .null, .int (x7 + 1), .int (sx0 + (I (q_13_1 + 2) x2.toNatClampNeg))]) (show decode (mB 8) 154 = .ok (.iinc 7 1, 3) by decide +kernel) (pc' := 157) rfl rfl rfl rfl ?_
  refine X_goto (tgt := 90) (show decode (mB 8) 157 = .ok (.goto (-67), 3) by decide +kernel) rfl ?_
  exact k
set_option maxRecDepth 4000 in
theorem b_X0_layGivens_160 {xs : Nat → Int32} {L d : Nat} {S : Nat → Shp} {I : Nat → Nat → Int32} {J : Nat → Nat → Int64} {R : Nat → Nat → Nat} {c : Nat × Nat} {Q : Option (Option Value) → MH → Prop} {x1 x2 x7 : Int32} {y3 y5 : Int64} {v8 : Value}  (k : X xs L (d + 1) 8 45 [.ref 13, .int x1, .int (x2 + 1), .long y3, .null, .long y5, .null, .int x7, v8] [] (S, I, J, R, c) Q) : X xs L (d + 1) 8 160 [.ref 13, .int x1, .int x2, .long y3, .null, .long y5, .null, .int x7, v8] [] (S, I, J, R, c) Q := by
  refine X_iinc (q := 2) (v := x2 + 1) (ls' := [.ref 13, .int x1, .int (x2 + 1), .long y3, .null, .long y5, .null, .int x7, v8]) (show decode (mB 8) 160 = .ok (.iinc 2 1, 3) by decide +kernel) (pc' := 163) rfl rfl rfl rfl ?_
  refine X_goto (tgt := 45) (show decode (mB 8) 163 = .ok (.goto (-118), 3) by decide +kernel) rfl ?_
  exact k
set_option maxRecDepth 4000 in
theorem b_X0_layGivens_166 {xs : Nat → Int32} {L d : Nat} {S : Nat → Shp} {I : Nat → Nat → Int32} {J : Nat → Nat → Int64} {R : Nat → Nat → Nat} {c : Nat × Nat} {Q : Option (Option Value) → MH → Prop} {x1 x2 : Int32} {v3 v5 v7 v8 : Value}  (k : Q (some none) (S, I, J, R, c)) : X xs L (d + 1) 8 166 [.ref 13, .int x1, .int x2, v3, .null, v5, .null, v7, v8] [] (S, I, J, R, c) Q := by
  exact X_return (show decode (mB 8) 166 = .ok (.return_, 1) by decide +kernel) (by decide +kernel) k
set_option maxRecDepth 4000 in
theorem b_X0_follow_0 {xs : Nat → Int32} {L d : Nat} {S : Nat → Shp} {I : Nat → Nat → Int32} {J : Nat → Nat → Int64} {R : Nat → Nat → Nat} {c : Nat × Nat} {Q : Option (Option Value) → MH → Prop} {x1 : Int32}  (k : X xs L (d + 1) 9 5 [.ref 13, .int x1, .long 0, .null, .int 0, .null, .null, .null] [] (S, I, J, R, c) Q) : X xs L (d + 1) 9 0 [.ref 13, .int x1, .null, .null, .null, .null, .null, .null] [] (S, I, J, R, c) Q := by
  refine X_lconst (v := 0) (show decode (mB 9) 0 = .ok (.lconst 0, 1) by decide +kernel) (pc' := 1) rfl rfl ?_
  refine X_lstore_n (q := 2) (ls' := [.ref 13, .int x1, .long 0, .null, .null, .null, .null, .null]) (show decode (mB 9) 1 = .ok (.lstore_n 2, 1) by decide +kernel) (pc' := 2) rfl rfl rfl ?_
  refine X_iconst (v := 0) (show decode (mB 9) 2 = .ok (.iconst 0, 1) by decide +kernel) (pc' := 3) rfl rfl ?_
  refine X_istore (q := 4) (ls' := [.ref 13, .int x1, .long 0, .null, .int 0, .null, .null, .null]) (show decode (mB 9) 3 = .ok (.istore 4, 2) by decide +kernel) (pc' := 5) rfl rfl ?_
  exact k
set_option maxRecDepth 4000 in
theorem b_X0_follow_5 {xs : Nat → Int32} {L d : Nat} {S : Nat → Shp} {I : Nat → Nat → Int32} {J : Nat → Nat → Int64} {R : Nat → Nat → Nat} {c : Nat × Nat} {Q : Option (Option Value) → MH → Prop} {x1 x4 : Int32} {y2 : Int64} {v5 v6 v7 : Value} {q_13_1 : Nat} (hL : Lay S R) (hq_13_1 : R 13 1 = q_13_1) (h_q_13_1 : LyCm S R q_13_1) (kt : (I q_13_1 4) < x4 → X xs L (d + 1) 9 94 [.ref 13, .int x1, .long y2, .null, .int x4, v5, v6, v7] [] (S, I, J, R, c) Q) (kf : ¬ ((I q_13_1 4) < x4) → X xs L (d + 1) 9 17 [.ref 13, .int x1, .long y2, .null, .int x4, v5, v6, v7] [] (S, I, J, R, c) Q) : X xs L (d + 1) 9 5 [.ref 13, .int x1, .long y2, .null, .int x4, v5, v6, v7] [] (S, I, J, R, c) Q := by
  refine X_iload (q := 4) (show decode (mB 9) 5 = .ok (.iload 4, 2) by decide +kernel) (pc' := 7) rfl rfl ?_
  refine X_aload_n (q := 0) (show decode (mB 9) 7 = .ok (.aload_n 0, 1) by decide +kernel) (pc' := 8) rfl rfl rfl ?_
  refine X_getR (ci := 0) (f := 1) (q := q_13_1) (show decode (mB 9) 8 = .ok (.getfield 51, 3) by decide +kernel) (pc' := 11) rfl (ls_13 hL) (by decide +kernel) rfl hq_13_1 ?_
  refine X_getI (ci := 3) (f := 4) (x := I q_13_1 4) (show decode (mB 9) 11 = .ok (.getfield 134, 3) by decide +kernel) (pc' := 14) rfl h_q_13_1.s0 (by decide +kernel) rfl rfl ?_
  exact X_icmp_gt (tgt := 94) (show decode (mB 9) 14 = .ok (.if_icmp .gt 80, 3) by decide +kernel) rfl (pc' := 17) rfl kt kf
set_option maxRecDepth 4000 in
theorem b_X0_follow_17 {xs : Nat → Int32} {L d : Nat} {S : Nat → Shp} {I : Nat → Nat → Int32} {J : Nat → Nat → Int64} {R : Nat → Nat → Nat} {c : Nat × Nat} {Q : Option (Option Value) → MH → Prop} {x1 x4 : Int32} {y2 : Int64} {v5 v6 v7 : Value}  (k : X xs L (d + 1) 9 20 [.ref 13, .int x1, .long y2, .null, .int x4, .int 0, v6, v7] [] (S, I, J, R, c) Q) : X xs L (d + 1) 9 17 [.ref 13, .int x1, .long y2, .null, .int x4, v5, v6, v7] [] (S, I, J, R, c) Q := by
  refine X_iconst (v := 0) (show decode (mB 9) 17 = .ok (.iconst 0, 1) by decide +kernel) (pc' := 18) rfl rfl ?_
  refine X_istore (q := 5) (ls' := [.ref 13, .int x1, .long y2, .null, .int x4, .int 0, v6, v7]) (show decode (mB 9) 18 = .ok (.istore 5, 2) by decide +kernel) (pc' := 20) rfl rfl ?_
  exact k
set_option maxRecDepth 4000 in
theorem b_X0_follow_20 {xs : Nat → Int32} {L d : Nat} {S : Nat → Shp} {I : Nat → Nat → Int32} {J : Nat → Nat → Int64} {R : Nat → Nat → Nat} {c : Nat × Nat} {Q : Option (Option Value) → MH → Prop} {x1 x4 x5 : Int32} {y2 : Int64} {v6 v7 : Value} {q_13_0 : Nat} (hL : Lay S R) (hq_13_0 : R 13 0 = q_13_0) (h_q_13_0 : LyCi S R q_13_0) (kt : (I q_13_0 0) ≤ x5 → X xs L (d + 1) 9 88 [.ref 13, .int x1, .long y2, .null, .int x4, .int x5, v6, v7] [] (S, I, J, R, c) Q) (kf : ¬ ((I q_13_0 0) ≤ x5) → X xs L (d + 1) 9 32 [.ref 13, .int x1, .long y2, .null, .int x4, .int x5, v6, v7] [] (S, I, J, R, c) Q) : X xs L (d + 1) 9 20 [.ref 13, .int x1, .long y2, .null, .int x4, .int x5, v6, v7] [] (S, I, J, R, c) Q := by
  refine X_iload (q := 5) (show decode (mB 9) 20 = .ok (.iload 5, 2) by decide +kernel) (pc' := 22) rfl rfl ?_
  refine X_aload_n (q := 0) (show decode (mB 9) 22 = .ok (.aload_n 0, 1) by decide +kernel) (pc' := 23) rfl rfl rfl ?_
  refine X_getR (ci := 0) (f := 0) (q := q_13_0) (show decode (mB 9) 23 = .ok (.getfield 47, 3) by decide +kernel) (pc' := 26) rfl (ls_13 hL) (by decide +kernel) rfl hq_13_0 ?_
  refine X_getI (ci := 1) (f := 0) (x := I q_13_0 0) (show decode (mB 9) 26 = .ok (.getfield 149, 3) by decide +kernel) (pc' := 29) rfl h_q_13_0.s0 (by decide +kernel) rfl rfl ?_
  exact X_icmp_ge (tgt := 88) (show decode (mB 9) 29 = .ok (.if_icmp .ge 59, 3) by decide +kernel) rfl (pc' := 32) rfl kt kf
set_option maxRecDepth 4000 in
theorem b_X0_follow_32 {xs : Nat → Int32} {L d : Nat} {S : Nat → Shp} {I : Nat → Nat → Int32} {J : Nat → Nat → Int64} {R : Nat → Nat → Nat} {c : Nat × Nat} {Q : Option (Option Value) → MH → Prop} {x1 x4 x5 : Int32} {y2 : Int64} {v6 v7 : Value} {q_13_0 : Nat} (hL : Lay S R) (hq_13_0 : R 13 0 = q_13_0) (h_q_13_0 : LyCi S R q_13_0) (hb41 : inb x5 40 = true) (k : X xs L d 10 0 [.ref 13, .int (I (q_13_0 + 9) x5.toNatClampNeg), .int x4, .int x1, .null, .null, .null] [] (S, I, J, R, c) (Kc xs L (d + 1) 9 53 [.ref 13, .int x1, .long y2, .null, .int x4, .int x5, .int (I (q_13_0 + 9) x5.toNatClampNeg), v7] [] Q)) : X xs L (d + 1) 9 32 [.ref 13, .int x1, .long y2, .null, .int x4, .int x5, v6, v7] [] (S, I, J, R, c) Q := by
  refine X_aload_n (q := 0) (show decode (mB 9) 32 = .ok (.aload_n 0, 1) by decide +kernel) (pc' := 33) rfl rfl rfl ?_
  refine X_getR (ci := 0) (f := 0) (q := q_13_0) (show decode (mB 9) 33 = .ok (.getfield 47, 3) by decide +kernel) (pc' := 36) rfl (ls_13 hL) (by decide +kernel) rfl hq_13_0 ?_
  refine X_getR (ci := 1) (f := 8) (q := (q_13_0 + 9)) (show decode (mB 9) 36 = .ok (.getfield 152, 3) by decide +kernel) (pc' := 39) rfl h_q_13_0.s0 (by decide +kernel) rfl h_q_13_0.r0_8 ?_
  refine X_iload (q := 5) (show decode (mB 9) 39 = .ok (.iload 5, 2) by decide +kernel) (pc' := 41) rfl rfl ?_
  refine X_iaload (w := I (q_13_0 + 9) x5.toNatClampNeg) (show decode (mB 9) 41 = .ok (.iaload, 1) by decide +kernel) (pc' := 42) rfl h_q_13_0.s9 hb41 rfl ?_
  refine X_istore (q := 6) (ls' := [.ref 13, .int x1, .long y2, .null, .int x4, .int x5, .int (I (q_13_0 + 9) x5.toNatClampNeg), v7]) (show decode (mB 9) 42 = .ok (.istore 6, 2) by decide +kernel) (pc' := 44) rfl rfl ?_
  refine X_aload_n (q := 0) (show decode (mB 9) 44 = .ok (.aload_n 0, 1) by decide +kernel) (pc' := 45) rfl rfl rfl ?_
  refine X_iload (q := 6) (show decode (mB 9) 45 = .ok (.iload 6, 2) by decide +kernel) (pc' := 47) rfl rfl ?_
  refine X_iload (q := 4) (show decode (mB 9) 47 = .ok (.iload 4, 2) by decide +kernel) (pc' := 49) rfl rfl ?_
  refine X_iload_n (q := 1) (show decode (mB 9) 49 = .ok (.iload_n 1, 1) by decide +kernel) (pc' := 50) rfl rfl rfl ?_
  exact X_callV (y := 10) (n := 3) (st := [.int x1, .int x4, .int (I (q_13_0 + 9) x5.toNatClampNeg), .ref 13]) (as := [.ref 13, .int (I (q_13_0 + 9) x5.toNatClampNeg), .int x4, .int x1]) (rest := []) (ls0 := [.ref 13, .int (I (q_13_0 + 9) x5.toNatClampNeg), .int x4, .int x1, .null, .null, .null]) (ci := 0) (show decode (mB 9) 50 = .ok (.invokevirtual 155, 3) by decide +kernel) (pc' := 53) rfl (by decide +kernel) (by decide +kernel) rfl (ls_13 hL) (by decide +kernel) rfl rfl rfl rfl rfl k
set_option maxRecDepth 4000 in
theorem b_X0_follow_53 {xs : Nat → Int32} {L d : Nat} {S : Nat → Shp} {I : Nat → Nat → Int32} {J : Nat → Nat → Int64} {R : Nat → Nat → Nat} {c : Nat × Nat} {Q : Option (Option Value) → MH → Prop} {x1 x4 x5 x6 : Int32} {y2 : Int64} {v7 : Value}  (k : X xs L d 3 0 [.int x1, .int x4] [] (S, I, J, R, c) (Kc xs L (d + 1) 9 59 [.ref 13, .int x1, .long y2, .null, .int x4, .int x5, .int x6, v7] [] Q)) : X xs L (d + 1) 9 53 [.ref 13, .int x1, .long y2, .null, .int x4, .int x5, .int x6, v7] [] (S, I, J, R, c) Q := by
  refine X_iload_n (q := 1) (show decode (mB 9) 53 = .ok (.iload_n 1, 1) by decide +kernel) (pc' := 54) rfl rfl rfl ?_
  refine X_iload (q := 4) (show decode (mB 9) 54 = .ok (.iload 4, 2) by decide +kernel) (pc' := 56) rfl rfl ?_
  exact X_callS (y := 3) (n := 2) (st := [.int x4, .int x1]) (as := [.int x1, .int x4]) (rest := []) (ls0 := [.int x1, .int x4]) (show decode (mB 9) 56 = .ok (.invokestatic 131, 3) by decide +kernel) (pc' := 59) rfl (by decide +kernel) (by decide +kernel) rfl rfl rfl rfl rfl rfl rfl rfl k
set_option maxRecDepth 4000 in
theorem b_X0_follow_59 {xs : Nat → Int32} {L d : Nat} {S : Nat → Shp} {I : Nat → Nat → Int32} {J : Nat → Nat → Int64} {R : Nat → Nat → Nat} {c : Nat × Nat} {Q : Option (Option Value) → MH → Prop} {x1 x4 x5 x6 sx0 : Int32} {y2 : Int64} {v7 : Value} (hL : Lay S R) (hb71 : inb (sx0 + x6) 3840 = true) (hb78 : inb (sx0 + x6) 3840 = true) (k : X xs L (d + 1) 9 20 [.ref 13, .int x1, .long (y2 ||| ((J 21 (sx0 + x6).toNatClampNeg) &&& (J 22 (sx0 + x6).toNatClampNeg))), .null, .int x4, .int (x5 + 1), .int x6, .int (sx0 + x6)] [] (S, I, J, R, c) Q) : X xs L (d + 1) 9 59 [.ref 13, .int x1, .long y2, .null, .int x4, .int x5, .int x6, v7] [.int sx0] (S, I, J, R, c) Q := by
  refine X_iload (q := 6) (show decode (mB 9) 59 = .ok (.iload 6, 2) by decide +kernel) (pc' := 61) rfl rfl ?_
  refine X_iadd (show decode (mB 9) 61 = .ok (.iadd, 1) by decide +kernel) (pc' := 62) rfl ?_
  refine X_istore (q := 7) (ls' := [.ref 13, .int x1, .long y2, .null, .int x4, .int x5, .int x6, .int (sx0 + x6)]) (show decode (mB 9) 62 = .ok (.istore 7, 2) by decide +kernel) (pc' := 64) rfl rfl ?_
  refine X_lload_n (q := 2) (show decode (mB 9) 64 = .ok (.lload_n 2, 1) by decide +kernel) (pc' := 65) rfl rfl rfl ?_
  refine X_aload_n (q := 0) (show decode (mB 9) 65 = .ok (.aload_n 0, 1) by decide +kernel) (pc' := 66) rfl rfl rfl ?_
  refine X_getR (ci := 0) (f := 10) (q := 21) (show decode (mB 9) 66 = .ok (.getfield 35, 3) by decide +kernel) (pc' := 69) rfl (ls_13 hL) (by decide +kernel) rfl (lr_13_10 hL) ?_
  refine X_iload (q := 7) (show decode (mB 9) 69 = .ok (.iload 7, 2) by decide +kernel) (pc' := 71) rfl rfl ?_
  refine X_laload (w := J 21 (sx0 + x6).toNatClampNeg) (show decode (mB 9) 71 = .ok (.laload, 1) by decide +kernel) (pc' := 72) rfl (ls_21 hL) hb71 rfl ?_
  refine X_aload_n (q := 0) (show decode (mB 9) 72 = .ok (.aload_n 0, 1) by decide +kernel) (pc' := 73) rfl rfl rfl ?_
  refine X_getR (ci := 0) (f := 11) (q := 22) (show decode (mB 9) 73 = .ok (.getfield 38, 3) by decide +kernel) (pc' := 76) rfl (ls_13 hL) (by decide +kernel) rfl (lr_13_11 hL) ?_
  refine X_iload (q := 7) (show decode (mB 9) 76 = .ok (.iload 7, 2) by decide +kernel) (pc' := 78) rfl rfl ?_
  refine X_laload (w := J 22 (sx0 + x6).toNatClampNeg) (show decode (mB 9) 78 = .ok (.laload, 1) by decide +kernel) (pc' := 79) rfl (ls_22 hL) hb78 rfl ?_
  refine X_land (show decode (mB 9) 79 = .ok (.land, 1) by decide +kernel) (pc' := 80) rfl ?_
  refine X_lor (show decode (mB 9) 80 = .ok (.lor, 1) by decide +kernel) (pc' := 81) rfl ?_
  refine X_lstore_n (q := 2) (ls' := [.ref 13, .int x1, .long (y2 ||| ((J 21 (sx0 + x6).toNatClampNeg) &&& (J 22 (sx0 + x6).toNatClampNeg))), .null, .int x4, .int x5, .int x6, .int (sx0 + x6)]) (show decode (mB 9) 81 = .ok (.lstore_n 2, 1) by decide +kernel) (pc' := 82) rfl rfl rfl ?_
  refine X_iinc (q := 5) (v := x5 + 1) (ls' := [.ref 13, .int x1, .long (y2 ||| ((J 21 (sx0 + x6).toNatClampNeg) &&& (J 22 (sx0 + x6).toNatClampNeg))), .null, .int x4, .int (x5 + 1), .int x6, .int (sx0 + x6)]) (show decode (mB 9) 82 = .ok (.iinc 5 1, 3) by decide +kernel) (pc' := 85) rfl rfl rfl rfl ?_
  refine X_goto (tgt := 20) (show decode (mB 9) 85 = .ok (.goto (-65), 3) by decide +kernel) rfl ?_
  exact k
set_option maxRecDepth 4000 in
theorem b_X0_follow_88 {xs : Nat → Int32} {L d : Nat} {S : Nat → Shp} {I : Nat → Nat → Int32} {J : Nat → Nat → Int64} {R : Nat → Nat → Nat} {c : Nat × Nat} {Q : Option (Option Value) → MH → Prop} {x1 x4 x5 : Int32} {y2 : Int64} {v6 v7 : Value}  (k : X xs L (d + 1) 9 5 [.ref 13, .int x1, .long y2, .null, .int (x4 + 1), .int x5, v6, v7] [] (S, I, J, R, c) Q) : X xs L (d + 1) 9 88 [.ref 13, .int x1, .long y2, .null, .int x4, .int x5, v6, v7] [] (S, I, J, R, c) Q := by
  refine X_iinc (q := 4) (v := x4 + 1) (ls' := [.ref 13, .int x1, .long y2, .null, .int (x4 + 1), .int x5, v6, v7]) (show decode (mB 9) 88 = .ok (.iinc 4 1, 3) by decide +kernel) (pc' := 91) rfl rfl rfl rfl ?_
  refine X_goto (tgt := 5) (show decode (mB 9) 91 = .ok (.goto (-86), 3) by decide +kernel) rfl ?_
  exact k
set_option maxRecDepth 4000 in
theorem b_X0_follow_94 {xs : Nat → Int32} {L d : Nat} {S : Nat → Shp} {I : Nat → Nat → Int32} {J : Nat → Nat → Int64} {R : Nat → Nat → Nat} {c : Nat × Nat} {Q : Option (Option Value) → MH → Prop} {x1 x4 : Int32} {y2 : Int64} {v5 v6 v7 : Value} (hL : Lay S R) (hb105 : inb x1 8 = true) (k : Q (some none) (S, I, (u2 J 23 x1.toNatClampNeg (y2 &&& (J 13 4))), R, c)) : X xs L (d + 1) 9 94 [.ref 13, .int x1, .long y2, .null, .int x4, v5, v6, v7] [] (S, I, J, R, c) Q := by
  refine X_aload_n (q := 0) (show decode (mB 9) 94 = .ok (.aload_n 0, 1) by decide +kernel) (pc' := 95) rfl rfl rfl ?_
  refine X_getR (ci := 0) (f := 12) (q := 23) (show decode (mB 9) 95 = .ok (.getfield 41, 3) by decide +kernel) (pc' := 98) rfl (ls_13 hL) (by decide +kernel) rfl (lr_13_12 hL) ?_
  refine X_iload_n (q := 1) (show decode (mB 9) 98 = .ok (.iload_n 1, 1) by decide +kernel) (pc' := 99) rfl rfl rfl ?_
  refine X_lload_n (q := 2) (show decode (mB 9) 99 = .ok (.lload_n 2, 1) by decide +kernel) (pc' := 100) rfl rfl rfl ?_
  refine X_aload_n (q := 0) (show decode (mB 9) 100 = .ok (.aload_n 0, 1) by decide +kernel) (pc' := 101) rfl rfl rfl ?_
  refine X_getJ (ci := 0) (f := 4) (x := J 13 4) (show decode (mB 9) 101 = .ok (.getfield 73, 3) by decide +kernel) (pc' := 104) rfl (ls_13 hL) (by decide +kernel) rfl rfl ?_
  refine X_land (show decode (mB 9) 104 = .ok (.land, 1) by decide +kernel) (pc' := 105) rfl ?_
  refine X_lastore (show decode (mB 9) 105 = .ok (.lastore, 1) by decide +kernel) (pc' := 106) rfl (ls_23 hL) hb105 ?_
  exact X_return (show decode (mB 9) 106 = .ok (.return_, 1) by decide +kernel) (by decide +kernel) k
set_option maxRecDepth 4000 in
theorem b_X0_joinOwn_0 {xs : Nat → Int32} {L d : Nat} {S : Nat → Shp} {I : Nat → Nat → Int32} {J : Nat → Nat → Int64} {R : Nat → Nat → Nat} {c : Nat × Nat} {Q : Option (Option Value) → MH → Prop} {x1 x2 x3 : Int32} {q_13_0 : Nat} (hL : Lay S R) (hq_13_0 : R 13 0 = q_13_0) (h_q_13_0 : LyCi S R q_13_0) (hb8 : inb x1 40 = true) (kt : (I (q_13_0 + 2) x1.toNatClampNeg) = 0 → X xs L (d + 1) 10 26 [.ref 13, .int x1, .int x2, .int x3, .int (I (q_13_0 + 2) x1.toNatClampNeg), .null, .null] [] (S, I, J, R, c) Q) (kf : ¬ ((I (q_13_0 + 2) x1.toNatClampNeg) = 0) → X xs L (d + 1) 10 16 [.ref 13, .int x1, .int x2, .int x3, .int (I (q_13_0 + 2) x1.toNatClampNeg), .null, .null] [] (S, I, J, R, c) Q) : X xs L (d + 1) 10 0 [.ref 13, .int x1, .int x2, .int x3, .null, .null, .null] [] (S, I, J, R, c) Q := by
  refine X_aload_n (q := 0) (show decode (mB 10) 0 = .ok (.aload_n 0, 1) by decide +kernel) (pc' := 1) rfl rfl rfl ?_
  refine X_getR (ci := 0) (f := 0) (q := q_13_0) (show decode (mB 10) 1 = .ok (.getfield 47, 3) by decide +kernel) (pc' := 4) rfl (ls_13 hL) (by decide +kernel) rfl hq_13_0 ?_
  refine X_getR (ci := 1) (f := 2) (q := (q_13_0 + 2)) (show decode (mB 10) 4 = .ok (.getfield 159, 3) by decide +kernel) (pc' := 7) rfl h_q_13_0.s0 (by decide +kernel) rfl h_q_13_0.r0_2 ?_
  refine X_iload_n (q := 1) (show decode (mB 10) 7 = .ok (.iload_n 1, 1) by decide +kernel) (pc' := 8) rfl rfl rfl ?_
  refine X_iaload (w := I (q_13_0 + 2) x1.toNatClampNeg) (show decode (mB 10) 8 = .ok (.iaload, 1) by decide +kernel) (pc' := 9) rfl h_q_13_0.s2 hb8 rfl ?_
  refine X_istore (q := 4) (ls' := [.ref 13, .int x1, .int x2, .int x3, .int (I (q_13_0 + 2) x1.toNatClampNeg), .null, .null]) (show decode (mB 10) 9 = .ok (.istore 4, 2) by decide +kernel) (pc' := 11) rfl rfl ?_
  refine X_iload (q := 4) (show decode (mB 10) 11 = .ok (.iload 4, 2) by decide +kernel) (pc' := 13) rfl rfl ?_
  exact X_if_eq (tgt := 26) (show decode (mB 10) 13 = .ok (.ifCond .eq 13, 3) by decide +kernel) rfl (pc' := 16) rfl kt kf
set_option maxRecDepth 4000 in
theorem b_X0_joinOwn_16 {xs : Nat → Int32} {L d : Nat} {S : Nat → Shp} {I : Nat → Nat → Int32} {J : Nat → Nat → Int64} {R : Nat → Nat → Nat} {c : Nat × Nat} {Q : Option (Option Value) → MH → Prop} {x1 x2 x3 x4 : Int32}  (kt : ¬ x4 = 2 → X xs L (d + 1) 10 27 [.ref 13, .int x1, .int x2, .int x3, .int x4, .null, .null] [] (S, I, J, R, c) Q) (kf : ¬ (¬ x4 = 2) → X xs L (d + 1) 10 22 [.ref 13, .int x1, .int x2, .int x3, .int x4, .null, .null] [] (S, I, J, R, c) Q) : X xs L (d + 1) 10 16 [.ref 13, .int x1, .int x2, .int x3, .int x4, .null, .null] [] (S, I, J, R, c) Q := by
  refine X_iload (q := 4) (show decode (mB 10) 16 = .ok (.iload 4, 2) by decide +kernel) (pc' := 18) rfl rfl ?_
  refine X_iconst (v := 2) (show decode (mB 10) 18 = .ok (.iconst 2, 1) by decide +kernel) (pc' := 19) rfl rfl ?_
  exact X_icmp_ne (tgt := 27) (show decode (mB 10) 19 = .ok (.if_icmp .ne 8, 3) by decide +kernel) rfl (pc' := 22) rfl kt kf
set_option maxRecDepth 4000 in
theorem b_X0_joinOwn_22 {xs : Nat → Int32} {L d : Nat} {S : Nat → Shp} {I : Nat → Nat → Int32} {J : Nat → Nat → Int64} {R : Nat → Nat → Nat} {c : Nat × Nat} {Q : Option (Option Value) → MH → Prop} {x1 x2 x3 x4 : Int32}  (kt : ¬ x2 = 0 → X xs L (d + 1) 10 27 [.ref 13, .int x1, .int x2, .int x3, .int x4, .null, .null] [] (S, I, J, R, c) Q) (kf : ¬ (¬ x2 = 0) → X xs L (d + 1) 10 26 [.ref 13, .int x1, .int x2, .int x3, .int x4, .null, .null] [] (S, I, J, R, c) Q) : X xs L (d + 1) 10 22 [.ref 13, .int x1, .int x2, .int x3, .int x4, .null, .null] [] (S, I, J, R, c) Q := by
  refine X_iload_n (q := 2) (show decode (mB 10) 22 = .ok (.iload_n 2, 1) by decide +kernel) (pc' := 23) rfl rfl rfl ?_
  exact X_if_ne (tgt := 27) (show decode (mB 10) 23 = .ok (.ifCond .ne 4, 3) by decide +kernel) rfl (pc' := 26) rfl kt kf
set_option maxRecDepth 4000 in
theorem b_X0_joinOwn_26 {xs : Nat → Int32} {L d : Nat} {S : Nat → Shp} {I : Nat → Nat → Int32} {J : Nat → Nat → Int64} {R : Nat → Nat → Nat} {c : Nat × Nat} {Q : Option (Option Value) → MH → Prop} {x1 x2 x3 x4 : Int32}  (k : Q (some none) (S, I, J, R, c)) : X xs L (d + 1) 10 26 [.ref 13, .int x1, .int x2, .int x3, .int x4, .null, .null] [] (S, I, J, R, c) Q := by
  exact X_return (show decode (mB 10) 26 = .ok (.return_, 1) by decide +kernel) (by decide +kernel) k
set_option maxRecDepth 4000 in
theorem b_X0_joinOwn_27 {xs : Nat → Int32} {L d : Nat} {S : Nat → Shp} {I : Nat → Nat → Int32} {J : Nat → Nat → Int64} {R : Nat → Nat → Nat} {c : Nat × Nat} {Q : Option (Option Value) → MH → Prop} {x1 x2 x3 x4 : Int32}  (kt : ¬ x4 = 2 → X xs L (d + 1) 10 40 [.ref 13, .int x1, .int x2, .int x3, .int x4, .null, .null] [.int x3] (S, I, J, R, c) Q) (kf : ¬ (¬ x4 = 2) → X xs L (d + 1) 10 34 [.ref 13, .int x1, .int x2, .int x3, .int x4, .null, .null] [.int x3] (S, I, J, R, c) Q) : X xs L (d + 1) 10 27 [.ref 13, .int x1, .int x2, .int x3, .int x4, .null, .null] [] (S, I, J, R, c) Q := by
  refine X_iload_n (q := 3) (show decode (mB 10) 27 = .ok (.iload_n 3, 1) by decide +kernel) (pc' := 28) rfl rfl rfl ?_
  refine X_iload (q := 4) (show decode (mB 10) 28 = .ok (.iload 4, 2) by decide +kernel) (pc' := 30) rfl rfl ?_
  refine X_iconst (v := 2) (show decode (mB 10) 30 = .ok (.iconst 2, 1) by decide +kernel) (pc' := 31) rfl rfl ?_
  exact X_icmp_ne (tgt := 40) (show decode (mB 10) 31 = .ok (.if_icmp .ne 9, 3) by decide +kernel) rfl (pc' := 34) rfl kt kf
set_option maxRecDepth 4000 in
theorem b_X0_joinOwn_34 {xs : Nat → Int32} {L d : Nat} {S : Nat → Shp} {I : Nat → Nat → Int32} {J : Nat → Nat → Int64} {R : Nat → Nat → Nat} {c : Nat × Nat} {Q : Option (Option Value) → MH → Prop} {x1 x2 x3 x4 sx0 : Int32}  (k : X xs L (d + 1) 10 41 [.ref 13, .int x1, .int x2, .int x3, .int x4, .null, .null] [.int (x2 - 1), .int sx0] (S, I, J, R, c) Q) : X xs L (d + 1) 10 34 [.ref 13, .int x1, .int x2, .int x3, .int x4, .null, .null] [.int sx0] (S, I, J, R, c) Q := by
  refine X_iload_n (q := 2) (show decode (mB 10) 34 = .ok (.iload_n 2, 1) by decide +kernel) (pc' := 35) rfl rfl rfl ?_
  refine X_iconst (v := 1) (show decode (mB 10) 35 = .ok (.iconst 1, 1) by decide +kernel) (pc' := 36) rfl rfl ?_
  refine X_isub (show decode (mB 10) 36 = .ok (.isub, 1) by decide +kernel) (pc' := 37) rfl ?_
  refine X_goto (tgt := 41) (show decode (mB 10) 37 = .ok (.goto 4, 3) by decide +kernel) rfl ?_
  exact k
set_option maxRecDepth 4000 in
theorem b_X0_joinOwn_40 {xs : Nat → Int32} {L d : Nat} {S : Nat → Shp} {I : Nat → Nat → Int32} {J : Nat → Nat → Int64} {R : Nat → Nat → Nat} {c : Nat × Nat} {Q : Option (Option Value) → MH → Prop} {x1 x2 x3 x4 sx0 : Int32}  (k : X xs L (d + 1) 10 41 [.ref 13, .int x1, .int x2, .int x3, .int x4, .null, .null] [.int x2, .int sx0] (S, I, J, R, c) Q) : X xs L (d + 1) 10 40 [.ref 13, .int x1, .int x2, .int x3, .int x4, .null, .null] [.int sx0] (S, I, J, R, c) Q := by
  refine X_iload_n (q := 2) (show decode (mB 10) 40 = .ok (.iload_n 2, 1) by decide +kernel) (pc' := 41) rfl rfl rfl ?_
  exact k
set_option maxRecDepth 4000 in
theorem b_X0_joinOwn_41 {xs : Nat → Int32} {L d : Nat} {S : Nat → Shp} {I : Nat → Nat → Int32} {J : Nat → Nat → Int64} {R : Nat → Nat → Nat} {c : Nat × Nat} {Q : Option (Option Value) → MH → Prop} {x1 x2 x3 x4 sx0 sx1 : Int32}  (k : X xs L d 3 0 [.int sx0, .int sx1] [] (S, I, J, R, c) (Kc xs L (d + 1) 10 44 [.ref 13, .int x1, .int x2, .int x3, .int x4, .null, .null] [] Q)) : X xs L (d + 1) 10 41 [.ref 13, .int x1, .int x2, .int x3, .int x4, .null, .null] [.int sx1, .int sx0] (S, I, J, R, c) Q := by
  exact X_callS (y := 3) (n := 2) (st := [.int sx1, .int sx0]) (as := [.int sx0, .int sx1]) (rest := []) (ls0 := [.int sx0, .int sx1]) (show decode (mB 10) 41 = .ok (.invokestatic 131, 3) by decide +kernel) (pc' := 44) rfl (by decide +kernel) (by decide +kernel) rfl rfl rfl rfl rfl rfl rfl rfl k
set_option maxRecDepth 4000 in
theorem b_X0_joinOwn_44 {xs : Nat → Int32} {L d : Nat} {S : Nat → Shp} {I : Nat → Nat → Int32} {J : Nat → Nat → Int64} {R : Nat → Nat → Nat} {c : Nat × Nat} {Q : Option (Option Value) → MH → Prop} {x1 x2 x3 x4 sx0 : Int32} {q_13_0 : Nat} (hL : Lay S R) (hq_13_0 : R 13 0 = q_13_0) (h_q_13_0 : LyCi S R q_13_0) (hb65 : inb x1 40 = true) (hb74 : inb x1 40 = true) (k : X xs L d 72 0 [.ref 14, .ref (q_13_0 + 5), .int (I (q_13_0 + 3) x1.toNatClampNeg), .int (I (q_13_0 + 4) x1.toNatClampNeg), .ref 21, .ref 22, .int sx0, .null, .null] [] (S, I, J, R, c) (Kc xs L (d + 1) 10 88 [.ref 13, .int x1, .int x2, .int x3, .int x4, .int sx0, .null] [] Q)) : X xs L (d + 1) 10 44 [.ref 13, .int x1, .int x2, .int x3, .int x4, .null, .null] [.int sx0] (S, I, J, R, c) Q := by
  refine X_istore (q := 5) (ls' := [.ref 13, .int x1, .int x2, .int x3, .int x4, .int sx0, .null]) (show decode (mB 10) 44 = .ok (.istore 5, 2) by decide +kernel) (pc' := 46) rfl rfl ?_
  refine X_aload_n (q := 0) (show decode (mB 10) 46 = .ok (.aload_n 0, 1) by decide +kernel) (pc' := 47) rfl rfl rfl ?_
  refine X_getR (ci := 0) (f := 5) (q := 14) (show decode (mB 10) 47 = .ok (.getfield 12, 3) by decide +kernel) (pc' := 50) rfl (ls_13 hL) (by decide +kernel) rfl (lr_13_5 hL) ?_
  refine X_aload_n (q := 0) (show decode (mB 10) 50 = .ok (.aload_n 0, 1) by decide +kernel) (pc' := 51) rfl rfl rfl ?_
  refine X_getR (ci := 0) (f := 0) (q := q_13_0) (show decode (mB 10) 51 = .ok (.getfield 47, 3) by decide +kernel) (pc' := 54) rfl (ls_13 hL) (by decide +kernel) rfl hq_13_0 ?_
  refine X_getR (ci := 1) (f := 5) (q := (q_13_0 + 5)) (show decode (mB 10) 54 = .ok (.getfield 162, 3) by decide +kernel) (pc' := 57) rfl h_q_13_0.s0 (by decide +kernel) rfl h_q_13_0.r0_5 ?_
  refine X_aload_n (q := 0) (show decode (mB 10) 57 = .ok (.aload_n 0, 1) by decide +kernel) (pc' := 58) rfl rfl rfl ?_
  refine X_getR (ci := 0) (f := 0) (q := q_13_0) (show decode (mB 10) 58 = .ok (.getfield 47, 3) by decide +kernel) (pc' := 61) rfl (ls_13 hL) (by decide +kernel) rfl hq_13_0 ?_
  refine X_getR (ci := 1) (f := 3) (q := (q_13_0 + 3)) (show decode (mB 10) 61 = .ok (.getfield 163, 3) by decide +kernel) (pc' := 64) rfl h_q_13_0.s0 (by decide +kernel) rfl h_q_13_0.r0_3 ?_
  refine X_iload_n (q := 1) (show decode (mB 10) 64 = .ok (.iload_n 1, 1) by decide +kernel) (pc' := 65) rfl rfl rfl ?_
  refine X_iaload (w := I (q_13_0 + 3) x1.toNatClampNeg) (show decode (mB 10) 65 = .ok (.iaload, 1) by decide +kernel) (pc' := 66) rfl h_q_13_0.s3 hb65 rfl ?_
  refine X_aload_n (q := 0) (show decode (mB 10) 66 = .ok (.aload_n 0, 1) by decide +kernel) (pc' := 67) rfl rfl rfl ?_
  refine X_getR (ci := 0) (f := 0) (q := q_13_0) (show decode (mB 10) 67 = .ok (.getfield 47, 3) by decide +kernel) (pc' := 70) rfl (ls_13 hL) (by decide +kernel) rfl hq_13_0 ?_
  refine X_getR (ci := 1) (f := 4) (q := (q_13_0 + 4)) (show decode (mB 10) 70 = .ok (.getfield 164, 3) by decide +kernel) (pc' := 73) rfl h_q_13_0.s0 (by decide +kernel) rfl h_q_13_0.r0_4 ?_
  refine X_iload_n (q := 1) (show decode (mB 10) 73 = .ok (.iload_n 1, 1) by decide +kernel) (pc' := 74) rfl rfl rfl ?_
  refine X_iaload (w := I (q_13_0 + 4) x1.toNatClampNeg) (show decode (mB 10) 74 = .ok (.iaload, 1) by decide +kernel) (pc' := 75) rfl h_q_13_0.s4 hb74 rfl ?_
  refine X_aload_n (q := 0) (show decode (mB 10) 75 = .ok (.aload_n 0, 1) by decide +kernel) (pc' := 76) rfl rfl rfl ?_
  refine X_getR (ci := 0) (f := 10) (q := 21) (show decode (mB 10) 76 = .ok (.getfield 35, 3) by decide +kernel) (pc' := 79) rfl (ls_13 hL) (by decide +kernel) rfl (lr_13_10 hL) ?_
  refine X_aload_n (q := 0) (show decode (mB 10) 79 = .ok (.aload_n 0, 1) by decide +kernel) (pc' := 80) rfl rfl rfl ?_
  refine X_getR (ci := 0) (f := 11) (q := 22) (show decode (mB 10) 80 = .ok (.getfield 38, 3) by decide +kernel) (pc' := 83) rfl (ls_13 hL) (by decide +kernel) rfl (lr_13_11 hL) ?_
  refine X_iload (q := 5) (show decode (mB 10) 83 = .ok (.iload 5, 2) by decide +kernel) (pc' := 85) rfl rfl ?_
  exact X_callV (y := 72) (n := 6) (st := [.int sx0, .ref 22, .ref 21, .int (I (q_13_0 + 4) x1.toNatClampNeg), .int (I (q_13_0 + 3) x1.toNatClampNeg), .ref (q_13_0 + 5), .ref 14]) (as := [.ref 14, .ref (q_13_0 + 5), .int (I (q_13_0 + 3) x1.toNatClampNeg), .int (I (q_13_0 + 4) x1.toNatClampNeg), .ref 21, .ref 22, .int sx0]) (rest := []) (ls0 := [.ref 14, .ref (q_13_0 + 5), .int (I (q_13_0 + 3) x1.toNatClampNeg), .int (I (q_13_0 + 4) x1.toNatClampNeg), .ref 21, .ref 22, .int sx0, .null, .null]) (ci := 6) (show decode (mB 10) 85 = .ok (.invokevirtual 124, 3) by decide +kernel) (pc' := 88) rfl (by decide +kernel) (by decide +kernel) rfl (ls_14 hL) (by decide +kernel) rfl rfl rfl rfl rfl k
set_option maxRecDepth 4000 in
theorem b_X0_joinOwn_88 {xs : Nat → Int32} {L d : Nat} {S : Nat → Shp} {I : Nat → Nat → Int32} {J : Nat → Nat → Int64} {R : Nat → Nat → Nat} {c : Nat × Nat} {Q : Option (Option Value) → MH → Prop} {x1 x2 x3 x4 x5 : Int32}  (k : X xs L d 3 0 [.int x3, .int x2] [] (S, I, J, R, c) (Kc xs L (d + 1) 10 93 [.ref 13, .int x1, .int x2, .int x3, .int x4, .int x5, .null] [] Q)) : X xs L (d + 1) 10 88 [.ref 13, .int x1, .int x2, .int x3, .int x4, .int x5, .null] [] (S, I, J, R, c) Q := by
  refine X_iload_n (q := 3) (show decode (mB 10) 88 = .ok (.iload_n 3, 1) by decide +kernel) (pc' := 89) rfl rfl rfl ?_
  refine X_iload_n (q := 2) (show decode (mB 10) 89 = .ok (.iload_n 2, 1) by decide +kernel) (pc' := 90) rfl rfl rfl ?_
  exact X_callS (y := 3) (n := 2) (st := [.int x2, .int x3]) (as := [.int x3, .int x2]) (rest := []) (ls0 := [.int x3, .int x2]) (show decode (mB 10) 90 = .ok (.invokestatic 131, 3) by decide +kernel) (pc' := 93) rfl (by decide +kernel) (by decide +kernel) rfl rfl rfl rfl rfl rfl rfl rfl k
set_option maxRecDepth 4000 in
theorem b_X0_joinOwn_93 {xs : Nat → Int32} {L d : Nat} {S : Nat → Shp} {I : Nat → Nat → Int32} {J : Nat → Nat → Int64} {R : Nat → Nat → Nat} {c : Nat × Nat} {Q : Option (Option Value) → MH → Prop} {x1 x2 x3 x4 x5 sx0 : Int32} (hL : Lay S R) (hb104 : inb (sx0 + x1) 3840 = true) (k : X xs L d 73 0 [.ref 14] [] (S, I, J, R, c) (Kc xs L (d + 1) 10 112 [.ref 13, .int x1, .int x2, .int x3, .int x4, .int x5, .int (sx0 + x1)] [.long (J 21 (sx0 + x1).toNatClampNeg), .int (sx0 + x1), .ref 21] Q)) : X xs L (d + 1) 10 93 [.ref 13, .int x1, .int x2, .int x3, .int x4, .int x5, .null] [.int sx0] (S, I, J, R, c) Q := by
  refine X_iload_n (q := 1) (show decode (mB 10) 93 = .ok (.iload_n 1, 1) by decide +kernel) (pc' := 94) rfl rfl rfl ?_
  refine X_iadd (show decode (mB 10) 94 = .ok (.iadd, 1) by decide +kernel) (pc' := 95) rfl ?_
  refine X_istore (q := 6) (ls' := [.ref 13, .int x1, .int x2, .int x3, .int x4, .int x5, .int (sx0 + x1)]) (show decode (mB 10) 95 = .ok (.istore 6, 2) by decide +kernel) (pc' := 97) rfl rfl ?_
  refine X_aload_n (q := 0) (show decode (mB 10) 97 = .ok (.aload_n 0, 1) by decide +kernel) (pc' := 98) rfl rfl rfl ?_
  refine X_getR (ci := 0) (f := 10) (q := 21) (show decode (mB 10) 98 = .ok (.getfield 35, 3) by decide +kernel) (pc' := 101) rfl (ls_13 hL) (by decide +kernel) rfl (lr_13_10 hL) ?_
  refine X_iload (q := 6) (show decode (mB 10) 101 = .ok (.iload 6, 2) by decide +kernel) (pc' := 103) rfl rfl ?_
  refine X_dup2 (show decode (mB 10) 103 = .ok (.dup2, 1) by decide +kernel) (pc' := 104) rfl rfl rfl ?_
  refine X_laload (w := J 21 (sx0 + x1).toNatClampNeg) (show decode (mB 10) 104 = .ok (.laload, 1) by decide +kernel) (pc' := 105) rfl (ls_21 hL) hb104 rfl ?_
  refine X_aload_n (q := 0) (show decode (mB 10) 105 = .ok (.aload_n 0, 1) by decide +kernel) (pc' := 106) rfl rfl rfl ?_
  refine X_getR (ci := 0) (f := 5) (q := 14) (show decode (mB 10) 106 = .ok (.getfield 12, 3) by decide +kernel) (pc' := 109) rfl (ls_13 hL) (by decide +kernel) rfl (lr_13_5 hL) ?_
  exact X_callV (y := 73) (n := 0) (st := [.ref 14, .long (J 21 (sx0 + x1).toNatClampNeg), .int (sx0 + x1), .ref 21]) (as := [.ref 14]) (rest := [.long (J 21 (sx0 + x1).toNatClampNeg), .int (sx0 + x1), .ref 21]) (ls0 := [.ref 14]) (ci := 6) (show decode (mB 10) 109 = .ok (.invokevirtual 128, 3) by decide +kernel) (pc' := 112) rfl (by decide +kernel) (by decide +kernel) rfl (ls_14 hL) (by decide +kernel) rfl rfl rfl rfl rfl k
set_option maxRecDepth 4000 in
theorem b_X0_joinOwn_112 {xs : Nat → Int32} {L d : Nat} {S : Nat → Shp} {I : Nat → Nat → Int32} {J : Nat → Nat → Int64} {R : Nat → Nat → Nat} {c : Nat × Nat} {Q : Option (Option Value) → MH → Prop} {x1 x2 x3 x4 x5 x6 sx1 : Int32} {sy2 sy3 : Int64} (hL : Lay S R) (hb113 : inb sx1 3840 = true) (hb121 : inb x6 3840 = true) (k : X xs L d 74 0 [.ref 14] [] (S, I, (u2 J 21 sx1.toNatClampNeg (sy2 ||| sy3)), R, c) (Kc xs L (d + 1) 10 129 [.ref 13, .int x1, .int x2, .int x3, .int x4, .int x5, .int x6] [.long (J 22 x6.toNatClampNeg), .int x6, .ref 22] Q)) : X xs L (d + 1) 10 112 [.ref 13, .int x1, .int x2, .int x3, .int x4, .int x5, .int x6] [.long sy3, .long sy2, .int sx1, .ref 21] (S, I, J, R, c) Q := by
  refine X_lor (show decode (mB 10) 112 = .ok (.lor, 1) by decide +kernel) (pc' := 113) rfl ?_
  refine X_lastore (show decode (mB 10) 113 = .ok (.lastore, 1) by decide +kernel) (pc' := 114) rfl (ls_21 hL) hb113 ?_
  refine X_aload_n (q := 0) (show decode (mB 10) 114 = .ok (.aload_n 0, 1) by decide +kernel) (pc' := 115) rfl rfl rfl ?_
  refine X_getR (ci := 0) (f := 11) (q := 22) (show decode (mB 10) 115 = .ok (.getfield 38, 3) by decide +kernel) (pc' := 118) rfl (ls_13 hL) (by decide +kernel) rfl (lr_13_11 hL) ?_
  refine X_iload (q := 6) (show decode (mB 10) 118 = .ok (.iload 6, 2) by decide +kernel) (pc' := 120) rfl rfl ?_
  refine X_dup2 (show decode (mB 10) 120 = .ok (.dup2, 1) by decide +kernel) (pc' := 121) rfl rfl rfl ?_
  refine X_laload (w := J 22 x6.toNatClampNeg) (show decode (mB 10) 121 = .ok (.laload, 1) by decide +kernel) (pc' := 122) rfl (ls_22 hL) hb121 (by simp [u2, u1]) ?_
  refine X_aload_n (q := 0) (show decode (mB 10) 122 = .ok (.aload_n 0, 1) by decide +kernel) (pc' := 123) rfl rfl rfl ?_
  refine X_getR (ci := 0) (f := 5) (q := 14) (show decode (mB 10) 123 = .ok (.getfield 12, 3) by decide +kernel) (pc' := 126) rfl (ls_13 hL) (by decide +kernel) rfl (lr_13_5 hL) ?_
  exact X_callV (y := 74) (n := 0) (st := [.ref 14, .long (J 22 x6.toNatClampNeg), .int x6, .ref 22]) (as := [.ref 14]) (rest := [.long (J 22 x6.toNatClampNeg), .int x6, .ref 22]) (ls0 := [.ref 14]) (ci := 6) (show decode (mB 10) 126 = .ok (.invokevirtual 165, 3) by decide +kernel) (pc' := 129) rfl (by decide +kernel) (by decide +kernel) rfl (ls_14 hL) (by decide +kernel) rfl rfl rfl rfl rfl k
set_option maxRecDepth 4000 in
theorem b_X0_joinOwn_129 {xs : Nat → Int32} {L d : Nat} {S : Nat → Shp} {I : Nat → Nat → Int32} {J : Nat → Nat → Int64} {R : Nat → Nat → Nat} {c : Nat × Nat} {Q : Option (Option Value) → MH → Prop} {x1 x2 x3 x4 x5 x6 sx1 : Int32} {sy2 sy3 : Int64} (hL : Lay S R) (hb130 : inb sx1 3840 = true) (k : Q (some none) (S, I, (u2 J 22 sx1.toNatClampNeg (sy2 ||| sy3)), R, c)) : X xs L (d + 1) 10 129 [.ref 13, .int x1, .int x2, .int x3, .int x4, .int x5, .int x6] [.long sy3, .long sy2, .int sx1, .ref 22] (S, I, J, R, c) Q := by
  refine X_lor (show decode (mB 10) 129 = .ok (.lor, 1) by decide +kernel) (pc' := 130) rfl ?_
  refine X_lastore (show decode (mB 10) 130 = .ok (.lastore, 1) by decide +kernel) (pc' := 131) rfl (ls_22 hL) hb130 ?_
  exact X_return (show decode (mB 10) 131 = .ok (.return_, 1) by decide +kernel) (by decide +kernel) k
set_option maxRecDepth 4000 in
theorem b_X0_compare_0 {xs : Nat → Int32} {L d : Nat} {S : Nat → Shp} {I : Nat → Nat → Int32} {J : Nat → Nat → Int64} {R : Nat → Nat → Nat} {c : Nat × Nat} {Q : Option (Option Value) → MH → Prop} {x1 : Int32} {q_13_1 : Nat} (hL : Lay S R) (hq_13_1 : R 13 1 = q_13_1) (h_q_13_1 : LyCm S R q_13_1) (k : X xs L (d + 1) 11 11 [.ref 13, .int x1, .long 0, .null, .int (I q_13_1 2), .null] [] (S, I, J, R, c) Q) : X xs L (d + 1) 11 0 [.ref 13, .int x1, .null, .null, .null, .null] [] (S, I, J, R, c) Q := by
  refine X_lconst (v := 0) (show decode (mB 11) 0 = .ok (.lconst 0, 1) by decide +kernel) (pc' := 1) rfl rfl ?_
  refine X_lstore_n (q := 2) (ls' := [.ref 13, .int x1, .long 0, .null, .null, .null]) (show decode (mB 11) 1 = .ok (.lstore_n 2, 1) by decide +kernel) (pc' := 2) rfl rfl rfl ?_
  refine X_aload_n (q := 0) (show decode (mB 11) 2 = .ok (.aload_n 0, 1) by decide +kernel) (pc' := 3) rfl rfl rfl ?_
  refine X_getR (ci := 0) (f := 1) (q := q_13_1) (show decode (mB 11) 3 = .ok (.getfield 51, 3) by decide +kernel) (pc' := 6) rfl (ls_13 hL) (by decide +kernel) rfl hq_13_1 ?_
  refine X_getI (ci := 3) (f := 2) (x := I q_13_1 2) (show decode (mB 11) 6 = .ok (.getfield 137, 3) by decide +kernel) (pc' := 9) rfl h_q_13_1.s0 (by decide +kernel) rfl rfl ?_
  refine X_istore (q := 4) (ls' := [.ref 13, .int x1, .long 0, .null, .int (I q_13_1 2), .null]) (show decode (mB 11) 9 = .ok (.istore 4, 2) by decide +kernel) (pc' := 11) rfl rfl ?_
  exact k
set_option maxRecDepth 4000 in
theorem b_X0_compare_11 {xs : Nat → Int32} {L d : Nat} {S : Nat → Shp} {I : Nat → Nat → Int32} {J : Nat → Nat → Int64} {R : Nat → Nat → Nat} {c : Nat × Nat} {Q : Option (Option Value) → MH → Prop} {x1 x4 : Int32} {y2 : Int64} {v5 : Value} {q_13_1 : Nat} (hL : Lay S R) (hq_13_1 : R 13 1 = q_13_1) (h_q_13_1 : LyCm S R q_13_1) (kt : (I q_13_1 3) ≤ x4 → X xs L (d + 1) 11 74 [.ref 13, .int x1, .long y2, .null, .int x4, v5] [] (S, I, J, R, c) Q) (kf : ¬ ((I q_13_1 3) ≤ x4) → X xs L (d + 1) 11 23 [.ref 13, .int x1, .long y2, .null, .int x4, v5] [] (S, I, J, R, c) Q) : X xs L (d + 1) 11 11 [.ref 13, .int x1, .long y2, .null, .int x4, v5] [] (S, I, J, R, c) Q := by
  refine X_iload (q := 4) (show decode (mB 11) 11 = .ok (.iload 4, 2) by decide +kernel) (pc' := 13) rfl rfl ?_
  refine X_aload_n (q := 0) (show decode (mB 11) 13 = .ok (.aload_n 0, 1) by decide +kernel) (pc' := 14) rfl rfl rfl ?_
  refine X_getR (ci := 0) (f := 1) (q := q_13_1) (show decode (mB 11) 14 = .ok (.getfield 51, 3) by decide +kernel) (pc' := 17) rfl (ls_13 hL) (by decide +kernel) rfl hq_13_1 ?_
  refine X_getI (ci := 3) (f := 3) (x := I q_13_1 3) (show decode (mB 11) 17 = .ok (.getfield 104, 3) by decide +kernel) (pc' := 20) rfl h_q_13_1.s0 (by decide +kernel) rfl rfl ?_
  exact X_icmp_ge (tgt := 74) (show decode (mB 11) 20 = .ok (.if_icmp .ge 54, 3) by decide +kernel) rfl (pc' := 23) rfl kt kf
set_option maxRecDepth 4000 in
theorem b_X0_compare_23 {xs : Nat → Int32} {L d : Nat} {S : Nat → Shp} {I : Nat → Nat → Int32} {J : Nat → Nat → Int64} {R : Nat → Nat → Nat} {c : Nat × Nat} {Q : Option (Option Value) → MH → Prop} {x1 x4 : Int32} {y2 : Int64} {v5 : Value} {q_13_1 : Nat} (hL : Lay S R) (hq_13_1 : R 13 1 = q_13_1) (h_q_13_1 : LyCm S R q_13_1) (hb32 : inb x4 48 = true) (k : X xs L (d + 1) 11 35 [.ref 13, .int x1, .long y2, .null, .int x4, .int (I (q_13_1 + 3) x4.toNatClampNeg)] [] (S, I, J, R, c) Q) : X xs L (d + 1) 11 23 [.ref 13, .int x1, .long y2, .null, .int x4, v5] [] (S, I, J, R, c) Q := by
  refine X_aload_n (q := 0) (show decode (mB 11) 23 = .ok (.aload_n 0, 1) by decide +kernel) (pc' := 24) rfl rfl rfl ?_
  refine X_getR (ci := 0) (f := 1) (q := q_13_1) (show decode (mB 11) 24 = .ok (.getfield 51, 3) by decide +kernel) (pc' := 27) rfl (ls_13 hL) (by decide +kernel) rfl hq_13_1 ?_
  refine X_getR (ci := 3) (f := 6) (q := (q_13_1 + 3)) (show decode (mB 11) 27 = .ok (.getfield 140, 3) by decide +kernel) (pc' := 30) rfl h_q_13_1.s0 (by decide +kernel) rfl h_q_13_1.r0_6 ?_
  refine X_iload (q := 4) (show decode (mB 11) 30 = .ok (.iload 4, 2) by decide +kernel) (pc' := 32) rfl rfl ?_
  refine X_iaload (w := I (q_13_1 + 3) x4.toNatClampNeg) (show decode (mB 11) 32 = .ok (.iaload, 1) by decide +kernel) (pc' := 33) rfl h_q_13_1.s3 hb32 rfl ?_
  refine X_istore (q := 5) (ls' := [.ref 13, .int x1, .long y2, .null, .int x4, .int (I (q_13_1 + 3) x4.toNatClampNeg)]) (show decode (mB 11) 33 = .ok (.istore 5, 2) by decide +kernel) (pc' := 35) rfl rfl ?_
  exact k
set_option maxRecDepth 4000 in
theorem b_X0_compare_35 {xs : Nat → Int32} {L d : Nat} {S : Nat → Shp} {I : Nat → Nat → Int32} {J : Nat → Nat → Int64} {R : Nat → Nat → Nat} {c : Nat × Nat} {Q : Option (Option Value) → MH → Prop} {x1 x4 x5 : Int32} {y2 : Int64} {q_13_1 : Nat} (hL : Lay S R) (hq_13_1 : R 13 1 = q_13_1) (h_q_13_1 : LyCm S R q_13_1) (hb46 : inb x4 48 = true) (kt : (I (q_13_1 + 4) x4.toNatClampNeg) < x5 → X xs L (d + 1) 11 68 [.ref 13, .int x1, .long y2, .null, .int x4, .int x5] [] (S, I, J, R, c) Q) (kf : ¬ ((I (q_13_1 + 4) x4.toNatClampNeg) < x5) → X xs L (d + 1) 11 50 [.ref 13, .int x1, .long y2, .null, .int x4, .int x5] [] (S, I, J, R, c) Q) : X xs L (d + 1) 11 35 [.ref 13, .int x1, .long y2, .null, .int x4, .int x5] [] (S, I, J, R, c) Q := by
  refine X_iload (q := 5) (show decode (mB 11) 35 = .ok (.iload 5, 2) by decide +kernel) (pc' := 37) rfl rfl ?_
  refine X_aload_n (q := 0) (show decode (mB 11) 37 = .ok (.aload_n 0, 1) by decide +kernel) (pc' := 38) rfl rfl rfl ?_
  refine X_getR (ci := 0) (f := 1) (q := q_13_1) (show decode (mB 11) 38 = .ok (.getfield 51, 3) by decide +kernel) (pc' := 41) rfl (ls_13 hL) (by decide +kernel) rfl hq_13_1 ?_
  refine X_getR (ci := 3) (f := 7) (q := (q_13_1 + 4)) (show decode (mB 11) 41 = .ok (.getfield 143, 3) by decide +kernel) (pc' := 44) rfl h_q_13_1.s0 (by decide +kernel) rfl h_q_13_1.r0_7 ?_
  refine X_iload (q := 4) (show decode (mB 11) 44 = .ok (.iload 4, 2) by decide +kernel) (pc' := 46) rfl rfl ?_
  refine X_iaload (w := I (q_13_1 + 4) x4.toNatClampNeg) (show decode (mB 11) 46 = .ok (.iaload, 1) by decide +kernel) (pc' := 47) rfl h_q_13_1.s4 hb46 rfl ?_
  exact X_icmp_gt (tgt := 68) (show decode (mB 11) 47 = .ok (.if_icmp .gt 21, 3) by decide +kernel) rfl (pc' := 50) rfl kt kf
set_option maxRecDepth 4000 in
theorem b_X0_compare_50 {xs : Nat → Int32} {L d : Nat} {S : Nat → Shp} {I : Nat → Nat → Int32} {J : Nat → Nat → Int64} {R : Nat → Nat → Nat} {c : Nat × Nat} {Q : Option (Option Value) → MH → Prop} {x1 x4 x5 : Int32} {y2 : Int64} (hL : Lay S R)  (k : X xs L d 12 0 [.ref 13, .int x4, .int x5, .int x1, .null, .null, .null, .null, .null] [] (S, I, J, R, c) (Kc xs L (d + 1) 11 60 [.ref 13, .int x1, .long y2, .null, .int x4, .int x5] [.long y2] Q)) : X xs L (d + 1) 11 50 [.ref 13, .int x1, .long y2, .null, .int x4, .int x5] [] (S, I, J, R, c) Q := by
  refine X_lload_n (q := 2) (show decode (mB 11) 50 = .ok (.lload_n 2, 1) by decide +kernel) (pc' := 51) rfl rfl rfl ?_
  refine X_aload_n (q := 0) (show decode (mB 11) 51 = .ok (.aload_n 0, 1) by decide +kernel) (pc' := 52) rfl rfl rfl ?_
  refine X_iload (q := 4) (show decode (mB 11) 52 = .ok (.iload 4, 2) by decide +kernel) (pc' := 54) rfl rfl ?_
  refine X_iload (q := 5) (show decode (mB 11) 54 = .ok (.iload 5, 2) by decide +kernel) (pc' := 56) rfl rfl ?_
  refine X_iload_n (q := 1) (show decode (mB 11) 56 = .ok (.iload_n 1, 1) by decide +kernel) (pc' := 57) rfl rfl rfl ?_
  exact X_callV (y := 12) (n := 3) (st := [.int x1, .int x5, .int x4, .ref 13, .long y2]) (as := [.ref 13, .int x4, .int x5, .int x1]) (rest := [.long y2]) (ls0 := [.ref 13, .int x4, .int x5, .int x1, .null, .null, .null, .null, .null]) (ci := 0) (show decode (mB 11) 57 = .ok (.invokevirtual 167, 3) by decide +kernel) (pc' := 60) rfl (by decide +kernel) (by decide +kernel) rfl (ls_13 hL) (by decide +kernel) rfl rfl rfl rfl rfl k
set_option maxRecDepth 4000 in
theorem b_X0_compare_60 {xs : Nat → Int32} {L d : Nat} {S : Nat → Shp} {I : Nat → Nat → Int32} {J : Nat → Nat → Int64} {R : Nat → Nat → Nat} {c : Nat × Nat} {Q : Option (Option Value) → MH → Prop} {x1 x4 x5 : Int32} {y2 sy0 sy1 : Int64}  (k : X xs L (d + 1) 11 35 [.ref 13, .int x1, .long (sy0 ||| sy1), .null, .int x4, .int (x5 + 1)] [] (S, I, J, R, c) Q) : X xs L (d + 1) 11 60 [.ref 13, .int x1, .long y2, .null, .int x4, .int x5] [.long sy1, .long sy0] (S, I, J, R, c) Q := by
  refine X_lor (show decode (mB 11) 60 = .ok (.lor, 1) by decide +kernel) (pc' := 61) rfl ?_
  refine X_lstore_n (q := 2) (ls' := [.ref 13, .int x1, .long (sy0 ||| sy1), .null, .int x4, .int x5]) (show decode (mB 11) 61 = .ok (.lstore_n 2, 1) by decide +kernel) (pc' := 62) rfl rfl rfl ?_
  refine X_iinc (q := 5) (v := x5 + 1) (ls' := [.ref 13, .int x1, .long (sy0 ||| sy1), .null, .int x4, .int (x5 + 1)]) (show decode (mB 11) 62 = .ok (.iinc 5 1, 3) by decide +kernel) (pc' := 65) rfl rfl rfl rfl ?_
  refine X_goto (tgt := 35) (show decode (mB 11) 65 = .ok (.goto (-30), 3) by decide +kernel) rfl ?_
  exact k
set_option maxRecDepth 4000 in
theorem b_X0_compare_68 {xs : Nat → Int32} {L d : Nat} {S : Nat → Shp} {I : Nat → Nat → Int32} {J : Nat → Nat → Int64} {R : Nat → Nat → Nat} {c : Nat × Nat} {Q : Option (Option Value) → MH → Prop} {x1 x4 x5 : Int32} {y2 : Int64}  (k : X xs L (d + 1) 11 11 [.ref 13, .int x1, .long y2, .null, .int (x4 + 1), .int x5] [] (S, I, J, R, c) Q) : X xs L (d + 1) 11 68 [.ref 13, .int x1, .long y2, .null, .int x4, .int x5] [] (S, I, J, R, c) Q := by
  refine X_iinc (q := 4) (v := x4 + 1) (ls' := [.ref 13, .int x1, .long y2, .null, .int (x4 + 1), .int x5]) (show decode (mB 11) 68 = .ok (.iinc 4 1, 3) by decide +kernel) (pc' := 71) rfl rfl rfl rfl ?_
  refine X_goto (tgt := 11) (show decode (mB 11) 71 = .ok (.goto (-60), 3) by decide +kernel) rfl ?_
  exact k
set_option maxRecDepth 4000 in
theorem b_X0_compare_74 {xs : Nat → Int32} {L d : Nat} {S : Nat → Shp} {I : Nat → Nat → Int32} {J : Nat → Nat → Int64} {R : Nat → Nat → Nat} {c : Nat × Nat} {Q : Option (Option Value) → MH → Prop} {x1 x4 : Int32} {y2 : Int64} {v5 : Value} (hL : Lay S R) (hb85 : inb x1 8 = true) (hb96 : inb x1 8 = true) (k : Q (some none) (S, I, (u2 J 24 x1.toNatClampNeg ((y2 &&& ((J 23 x1.toNatClampNeg) ^^^ (-1))) &&& (J 13 4))), R, c)) : X xs L (d + 1) 11 74 [.ref 13, .int x1, .long y2, .null, .int x4, v5] [] (S, I, J, R, c) Q := by
  refine X_aload_n (q := 0) (show decode (mB 11) 74 = .ok (.aload_n 0, 1) by decide +kernel) (pc' := 75) rfl rfl rfl ?_
  refine X_getR (ci := 0) (f := 13) (q := 24) (show decode (mB 11) 75 = .ok (.getfield 44, 3) by decide +kernel) (pc' := 78) rfl (ls_13 hL) (by decide +kernel) rfl (lr_13_13 hL) ?_
  refine X_iload_n (q := 1) (show decode (mB 11) 78 = .ok (.iload_n 1, 1) by decide +kernel) (pc' := 79) rfl rfl rfl ?_
  refine X_lload_n (q := 2) (show decode (mB 11) 79 = .ok (.lload_n 2, 1) by decide +kernel) (pc' := 80) rfl rfl rfl ?_
  refine X_aload_n (q := 0) (show decode (mB 11) 80 = .ok (.aload_n 0, 1) by decide +kernel) (pc' := 81) rfl rfl rfl ?_
  refine X_getR (ci := 0) (f := 12) (q := 23) (show decode (mB 11) 81 = .ok (.getfield 41, 3) by decide +kernel) (pc' := 84) rfl (ls_13 hL) (by decide +kernel) rfl (lr_13_12 hL) ?_
  refine X_iload_n (q := 1) (show decode (mB 11) 84 = .ok (.iload_n 1, 1) by decide +kernel) (pc' := 85) rfl rfl rfl ?_
  refine X_laload (w := J 23 x1.toNatClampNeg) (show decode (mB 11) 85 = .ok (.laload, 1) by decide +kernel) (pc' := 86) rfl (ls_23 hL) hb85 rfl ?_
  refine X_ldc2 (v := (-1)) (show decode (mB 11) 86 = .ok (.ldc2_w 71, 3) by decide +kernel) (pc' := 89) rfl (by decide +kernel) ?_
  refine X_lxor (show decode (mB 11) 89 = .ok (.lxor, 1) by decide +kernel) (pc' := 90) rfl ?_
  refine X_land (show decode (mB 11) 90 = .ok (.land, 1) by decide +kernel) (pc' := 91) rfl ?_
  refine X_aload_n (q := 0) (show decode (mB 11) 91 = .ok (.aload_n 0, 1) by decide +kernel) (pc' := 92) rfl rfl rfl ?_
  refine X_getJ (ci := 0) (f := 4) (x := J 13 4) (show decode (mB 11) 92 = .ok (.getfield 73, 3) by decide +kernel) (pc' := 95) rfl (ls_13 hL) (by decide +kernel) rfl rfl ?_
  refine X_land (show decode (mB 11) 95 = .ok (.land, 1) by decide +kernel) (pc' := 96) rfl ?_
  refine X_lastore (show decode (mB 11) 96 = .ok (.lastore, 1) by decide +kernel) (pc' := 97) rfl (ls_24 hL) hb96 ?_
  exact X_return (show decode (mB 11) 97 = .ok (.return_, 1) by decide +kernel) (by decide +kernel) k
set_option maxRecDepth 4000 in
theorem b_X0_wrongLanes_0 {xs : Nat → Int32} {L d : Nat} {S : Nat → Shp} {I : Nat → Nat → Int32} {J : Nat → Nat → Int64} {R : Nat → Nat → Nat} {c : Nat × Nat} {Q : Option (Option Value) → MH → Prop} {x1 x2 x3 : Int32} (hL : Lay S R)  (k : X xs L d 2 0 [.int x3, .int x1] [] (S, I, J, R, c) (Kc xs L (d + 1) 12 9 [.ref 13, .int x1, .int x2, .int x3, .null, .null, .null, .null, .null] [.ref 19] Q)) : X xs L (d + 1) 12 0 [.ref 13, .int x1, .int x2, .int x3, .null, .null, .null, .null, .null] [] (S, I, J, R, c) Q := by
  refine X_aload_n (q := 0) (show decode (mB 12) 0 = .ok (.aload_n 0, 1) by decide +kernel) (pc' := 1) rfl rfl rfl ?_
  refine X_getR (ci := 0) (f := 8) (q := 19) (show decode (mB 12) 1 = .ok (.getfield 27, 3) by decide +kernel) (pc' := 4) rfl (ls_13 hL) (by decide +kernel) rfl (lr_13_8 hL) ?_
  refine X_iload_n (q := 3) (show decode (mB 12) 4 = .ok (.iload_n 3, 1) by decide +kernel) (pc' := 5) rfl rfl rfl ?_
  refine X_iload_n (q := 1) (show decode (mB 12) 5 = .ok (.iload_n 1, 1) by decide +kernel) (pc' := 6) rfl rfl rfl ?_
  exact X_callS (y := 2) (n := 2) (st := [.int x1, .int x3, .ref 19]) (as := [.int x3, .int x1]) (rest := [.ref 19]) (ls0 := [.int x3, .int x1]) (show decode (mB 12) 6 = .ok (.invokestatic 117, 3) by decide +kernel) (pc' := 9) rfl (by decide +kernel) (by decide +kernel) rfl rfl rfl rfl rfl rfl rfl rfl k
set_option maxRecDepth 4000 in
theorem b_X0_wrongLanes_9 {xs : Nat → Int32} {L d : Nat} {S : Nat → Shp} {I : Nat → Nat → Int32} {J : Nat → Nat → Int64} {R : Nat → Nat → Nat} {c : Nat × Nat} {Q : Option (Option Value) → MH → Prop} {x1 x2 x3 sx1 : Int32} (hL : Lay S R) (hb9 : inb sx1 384 = true) (k : X xs L d 3 0 [.int x3, .int x2] [] (S, I, J, R, c) (Kc xs L (d + 1) 12 17 [.ref 13, .int x1, .int x2, .int x3, .long (J 19 sx1.toNatClampNeg), .null, .null, .null, .null] [] Q)) : X xs L (d + 1) 12 9 [.ref 13, .int x1, .int x2, .int x3, .null, .null, .null, .null, .null] [.int sx1, .ref 19] (S, I, J, R, c) Q := by
  refine X_laload (w := J 19 sx1.toNatClampNeg) (show decode (mB 12) 9 = .ok (.laload, 1) by decide +kernel) (pc' := 10) rfl (ls_19 hL) hb9 rfl ?_
  refine X_lstore (q := 4) (ls' := [.ref 13, .int x1, .int x2, .int x3, .long (J 19 sx1.toNatClampNeg), .null, .null, .null, .null]) (show decode (mB 12) 10 = .ok (.lstore 4, 2) by decide +kernel) (pc' := 12) rfl rfl ?_
  refine X_iload_n (q := 3) (show decode (mB 12) 12 = .ok (.iload_n 3, 1) by decide +kernel) (pc' := 13) rfl rfl rfl ?_
  refine X_iload_n (q := 2) (show decode (mB 12) 13 = .ok (.iload_n 2, 1) by decide +kernel) (pc' := 14) rfl rfl rfl ?_
  exact X_callS (y := 3) (n := 2) (st := [.int x2, .int x3]) (as := [.int x3, .int x2]) (rest := []) (ls0 := [.int x3, .int x2]) (show decode (mB 12) 14 = .ok (.invokestatic 131, 3) by decide +kernel) (pc' := 17) rfl (by decide +kernel) (by decide +kernel) rfl rfl rfl rfl rfl rfl rfl rfl k
set_option maxRecDepth 4000 in
theorem b_X0_wrongLanes_17 {xs : Nat → Int32} {L d : Nat} {S : Nat → Shp} {I : Nat → Nat → Int32} {J : Nat → Nat → Int64} {R : Nat → Nat → Nat} {c : Nat × Nat} {Q : Option (Option Value) → MH → Prop} {x1 x2 x3 sx0 : Int32} {y4 : Int64} {q_13_1 : Nat} (hL : Lay S R) (hq_13_1 : R 13 1 = q_13_1) (h_q_13_1 : LyCm S R q_13_1) (hb25 : inb x1 48 = true) (hb37 : inb (sx0 + (I (q_13_1 + 2) x1.toNatClampNeg)) 3840 = true) (hb51 : inb (sx0 + (I (q_13_1 + 2) x1.toNatClampNeg)) 3840 = true) (k : X xs L d 2 0 [.int x3, .int x1] [] (S, I, J, R, c) (Kc xs L (d + 1) 12 65 [.ref 13, .int x1, .int x2, .int x3, .long y4, .null, .int (sx0 + (I (q_13_1 + 2) x1.toNatClampNeg)), .long ((y4 &&& (J 21 (sx0 + (I (q_13_1 + 2) x1.toNatClampNeg)).toNatClampNeg)) ||| ((y4 ^^^ (-1)) &&& (J 22 (sx0 + (I (q_13_1 + 2) x1.toNatClampNeg)).toNatClampNeg))), .null] [.ref 20] Q)) : X xs L (d + 1) 12 17 [.ref 13, .int x1, .int x2, .int x3, .long y4, .null, .null, .null, .null] [.int sx0] (S, I, J, R, c) Q := by
  refine X_aload_n (q := 0) (show decode (mB 12) 17 = .ok (.aload_n 0, 1) by decide +kernel) (pc' := 18) rfl rfl rfl ?_
  refine X_getR (ci := 0) (f := 1) (q := q_13_1) (show decode (mB 12) 18 = .ok (.getfield 51, 3) by decide +kernel) (pc' := 21) rfl (ls_13 hL) (by decide +kernel) rfl hq_13_1 ?_
  refine X_getR (ci := 3) (f := 5) (q := (q_13_1 + 2)) (show decode (mB 12) 21 = .ok (.getfield 146, 3) by decide +kernel) (pc' := 24) rfl h_q_13_1.s0 (by decide +kernel) rfl h_q_13_1.r0_5 ?_
  refine X_iload_n (q := 1) (show decode (mB 12) 24 = .ok (.iload_n 1, 1) by decide +kernel) (pc' := 25) rfl rfl rfl ?_
  refine X_iaload (w := I (q_13_1 + 2) x1.toNatClampNeg) (show decode (mB 12) 25 = .ok (.iaload, 1) by decide +kernel) (pc' := 26) rfl h_q_13_1.s2 hb25 rfl ?_
  refine X_iadd (show decode (mB 12) 26 = .ok (.iadd, 1) by decide +kernel) (pc' := 27) rfl ?_
  refine X_istore (q := 6) (ls' := [.ref 13, .int x1, .int x2, .int x3, .long y4, .null, .int (sx0 + (I (q_13_1 + 2) x1.toNatClampNeg)), .null, .null]) (show decode (mB 12) 27 = .ok (.istore 6, 2) by decide +kernel) (pc' := 29) rfl rfl ?_
  refine X_lload (q := 4) (show decode (mB 12) 29 = .ok (.lload 4, 2) by decide +kernel) (pc' := 31) rfl rfl ?_
  refine X_aload_n (q := 0) (show decode (mB 12) 31 = .ok (.aload_n 0, 1) by decide +kernel) (pc' := 32) rfl rfl rfl ?_
  refine X_getR (ci := 0) (f := 10) (q := 21) (show decode (mB 12) 32 = .ok (.getfield 35, 3) by decide +kernel) (pc' := 35) rfl (ls_13 hL) (by decide +kernel) rfl (lr_13_10 hL) ?_
  refine X_iload (q := 6) (show decode (mB 12) 35 = .ok (.iload 6, 2) by decide +kernel) (pc' := 37) rfl rfl ?_
  refine X_laload (w := J 21 (sx0 + (I (q_13_1 + 2) x1.toNatClampNeg)).toNatClampNeg) (show decode (mB 12) 37 = .ok (.laload, 1) by decide +kernel) (pc' := 38) rfl (ls_21 hL) hb37 rfl ?_
  refine X_land (show decode (mB 12) 38 = .ok (.land, 1) by decide +kernel) (pc' := 39) rfl ?_
  refine X_lload (q := 4) (show decode (mB 12) 39 = .ok (.lload 4, 2) by decide +kernel) (pc' := 41) rfl rfl ?_
  refine X_ldc2 (v := (-1)) (show decode (mB 12) 41 = .ok (.ldc2_w 71, 3) by decide +kernel) (pc' := 44) rfl (by decide +kernel) ?_
  refine X_lxor (show decode (mB 12) 44 = .ok (.lxor, 1) by decide +kernel) (pc' := 45) rfl ?_
  refine X_aload_n (q := 0) (show decode (mB 12) 45 = .ok (.aload_n 0, 1) by decide +kernel) (pc' := 46) rfl rfl rfl ?_
  refine X_getR (ci := 0) (f := 11) (q := 22) (show decode (mB 12) 46 = .ok (.getfield 38, 3) by decide +kernel) (pc' := 49) rfl (ls_13 hL) (by decide +kernel) rfl (lr_13_11 hL) ?_
  refine X_iload (q := 6) (show decode (mB 12) 49 = .ok (.iload 6, 2) by decide +kernel) (pc' := 51) rfl rfl ?_
  refine X_laload (w := J 22 (sx0 + (I (q_13_1 + 2) x1.toNatClampNeg)).toNatClampNeg) (show decode (mB 12) 51 = .ok (.laload, 1) by decide +kernel) (pc' := 52) rfl (ls_22 hL) hb51 rfl ?_
  refine X_land (show decode (mB 12) 52 = .ok (.land, 1) by decide +kernel) (pc' := 53) rfl ?_
  refine X_lor (show decode (mB 12) 53 = .ok (.lor, 1) by decide +kernel) (pc' := 54) rfl ?_
  refine X_lstore (q := 7) (ls' := [.ref 13, .int x1, .int x2, .int x3, .long y4, .null, .int (sx0 + (I (q_13_1 + 2) x1.toNatClampNeg)), .long ((y4 &&& (J 21 (sx0 + (I (q_13_1 + 2) x1.toNatClampNeg)).toNatClampNeg)) ||| ((y4 ^^^ (-1)) &&& (J 22 (sx0 + (I (q_13_1 + 2) x1.toNatClampNeg)).toNatClampNeg))), .null]) (show decode (mB 12) 54 = .ok (.lstore 7, 2) by decide +kernel) (pc' := 56) rfl rfl ?_
  refine X_aload_n (q := 0) (show decode (mB 12) 56 = .ok (.aload_n 0, 1) by decide +kernel) (pc' := 57) rfl rfl rfl ?_
  refine X_getR (ci := 0) (f := 9) (q := 20) (show decode (mB 12) 57 = .ok (.getfield 30, 3) by decide +kernel) (pc' := 60) rfl (ls_13 hL) (by decide +kernel) rfl (lr_13_9 hL) ?_
  refine X_iload_n (q := 3) (show decode (mB 12) 60 = .ok (.iload_n 3, 1) by decide +kernel) (pc' := 61) rfl rfl rfl ?_
  refine X_iload_n (q := 1) (show decode (mB 12) 61 = .ok (.iload_n 1, 1) by decide +kernel) (pc' := 62) rfl rfl rfl ?_
  exact X_callS (y := 2) (n := 2) (st := [.int x1, .int x3, .ref 20]) (as := [.int x3, .int x1]) (rest := [.ref 20]) (ls0 := [.int x3, .int x1]) (show decode (mB 12) 62 = .ok (.invokestatic 117, 3) by decide +kernel) (pc' := 65) rfl (by decide +kernel) (by decide +kernel) rfl rfl rfl rfl rfl rfl rfl rfl k
set_option maxRecDepth 4000 in
theorem b_X0_wrongLanes_65 {xs : Nat → Int32} {L d : Nat} {S : Nat → Shp} {I : Nat → Nat → Int32} {J : Nat → Nat → Int64} {R : Nat → Nat → Nat} {c : Nat × Nat} {Q : Option (Option Value) → MH → Prop} {x1 x2 x3 x6 sx1 : Int32} {y4 y7 : Int64} (hL : Lay S R) (hb65 : inb sx1 384 = true) (k : Q (some (some (.long ((J 20 sx1.toNatClampNeg) &&& (y7 ^^^ (-1)))))) (S, I, J, R, c)) : X xs L (d + 1) 12 65 [.ref 13, .int x1, .int x2, .int x3, .long y4, .null, .int x6, .long y7, .null] [.int sx1, .ref 20] (S, I, J, R, c) Q := by
  refine X_laload (w := J 20 sx1.toNatClampNeg) (show decode (mB 12) 65 = .ok (.laload, 1) by decide +kernel) (pc' := 66) rfl (ls_20 hL) hb65 rfl ?_
  refine X_lload (q := 7) (show decode (mB 12) 66 = .ok (.lload 7, 2) by decide +kernel) (pc' := 68) rfl rfl ?_
  refine X_ldc2 (v := (-1)) (show decode (mB 12) 68 = .ok (.ldc2_w 71, 3) by decide +kernel) (pc' := 71) rfl (by decide +kernel) ?_
  refine X_lxor (show decode (mB 12) 71 = .ok (.lxor, 1) by decide +kernel) (pc' := 72) rfl ?_
  refine X_land (show decode (mB 12) 72 = .ok (.land, 1) by decide +kernel) (pc' := 73) rfl ?_
  exact X_lreturn (show decode (mB 12) 73 = .ok (.lreturn, 1) by decide +kernel) (by decide +kernel) k
set_option maxRecDepth 4000 in
theorem b_X0_hasAssignment_0 {xs : Nat → Int32} {L d : Nat} {S : Nat → Shp} {I : Nat → Nat → Int32} {J : Nat → Nat → Int64} {R : Nat → Nat → Nat} {c : Nat × Nat} {Q : Option (Option Value) → MH → Prop} {x1 : Int32}  (kt : x1 < 0 → X xs L d 13 16 [.ref 13, .int x1] [] (S, I, J, R, c) Q) (kf : ¬ (x1 < 0) → X xs L d 13 4 [.ref 13, .int x1] [] (S, I, J, R, c) Q) : X xs L d 13 0 [.ref 13, .int x1] [] (S, I, J, R, c) Q := by
  refine X_iload_n (q := 1) (show decode (mB 13) 0 = .ok (.iload_n 1, 1) by decide +kernel) (pc' := 1) rfl rfl rfl ?_
  exact X_if_lt (tgt := 16) (show decode (mB 13) 1 = .ok (.ifCond .lt 15, 3) by decide +kernel) rfl (pc' := 4) rfl kt kf
set_option maxRecDepth 4000 in
theorem b_X0_hasAssignment_4 {xs : Nat → Int32} {L d : Nat} {S : Nat → Shp} {I : Nat → Nat → Int32} {J : Nat → Nat → Int64} {R : Nat → Nat → Nat} {c : Nat × Nat} {Q : Option (Option Value) → MH → Prop} {x1 : Int32} (hL : Lay S R)  (kt : (I 13 2) ≤ x1 → X xs L d 13 16 [.ref 13, .int x1] [] (S, I, J, R, c) Q) (kf : ¬ ((I 13 2) ≤ x1) → X xs L d 13 12 [.ref 13, .int x1] [] (S, I, J, R, c) Q) : X xs L d 13 4 [.ref 13, .int x1] [] (S, I, J, R, c) Q := by
  refine X_iload_n (q := 1) (show decode (mB 13) 4 = .ok (.iload_n 1, 1) by decide +kernel) (pc' := 5) rfl rfl rfl ?_
  refine X_aload_n (q := 0) (show decode (mB 13) 5 = .ok (.aload_n 0, 1) by decide +kernel) (pc' := 6) rfl rfl rfl ?_
  refine X_getI (ci := 0) (f := 2) (x := I 13 2) (show decode (mB 13) 6 = .ok (.getfield 59, 3) by decide +kernel) (pc' := 9) rfl (ls_13 hL) (by decide +kernel) rfl rfl ?_
  exact X_icmp_ge (tgt := 16) (show decode (mB 13) 9 = .ok (.if_icmp .ge 7, 3) by decide +kernel) rfl (pc' := 12) rfl kt kf
set_option maxRecDepth 4000 in
theorem b_X0_hasAssignment_12 {xs : Nat → Int32} {L d : Nat} {S : Nat → Shp} {I : Nat → Nat → Int32} {J : Nat → Nat → Int64} {R : Nat → Nat → Nat} {c : Nat × Nat} {Q : Option (Option Value) → MH → Prop} {x1 : Int32}  (k : X xs L d 13 17 [.ref 13, .int x1] [.int 1] (S, I, J, R, c) Q) : X xs L d 13 12 [.ref 13, .int x1] [] (S, I, J, R, c) Q := by
  refine X_iconst (v := 1) (show decode (mB 13) 12 = .ok (.iconst 1, 1) by decide +kernel) (pc' := 13) rfl rfl ?_
  refine X_goto (tgt := 17) (show decode (mB 13) 13 = .ok (.goto 4, 3) by decide +kernel) rfl ?_
  exact k
set_option maxRecDepth 4000 in
theorem b_X0_hasAssignment_16 {xs : Nat → Int32} {L d : Nat} {S : Nat → Shp} {I : Nat → Nat → Int32} {J : Nat → Nat → Int64} {R : Nat → Nat → Nat} {c : Nat × Nat} {Q : Option (Option Value) → MH → Prop} {x1 : Int32}  (k : X xs L d 13 17 [.ref 13, .int x1] [.int 0] (S, I, J, R, c) Q) : X xs L d 13 16 [.ref 13, .int x1] [] (S, I, J, R, c) Q := by
  refine X_iconst (v := 0) (show decode (mB 13) 16 = .ok (.iconst 0, 1) by decide +kernel) (pc' := 17) rfl rfl ?_
  exact k
set_option maxRecDepth 4000 in
theorem b_X0_hasAssignment_17 {xs : Nat → Int32} {L d : Nat} {S : Nat → Shp} {I : Nat → Nat → Int32} {J : Nat → Nat → Int64} {R : Nat → Nat → Nat} {c : Nat × Nat} {Q : Option (Option Value) → MH → Prop} {x1 sx0 : Int32} (hz17 : sx0 = 0 ∨ sx0 = 1) (k : Q (some (some (.int sx0))) (S, I, J, R, c)) : X xs L d 13 17 [.ref 13, .int x1] [.int sx0] (S, I, J, R, c) Q := by
  exact X_ireturn (ty := .boolean) (show decode (mB 13) 17 = .ok (.ireturn, 1) by decide +kernel) (by decide +kernel) (nz hz17) k
set_option maxRecDepth 4000 in
theorem b_X0_howManyFail_0 {xs : Nat → Int32} {L d : Nat} {S : Nat → Shp} {I : Nat → Nat → Int32} {J : Nat → Nat → Int64} {R : Nat → Nat → Nat} {c : Nat × Nat} {Q : Option (Option Value) → MH → Prop}  (hL : Lay S R)  (k : X xs L d 16 0 [.ref 13, .ref 24, .null, .null] [] (S, I, J, R, c) (Kc xs L (d + 1) 14 8 [.ref 13] [] Q)) : X xs L (d + 1) 14 0 [.ref 13] [] (S, I, J, R, c) Q := by
  refine X_aload_n (q := 0) (show decode (mB 14) 0 = .ok (.aload_n 0, 1) by decide +kernel) (pc' := 1) rfl rfl rfl ?_
  refine X_aload_n (q := 0) (show decode (mB 14) 1 = .ok (.aload_n 0, 1) by decide +kernel) (pc' := 2) rfl rfl rfl ?_
  refine X_getR (ci := 0) (f := 13) (q := 24) (show decode (mB 14) 2 = .ok (.getfield 44, 3) by decide +kernel) (pc' := 5) rfl (ls_13 hL) (by decide +kernel) rfl (lr_13_13 hL) ?_
  exact X_callV (y := 16) (n := 1) (st := [.ref 24, .ref 13]) (as := [.ref 13, .ref 24]) (rest := []) (ls0 := [.ref 13, .ref 24, .null, .null]) (ci := 0) (show decode (mB 14) 5 = .ok (.invokevirtual 171, 3) by decide +kernel) (pc' := 8) rfl (by decide +kernel) (by decide +kernel) rfl (ls_13 hL) (by decide +kernel) rfl rfl rfl rfl rfl k
set_option maxRecDepth 4000 in
theorem b_X0_howManyFail_8 {xs : Nat → Int32} {L d : Nat} {S : Nat → Shp} {I : Nat → Nat → Int32} {J : Nat → Nat → Int64} {R : Nat → Nat → Nat} {c : Nat × Nat} {Q : Option (Option Value) → MH → Prop} {sx0 : Int32}  (k : Q (some (some (.int sx0))) (S, I, J, R, c)) : X xs L (d + 1) 14 8 [.ref 13] [.int sx0] (S, I, J, R, c) Q := by
  exact X_ireturn (ty := .int) (show decode (mB 14) 8 = .ok (.ireturn, 1) by decide +kernel) (by decide +kernel) rfl k
set_option maxRecDepth 4000 in
theorem b_X0_howManyAreOut_0 {xs : Nat → Int32} {L d : Nat} {S : Nat → Shp} {I : Nat → Nat → Int32} {J : Nat → Nat → Int64} {R : Nat → Nat → Nat} {c : Nat × Nat} {Q : Option (Option Value) → MH → Prop}  (hL : Lay S R)  (k : X xs L d 16 0 [.ref 13, .ref 23, .null, .null] [] (S, I, J, R, c) (Kc xs L (d + 1) 15 8 [.ref 13] [] Q)) : X xs L (d + 1) 15 0 [.ref 13] [] (S, I, J, R, c) Q := by
  refine X_aload_n (q := 0) (show decode (mB 15) 0 = .ok (.aload_n 0, 1) by decide +kernel) (pc' := 1) rfl rfl rfl ?_
  refine X_aload_n (q := 0) (show decode (mB 15) 1 = .ok (.aload_n 0, 1) by decide +kernel) (pc' := 2) rfl rfl rfl ?_
  refine X_getR (ci := 0) (f := 12) (q := 23) (show decode (mB 15) 2 = .ok (.getfield 41, 3) by decide +kernel) (pc' := 5) rfl (ls_13 hL) (by decide +kernel) rfl (lr_13_12 hL) ?_
  exact X_callV (y := 16) (n := 1) (st := [.ref 23, .ref 13]) (as := [.ref 13, .ref 23]) (rest := []) (ls0 := [.ref 13, .ref 23, .null, .null]) (ci := 0) (show decode (mB 15) 5 = .ok (.invokevirtual 171, 3) by decide +kernel) (pc' := 8) rfl (by decide +kernel) (by decide +kernel) rfl (ls_13 hL) (by decide +kernel) rfl rfl rfl rfl rfl k
set_option maxRecDepth 4000 in
theorem b_X0_howManyAreOut_8 {xs : Nat → Int32} {L d : Nat} {S : Nat → Shp} {I : Nat → Nat → Int32} {J : Nat → Nat → Int64} {R : Nat → Nat → Nat} {c : Nat × Nat} {Q : Option (Option Value) → MH → Prop} {sx0 : Int32}  (k : Q (some (some (.int sx0))) (S, I, J, R, c)) : X xs L (d + 1) 15 8 [.ref 13] [.int sx0] (S, I, J, R, c) Q := by
  exact X_ireturn (ty := .int) (show decode (mB 15) 8 = .ok (.ireturn, 1) by decide +kernel) (by decide +kernel) rfl k
set_option maxRecDepth 4000 in
theorem b_X0_lanesIn_0 {xs : Nat → Int32} {L d : Nat} {S : Nat → Shp} {I : Nat → Nat → Int32} {J : Nat → Nat → Int64} {R : Nat → Nat → Nat} {c : Nat × Nat} {Q : Option (Option Value) → MH → Prop} {r1 : Nat}  (k : X xs L (d + 1) 16 4 [.ref 13, .ref r1, .int 0, .int 0] [] (S, I, J, R, c) Q) : X xs L (d + 1) 16 0 [.ref 13, .ref r1, .null, .null] [] (S, I, J, R, c) Q := by
  refine X_iconst (v := 0) (show decode (mB 16) 0 = .ok (.iconst 0, 1) by decide +kernel) (pc' := 1) rfl rfl ?_
  refine X_istore_n (q := 2) (ls' := [.ref 13, .ref r1, .int 0, .null]) (show decode (mB 16) 1 = .ok (.istore_n 2, 1) by decide +kernel) (pc' := 2) rfl rfl rfl ?_
  refine X_iconst (v := 0) (show decode (mB 16) 2 = .ok (.iconst 0, 1) by decide +kernel) (pc' := 3) rfl rfl ?_
  refine X_istore_n (q := 3) (ls' := [.ref 13, .ref r1, .int 0, .int 0]) (show decode (mB 16) 3 = .ok (.istore_n 3, 1) by decide +kernel) (pc' := 4) rfl rfl rfl ?_
  exact k
set_option maxRecDepth 4000 in
theorem b_X0_lanesIn_4 {xs : Nat → Int32} {L d : Nat} {S : Nat → Shp} {I : Nat → Nat → Int32} {J : Nat → Nat → Int64} {R : Nat → Nat → Nat} {c : Nat × Nat} {Q : Option (Option Value) → MH → Prop} {r1 : Nat} {x2 x3 : Int32} (hL : Lay S R)  (kt : (I 13 3) ≤ x3 → X xs L (d + 1) 16 27 [.ref 13, .ref r1, .int x2, .int x3] [] (S, I, J, R, c) Q) (kf : ¬ ((I 13 3) ≤ x3) → X xs L (d + 1) 16 12 [.ref 13, .ref r1, .int x2, .int x3] [] (S, I, J, R, c) Q) : X xs L (d + 1) 16 4 [.ref 13, .ref r1, .int x2, .int x3] [] (S, I, J, R, c) Q := by
  refine X_iload_n (q := 3) (show decode (mB 16) 4 = .ok (.iload_n 3, 1) by decide +kernel) (pc' := 5) rfl rfl rfl ?_
  refine X_aload_n (q := 0) (show decode (mB 16) 5 = .ok (.aload_n 0, 1) by decide +kernel) (pc' := 6) rfl rfl rfl ?_
  refine X_getI (ci := 0) (f := 3) (x := I 13 3) (show decode (mB 16) 6 = .ok (.getfield 68, 3) by decide +kernel) (pc' := 9) rfl (ls_13 hL) (by decide +kernel) rfl rfl ?_
  exact X_icmp_ge (tgt := 27) (show decode (mB 16) 9 = .ok (.if_icmp .ge 18, 3) by decide +kernel) rfl (pc' := 12) rfl kt kf
set_option maxRecDepth 4000 in
theorem b_X0_lanesIn_12 {xs : Nat → Int32} {L d : Nat} {S : Nat → Shp} {I : Nat → Nat → Int32} {J : Nat → Nat → Int64} {R : Nat → Nat → Nat} {c : Nat × Nat} {Q : Option (Option Value) → MH → Prop} {r1 n_r1 : Nat} {x2 x3 : Int32} (hs_r1 : S r1 = .inr (.long, n_r1)) (hb15 : inb x3 n_r1 = true) (k : X xs L d 167 0 [.long (J r1 x3.toNatClampNeg), .null] [] (S, I, J, R, c) (Kc xs L (d + 1) 16 19 [.ref 13, .ref r1, .int x2, .int x3] [.int x2] Q)) : X xs L (d + 1) 16 12 [.ref 13, .ref r1, .int x2, .int x3] [] (S, I, J, R, c) Q := by
  refine X_iload_n (q := 2) (show decode (mB 16) 12 = .ok (.iload_n 2, 1) by decide +kernel) (pc' := 13) rfl rfl rfl ?_
  refine X_aload_n (q := 1) (show decode (mB 16) 13 = .ok (.aload_n 1, 1) by decide +kernel) (pc' := 14) rfl rfl rfl ?_
  refine X_iload_n (q := 3) (show decode (mB 16) 14 = .ok (.iload_n 3, 1) by decide +kernel) (pc' := 15) rfl rfl rfl ?_
  refine X_laload (w := J r1 x3.toNatClampNeg) (show decode (mB 16) 15 = .ok (.laload, 1) by decide +kernel) (pc' := 16) rfl hs_r1 hb15 rfl ?_
  exact X_callS (y := 167) (n := 1) (st := [.long (J r1 x3.toNatClampNeg), .int x2]) (as := [.long (J r1 x3.toNatClampNeg)]) (rest := [.int x2]) (ls0 := [.long (J r1 x3.toNatClampNeg), .null]) (show decode (mB 16) 16 = .ok (.invokestatic 175, 3) by decide +kernel) (pc' := 19) rfl (by decide +kernel) (by decide +kernel) rfl rfl rfl rfl rfl rfl rfl rfl k
set_option maxRecDepth 4000 in
theorem b_X0_lanesIn_19 {xs : Nat → Int32} {L d : Nat} {S : Nat → Shp} {I : Nat → Nat → Int32} {J : Nat → Nat → Int64} {R : Nat → Nat → Nat} {c : Nat × Nat} {Q : Option (Option Value) → MH → Prop} {r1 : Nat} {x2 x3 sx0 sx1 : Int32}  (k : X xs L (d + 1) 16 4 [.ref 13, .ref r1, .int (sx0 + sx1), .int (x3 + 1)] [] (S, I, J, R, c) Q) : X xs L (d + 1) 16 19 [.ref 13, .ref r1, .int x2, .int x3] [.int sx1, .int sx0] (S, I, J, R, c) Q := by
  refine X_iadd (show decode (mB 16) 19 = .ok (.iadd, 1) by decide +kernel) (pc' := 20) rfl ?_
  refine X_istore_n (q := 2) (ls' := [.ref 13, .ref r1, .int (sx0 + sx1), .int x3]) (show decode (mB 16) 20 = .ok (.istore_n 2, 1) by decide +kernel) (pc' := 21) rfl rfl rfl ?_
  refine X_iinc (q := 3) (v := x3 + 1) (ls' := [.ref 13, .ref r1, .int (sx0 + sx1), .int (x3 + 1)]) (show decode (mB 16) 21 = .ok (.iinc 3 1, 3) by decide +kernel) (pc' := 24) rfl rfl rfl rfl ?_
  refine X_goto (tgt := 4) (show decode (mB 16) 24 = .ok (.goto (-20), 3) by decide +kernel) rfl ?_
  exact k
set_option maxRecDepth 4000 in
theorem b_X0_lanesIn_27 {xs : Nat → Int32} {L d : Nat} {S : Nat → Shp} {I : Nat → Nat → Int32} {J : Nat → Nat → Int64} {R : Nat → Nat → Nat} {c : Nat × Nat} {Q : Option (Option Value) → MH → Prop} {r1 : Nat} {x2 x3 : Int32}  (k : Q (some (some (.int x2))) (S, I, J, R, c)) : X xs L (d + 1) 16 27 [.ref 13, .ref r1, .int x2, .int x3] [] (S, I, J, R, c) Q := by
  refine X_iload_n (q := 2) (show decode (mB 16) 27 = .ok (.iload_n 2, 1) by decide +kernel) (pc' := 28) rfl rfl rfl ?_
  exact X_ireturn (ty := .int) (show decode (mB 16) 28 = .ok (.ireturn, 1) by decide +kernel) (by decide +kernel) rfl k
set_option maxRecDepth 4000 in
theorem b_X0_failingByRank_0 {xs : Nat → Int32} {L d : Nat} {S : Nat → Shp} {I : Nat → Nat → Int32} {J : Nat → Nat → Int64} {R : Nat → Nat → Nat} {c : Nat × Nat} {Q : Option (Option Value) → MH → Prop} {x1 : Int32}  (k : X xs L (d + 1) 17 4 [.ref 13, .int x1, .int x1, .int 0, .null] [] (S, I, J, R, c) Q) : X xs L (d + 1) 17 0 [.ref 13, .int x1, .null, .null, .null] [] (S, I, J, R, c) Q := by
  refine X_iload_n (q := 1) (show decode (mB 17) 0 = .ok (.iload_n 1, 1) by decide +kernel) (pc' := 1) rfl rfl rfl ?_
  refine X_istore_n (q := 2) (ls' := [.ref 13, .int x1, .int x1, .null, .null]) (show decode (mB 17) 1 = .ok (.istore_n 2, 1) by decide +kernel) (pc' := 2) rfl rfl rfl ?_
  refine X_iconst (v := 0) (show decode (mB 17) 2 = .ok (.iconst 0, 1) by decide +kernel) (pc' := 3) rfl rfl ?_
  refine X_istore_n (q := 3) (ls' := [.ref 13, .int x1, .int x1, .int 0, .null]) (show decode (mB 17) 3 = .ok (.istore_n 3, 1) by decide +kernel) (pc' := 4) rfl rfl rfl ?_
  exact k
set_option maxRecDepth 4000 in
theorem b_X0_failingByRank_4 {xs : Nat → Int32} {L d : Nat} {S : Nat → Shp} {I : Nat → Nat → Int32} {J : Nat → Nat → Int64} {R : Nat → Nat → Nat} {c : Nat × Nat} {Q : Option (Option Value) → MH → Prop} {x1 x2 x3 : Int32} {v4 : Value} (hL : Lay S R)  (kt : (I 13 3) ≤ x3 → X xs L (d + 1) 17 56 [.ref 13, .int x1, .int x2, .int x3, v4] [] (S, I, J, R, c) Q) (kf : ¬ ((I 13 3) ≤ x3) → X xs L (d + 1) 17 12 [.ref 13, .int x1, .int x2, .int x3, v4] [] (S, I, J, R, c) Q) : X xs L (d + 1) 17 4 [.ref 13, .int x1, .int x2, .int x3, v4] [] (S, I, J, R, c) Q := by
  refine X_iload_n (q := 3) (show decode (mB 17) 4 = .ok (.iload_n 3, 1) by decide +kernel) (pc' := 5) rfl rfl rfl ?_
  refine X_aload_n (q := 0) (show decode (mB 17) 5 = .ok (.aload_n 0, 1) by decide +kernel) (pc' := 6) rfl rfl rfl ?_
  refine X_getI (ci := 0) (f := 3) (x := I 13 3) (show decode (mB 17) 6 = .ok (.getfield 68, 3) by decide +kernel) (pc' := 9) rfl (ls_13 hL) (by decide +kernel) rfl rfl ?_
  exact X_icmp_ge (tgt := 56) (show decode (mB 17) 9 = .ok (.if_icmp .ge 47, 3) by decide +kernel) rfl (pc' := 12) rfl kt kf
set_option maxRecDepth 4000 in
theorem b_X0_failingByRank_12 {xs : Nat → Int32} {L d : Nat} {S : Nat → Shp} {I : Nat → Nat → Int32} {J : Nat → Nat → Int64} {R : Nat → Nat → Nat} {c : Nat × Nat} {Q : Option (Option Value) → MH → Prop} {x1 x2 x3 : Int32} {v4 : Value} (hL : Lay S R) (hb17 : inb x3 8 = true) (k : X xs L d 167 0 [.long (J 24 x3.toNatClampNeg), .null] [] (S, I, J, R, c) (Kc xs L (d + 1) 17 21 [.ref 13, .int x1, .int x2, .int x3, v4] [] Q)) : X xs L (d + 1) 17 12 [.ref 13, .int x1, .int x2, .int x3, v4] [] (S, I, J, R, c) Q := by
  refine X_aload_n (q := 0) (show decode (mB 17) 12 = .ok (.aload_n 0, 1) by decide +kernel) (pc' := 13) rfl rfl rfl ?_
  refine X_getR (ci := 0) (f := 13) (q := 24) (show decode (mB 17) 13 = .ok (.getfield 44, 3) by decide +kernel) (pc' := 16) rfl (ls_13 hL) (by decide +kernel) rfl (lr_13_13 hL) ?_
  refine X_iload_n (q := 3) (show decode (mB 17) 16 = .ok (.iload_n 3, 1) by decide +kernel) (pc' := 17) rfl rfl rfl ?_
  refine X_laload (w := J 24 x3.toNatClampNeg) (show decode (mB 17) 17 = .ok (.laload, 1) by decide +kernel) (pc' := 18) rfl (ls_24 hL) hb17 rfl ?_
  exact X_callS (y := 167) (n := 1) (st := [.long (J 24 x3.toNatClampNeg)]) (as := [.long (J 24 x3.toNatClampNeg)]) (rest := []) (ls0 := [.long (J 24 x3.toNatClampNeg), .null]) (show decode (mB 17) 18 = .ok (.invokestatic 175, 3) by decide +kernel) (pc' := 21) rfl (by decide +kernel) (by decide +kernel) rfl rfl rfl rfl rfl rfl rfl rfl k
set_option maxRecDepth 4000 in
theorem b_X0_failingByRank_21 {xs : Nat → Int32} {L d : Nat} {S : Nat → Shp} {I : Nat → Nat → Int32} {J : Nat → Nat → Int64} {R : Nat → Nat → Nat} {c : Nat × Nat} {Q : Option (Option Value) → MH → Prop} {x1 x2 x3 sx0 : Int32} {v4 : Value}  (kt : sx0 ≤ x2 → X xs L (d + 1) 17 45 [.ref 13, .int x1, .int x2, .int x3, .int sx0] [] (S, I, J, R, c) Q) (kf : ¬ (sx0 ≤ x2) → X xs L (d + 1) 17 29 [.ref 13, .int x1, .int x2, .int x3, .int sx0] [] (S, I, J, R, c) Q) : X xs L (d + 1) 17 21 [.ref 13, .int x1, .int x2, .int x3, v4] [.int sx0] (S, I, J, R, c) Q := by
  refine X_istore (q := 4) (ls' := [.ref 13, .int x1, .int x2, .int x3, .int sx0]) (show decode (mB 17) 21 = .ok (.istore 4, 2) by decide +kernel) (pc' := 23) rfl rfl ?_
  refine X_iload_n (q := 2) (show decode (mB 17) 23 = .ok (.iload_n 2, 1) by decide +kernel) (pc' := 24) rfl rfl rfl ?_
  refine X_iload (q := 4) (show decode (mB 17) 24 = .ok (.iload 4, 2) by decide +kernel) (pc' := 26) rfl rfl ?_
  exact X_icmp_ge (tgt := 45) (show decode (mB 17) 26 = .ok (.if_icmp .ge 19, 3) by decide +kernel) rfl (pc' := 29) rfl kt kf
set_option maxRecDepth 4000 in
theorem b_X0_failingByRank_29 {xs : Nat → Int32} {L d : Nat} {S : Nat → Shp} {I : Nat → Nat → Int32} {J : Nat → Nat → Int64} {R : Nat → Nat → Nat} {c : Nat × Nat} {Q : Option (Option Value) → MH → Prop} {x1 x2 x3 x4 : Int32} (hL : Lay S R) (hb38 : inb x3 8 = true) (k : X xs L d 18 0 [.long (J 24 x3.toNatClampNeg), .null, .int x2, .null, .null, .null] [] (S, I, J, R, c) (Kc xs L (d + 1) 17 43 [.ref 13, .int x1, .int x2, .int x3, .int x4] [.int (x3 * 64)] Q)) : X xs L (d + 1) 17 29 [.ref 13, .int x1, .int x2, .int x3, .int x4] [] (S, I, J, R, c) Q := by
  refine X_iload_n (q := 3) (show decode (mB 17) 29 = .ok (.iload_n 3, 1) by decide +kernel) (pc' := 30) rfl rfl rfl ?_
  refine X_bipush (v := 64) (show decode (mB 17) 30 = .ok (.bipush 64, 2) by decide +kernel) (pc' := 32) rfl (by decide +kernel) ?_
  refine X_imul (show decode (mB 17) 32 = .ok (.imul, 1) by decide +kernel) (pc' := 33) rfl ?_
  refine X_aload_n (q := 0) (show decode (mB 17) 33 = .ok (.aload_n 0, 1) by decide +kernel) (pc' := 34) rfl rfl rfl ?_
  refine X_getR (ci := 0) (f := 13) (q := 24) (show decode (mB 17) 34 = .ok (.getfield 44, 3) by decide +kernel) (pc' := 37) rfl (ls_13 hL) (by decide +kernel) rfl (lr_13_13 hL) ?_
  refine X_iload_n (q := 3) (show decode (mB 17) 37 = .ok (.iload_n 3, 1) by decide +kernel) (pc' := 38) rfl rfl rfl ?_
  refine X_laload (w := J 24 x3.toNatClampNeg) (show decode (mB 17) 38 = .ok (.laload, 1) by decide +kernel) (pc' := 39) rfl (ls_24 hL) hb38 rfl ?_
  refine X_iload_n (q := 2) (show decode (mB 17) 39 = .ok (.iload_n 2, 1) by decide +kernel) (pc' := 40) rfl rfl rfl ?_
  exact X_callS (y := 18) (n := 2) (st := [.int x2, .long (J 24 x3.toNatClampNeg), .int (x3 * 64)]) (as := [.long (J 24 x3.toNatClampNeg), .int x2]) (rest := [.int (x3 * 64)]) (ls0 := [.long (J 24 x3.toNatClampNeg), .null, .int x2, .null, .null, .null]) (show decode (mB 17) 40 = .ok (.invokestatic 181, 3) by decide +kernel) (pc' := 43) rfl (by decide +kernel) (by decide +kernel) rfl rfl rfl rfl rfl rfl rfl rfl k
set_option maxRecDepth 4000 in
theorem b_X0_failingByRank_43 {xs : Nat → Int32} {L d : Nat} {S : Nat → Shp} {I : Nat → Nat → Int32} {J : Nat → Nat → Int64} {R : Nat → Nat → Nat} {c : Nat × Nat} {Q : Option (Option Value) → MH → Prop} {x1 x2 x3 x4 sx0 sx1 : Int32}  (k : Q (some (some (.int (sx0 + sx1)))) (S, I, J, R, c)) : X xs L (d + 1) 17 43 [.ref 13, .int x1, .int x2, .int x3, .int x4] [.int sx1, .int sx0] (S, I, J, R, c) Q := by
  refine X_iadd (show decode (mB 17) 43 = .ok (.iadd, 1) by decide +kernel) (pc' := 44) rfl ?_
  exact X_ireturn (ty := .int) (show decode (mB 17) 44 = .ok (.ireturn, 1) by decide +kernel) (by decide +kernel) rfl k
set_option maxRecDepth 4000 in
theorem b_X0_failingByRank_45 {xs : Nat → Int32} {L d : Nat} {S : Nat → Shp} {I : Nat → Nat → Int32} {J : Nat → Nat → Int64} {R : Nat → Nat → Nat} {c : Nat × Nat} {Q : Option (Option Value) → MH → Prop} {x1 x2 x3 x4 : Int32}  (k : X xs L (d + 1) 17 4 [.ref 13, .int x1, .int (x2 - x4), .int (x3 + 1), .int x4] [] (S, I, J, R, c) Q) : X xs L (d + 1) 17 45 [.ref 13, .int x1, .int x2, .int x3, .int x4] [] (S, I, J, R, c) Q := by
  refine X_iload_n (q := 2) (show decode (mB 17) 45 = .ok (.iload_n 2, 1) by decide +kernel) (pc' := 46) rfl rfl rfl ?_
  refine X_iload (q := 4) (show decode (mB 17) 46 = .ok (.iload 4, 2) by decide +kernel) (pc' := 48) rfl rfl ?_
  refine X_isub (show decode (mB 17) 48 = .ok (.isub, 1) by decide +kernel) (pc' := 49) rfl ?_
  refine X_istore_n (q := 2) (ls' := [.ref 13, .int x1, .int (x2 - x4), .int x3, .int x4]) (show decode (mB 17) 49 = .ok (.istore_n 2, 1) by decide +kernel) (pc' := 50) rfl rfl rfl ?_
  refine X_iinc (q := 3) (v := x3 + 1) (ls' := [.ref 13, .int x1, .int (x2 - x4), .int (x3 + 1), .int x4]) (show decode (mB 17) 50 = .ok (.iinc 3 1, 3) by decide +kernel) (pc' := 53) rfl rfl rfl rfl ?_
  refine X_goto (tgt := 4) (show decode (mB 17) 53 = .ok (.goto (-49), 3) by decide +kernel) rfl ?_
  exact k
set_option maxRecDepth 4000 in
theorem b_X0_failingByRank_56 {xs : Nat → Int32} {L d : Nat} {S : Nat → Shp} {I : Nat → Nat → Int32} {J : Nat → Nat → Int64} {R : Nat → Nat → Nat} {c : Nat × Nat} {Q : Option (Option Value) → MH → Prop} {x1 x2 x3 : Int32} {v4 : Value}  (k : Q (some (some (.int (-2)))) (S, I, J, R, c)) : X xs L (d + 1) 17 56 [.ref 13, .int x1, .int x2, .int x3, v4] [] (S, I, J, R, c) Q := by
  refine X_bipush (v := (-2)) (show decode (mB 17) 56 = .ok (.bipush (-2), 2) by decide +kernel) (pc' := 58) rfl (by decide +kernel) ?_
  exact X_ireturn (ty := .int) (show decode (mB 17) 58 = .ok (.ireturn, 1) by decide +kernel) (by decide +kernel) rfl k
set_option maxRecDepth 4000 in
theorem b_X0_laneByRank_0 {xs : Nat → Int32} {L d : Nat} {S : Nat → Shp} {I : Nat → Nat → Int32} {J : Nat → Nat → Int64} {R : Nat → Nat → Nat} {c : Nat × Nat} {Q : Option (Option Value) → MH → Prop} {y0 : Int64} {x2 : Int32}  (k : X xs L (d + 1) 18 5 [.long y0, .null, .int x2, .long y0, .null, .int 0] [] (S, I, J, R, c) Q) : X xs L (d + 1) 18 0 [.long y0, .null, .int x2, .null, .null, .null] [] (S, I, J, R, c) Q := by
  refine X_lload_n (q := 0) (show decode (mB 18) 0 = .ok (.lload_n 0, 1) by decide +kernel) (pc' := 1) rfl rfl rfl ?_
  refine X_lstore_n (q := 3) (ls' := [.long y0, .null, .int x2, .long y0, .null, .null]) (show decode (mB 18) 1 = .ok (.lstore_n 3, 1) by decide +kernel) (pc' := 2) rfl rfl rfl ?_
  refine X_iconst (v := 0) (show decode (mB 18) 2 = .ok (.iconst 0, 1) by decide +kernel) (pc' := 3) rfl rfl ?_
  refine X_istore (q := 5) (ls' := [.long y0, .null, .int x2, .long y0, .null, .int 0]) (show decode (mB 18) 3 = .ok (.istore 5, 2) by decide +kernel) (pc' := 5) rfl rfl ?_
  exact k
set_option maxRecDepth 4000 in
theorem b_X0_laneByRank_5 {xs : Nat → Int32} {L d : Nat} {S : Nat → Shp} {I : Nat → Nat → Int32} {J : Nat → Nat → Int64} {R : Nat → Nat → Nat} {c : Nat × Nat} {Q : Option (Option Value) → MH → Prop} {y0 y3 : Int64} {x2 x5 : Int32}  (kt : x2 ≤ x5 → X xs L (d + 1) 18 23 [.long y0, .null, .int x2, .long y3, .null, .int x5] [] (S, I, J, R, c) Q) (kf : ¬ (x2 ≤ x5) → X xs L (d + 1) 18 11 [.long y0, .null, .int x2, .long y3, .null, .int x5] [] (S, I, J, R, c) Q) : X xs L (d + 1) 18 5 [.long y0, .null, .int x2, .long y3, .null, .int x5] [] (S, I, J, R, c) Q := by
  refine X_iload (q := 5) (show decode (mB 18) 5 = .ok (.iload 5, 2) by decide +kernel) (pc' := 7) rfl rfl ?_
  refine X_iload_n (q := 2) (show decode (mB 18) 7 = .ok (.iload_n 2, 1) by decide +kernel) (pc' := 8) rfl rfl rfl ?_
  exact X_icmp_ge (tgt := 23) (show decode (mB 18) 8 = .ok (.if_icmp .ge 15, 3) by decide +kernel) rfl (pc' := 11) rfl kt kf
set_option maxRecDepth 4000 in
theorem b_X0_laneByRank_11 {xs : Nat → Int32} {L d : Nat} {S : Nat → Shp} {I : Nat → Nat → Int32} {J : Nat → Nat → Int64} {R : Nat → Nat → Nat} {c : Nat × Nat} {Q : Option (Option Value) → MH → Prop} {y0 y3 : Int64} {x2 x5 : Int32}  (k : X xs L (d + 1) 18 5 [.long y0, .null, .int x2, .long (y3 &&& (y3 - 1)), .null, .int (x5 + 1)] [] (S, I, J, R, c) Q) : X xs L (d + 1) 18 11 [.long y0, .null, .int x2, .long y3, .null, .int x5] [] (S, I, J, R, c) Q := by
  refine X_lload_n (q := 3) (show decode (mB 18) 11 = .ok (.lload_n 3, 1) by decide +kernel) (pc' := 12) rfl rfl rfl ?_
  refine X_lload_n (q := 3) (show decode (mB 18) 12 = .ok (.lload_n 3, 1) by decide +kernel) (pc' := 13) rfl rfl rfl ?_
  refine X_lconst (v := 1) (show decode (mB 18) 13 = .ok (.lconst 1, 1) by decide +kernel) (pc' := 14) rfl rfl ?_
  refine X_lsub (show decode (mB 18) 14 = .ok (.lsub, 1) by decide +kernel) (pc' := 15) rfl ?_
  refine X_land (show decode (mB 18) 15 = .ok (.land, 1) by decide +kernel) (pc' := 16) rfl ?_
  refine X_lstore_n (q := 3) (ls' := [.long y0, .null, .int x2, .long (y3 &&& (y3 - 1)), .null, .int x5]) (show decode (mB 18) 16 = .ok (.lstore_n 3, 1) by decide +kernel) (pc' := 17) rfl rfl rfl ?_
  refine X_iinc (q := 5) (v := x5 + 1) (ls' := [.long y0, .null, .int x2, .long (y3 &&& (y3 - 1)), .null, .int (x5 + 1)]) (show decode (mB 18) 17 = .ok (.iinc 5 1, 3) by decide +kernel) (pc' := 20) rfl rfl rfl rfl ?_
  refine X_goto (tgt := 5) (show decode (mB 18) 20 = .ok (.goto (-15), 3) by decide +kernel) rfl ?_
  exact k
set_option maxRecDepth 4000 in
theorem b_X0_laneByRank_23 {xs : Nat → Int32} {L d : Nat} {S : Nat → Shp} {I : Nat → Nat → Int32} {J : Nat → Nat → Int64} {R : Nat → Nat → Nat} {c : Nat × Nat} {Q : Option (Option Value) → MH → Prop} {y0 y3 : Int64} {x2 x5 : Int32}  (k : X xs L d 167 0 [.long ((y3 &&& (-y3)) - 1), .null] [] (S, I, J, R, c) (Kc xs L (d + 1) 18 32 [.long y0, .null, .int x2, .long y3, .null, .int x5] [] Q)) : X xs L (d + 1) 18 23 [.long y0, .null, .int x2, .long y3, .null, .int x5] [] (S, I, J, R, c) Q := by
  refine X_lload_n (q := 3) (show decode (mB 18) 23 = .ok (.lload_n 3, 1) by decide +kernel) (pc' := 24) rfl rfl rfl ?_
  refine X_lload_n (q := 3) (show decode (mB 18) 24 = .ok (.lload_n 3, 1) by decide +kernel) (pc' := 25) rfl rfl rfl ?_
  refine X_lneg (show decode (mB 18) 25 = .ok (.lneg, 1) by decide +kernel) (pc' := 26) rfl ?_
  refine X_land (show decode (mB 18) 26 = .ok (.land, 1) by decide +kernel) (pc' := 27) rfl ?_
  refine X_lconst (v := 1) (show decode (mB 18) 27 = .ok (.lconst 1, 1) by decide +kernel) (pc' := 28) rfl rfl ?_
  refine X_lsub (show decode (mB 18) 28 = .ok (.lsub, 1) by decide +kernel) (pc' := 29) rfl ?_
  exact X_callS (y := 167) (n := 1) (st := [.long ((y3 &&& (-y3)) - 1)]) (as := [.long ((y3 &&& (-y3)) - 1)]) (rest := []) (ls0 := [.long ((y3 &&& (-y3)) - 1), .null]) (show decode (mB 18) 29 = .ok (.invokestatic 175, 3) by decide +kernel) (pc' := 32) rfl (by decide +kernel) (by decide +kernel) rfl rfl rfl rfl rfl rfl rfl rfl k
set_option maxRecDepth 4000 in
theorem b_X0_laneByRank_32 {xs : Nat → Int32} {L d : Nat} {S : Nat → Shp} {I : Nat → Nat → Int32} {J : Nat → Nat → Int64} {R : Nat → Nat → Nat} {c : Nat × Nat} {Q : Option (Option Value) → MH → Prop} {y0 y3 : Int64} {x2 x5 sx0 : Int32}  (k : Q (some (some (.int sx0))) (S, I, J, R, c)) : X xs L (d + 1) 18 32 [.long y0, .null, .int x2, .long y3, .null, .int x5] [.int sx0] (S, I, J, R, c) Q := by
  exact X_ireturn (ty := .int) (show decode (mB 18) 32 = .ok (.ireturn, 1) by decide +kernel) (by decide +kernel) rfl k
set_option maxRecDepth 4000 in
theorem b_X0_isIn_0 {xs : Nat → Int32} {L d : Nat} {S : Nat → Shp} {I : Nat → Nat → Int32} {J : Nat → Nat → Int64} {R : Nat → Nat → Nat} {c : Nat × Nat} {Q : Option (Option Value) → MH → Prop} {y0 : Int64} {x2 : Int32}  (kt : ¬ (lg_cmp ((y0 >>> ((x2 - x2 / 64 * 64).toInt64 &&& 63)) &&& 1) 1) = 0 → X xs L d 19 17 [.long y0, .null, .int x2] [] (S, I, J, R, c) Q) (kf : ¬ (¬ (lg_cmp ((y0 >>> ((x2 - x2 / 64 * 64).toInt64 &&& 63)) &&& 1) 1) = 0) → X xs L d 19 13 [.long y0, .null, .int x2] [] (S, I, J, R, c) Q) : X xs L d 19 0 [.long y0, .null, .int x2] [] (S, I, J, R, c) Q := by
  refine X_lload_n (q := 0) (show decode (mB 19) 0 = .ok (.lload_n 0, 1) by decide +kernel) (pc' := 1) rfl rfl rfl ?_
  refine X_iload_n (q := 2) (show decode (mB 19) 1 = .ok (.iload_n 2, 1) by decide +kernel) (pc' := 2) rfl rfl rfl ?_
  refine X_bipush (v := 64) (show decode (mB 19) 2 = .ok (.bipush 64, 2) by decide +kernel) (pc' := 4) rfl (by decide +kernel) ?_
  refine X_irem (show decode (mB 19) 4 = .ok (.irem, 1) by decide +kernel) (pc' := 5) rfl (by decide) ?_
  refine X_lshr (show decode (mB 19) 5 = .ok (.lshr, 1) by decide +kernel) (pc' := 6) rfl ?_
  refine X_lconst (v := 1) (show decode (mB 19) 6 = .ok (.lconst 1, 1) by decide +kernel) (pc' := 7) rfl rfl ?_
  refine X_land (show decode (mB 19) 7 = .ok (.land, 1) by decide +kernel) (pc' := 8) rfl ?_
  refine X_lconst (v := 1) (show decode (mB 19) 8 = .ok (.lconst 1, 1) by decide +kernel) (pc' := 9) rfl rfl ?_
  refine X_lcmp (show decode (mB 19) 9 = .ok (.lcmp, 1) by decide +kernel) (pc' := 10) rfl ?_
  exact X_if_ne (tgt := 17) (show decode (mB 19) 10 = .ok (.ifCond .ne 7, 3) by decide +kernel) rfl (pc' := 13) rfl kt kf
set_option maxRecDepth 4000 in
theorem b_X0_isIn_13 {xs : Nat → Int32} {L d : Nat} {S : Nat → Shp} {I : Nat → Nat → Int32} {J : Nat → Nat → Int64} {R : Nat → Nat → Nat} {c : Nat × Nat} {Q : Option (Option Value) → MH → Prop} {y0 : Int64} {x2 : Int32}  (k : X xs L d 19 18 [.long y0, .null, .int x2] [.int 1] (S, I, J, R, c) Q) : X xs L d 19 13 [.long y0, .null, .int x2] [] (S, I, J, R, c) Q := by
  refine X_iconst (v := 1) (show decode (mB 19) 13 = .ok (.iconst 1, 1) by decide +kernel) (pc' := 14) rfl rfl ?_
  refine X_goto (tgt := 18) (show decode (mB 19) 14 = .ok (.goto 4, 3) by decide +kernel) rfl ?_
  exact k
set_option maxRecDepth 4000 in
theorem b_X0_isIn_17 {xs : Nat → Int32} {L d : Nat} {S : Nat → Shp} {I : Nat → Nat → Int32} {J : Nat → Nat → Int64} {R : Nat → Nat → Nat} {c : Nat × Nat} {Q : Option (Option Value) → MH → Prop} {y0 : Int64} {x2 : Int32}  (k : X xs L d 19 18 [.long y0, .null, .int x2] [.int 0] (S, I, J, R, c) Q) : X xs L d 19 17 [.long y0, .null, .int x2] [] (S, I, J, R, c) Q := by
  refine X_iconst (v := 0) (show decode (mB 19) 17 = .ok (.iconst 0, 1) by decide +kernel) (pc' := 18) rfl rfl ?_
  exact k
set_option maxRecDepth 4000 in
theorem b_X0_isIn_18 {xs : Nat → Int32} {L d : Nat} {S : Nat → Shp} {I : Nat → Nat → Int32} {J : Nat → Nat → Int64} {R : Nat → Nat → Nat} {c : Nat × Nat} {Q : Option (Option Value) → MH → Prop} {y0 : Int64} {x2 sx0 : Int32} (hz18 : sx0 = 0 ∨ sx0 = 1) (k : Q (some (some (.int sx0))) (S, I, J, R, c)) : X xs L d 19 18 [.long y0, .null, .int x2] [.int sx0] (S, I, J, R, c) Q := by
  exact X_ireturn (ty := .boolean) (show decode (mB 19) 18 = .ok (.ireturn, 1) by decide +kernel) (by decide +kernel) (nz hz18) k
set_option maxRecDepth 4000 in
theorem b_X0_firstWrongClause_0 {xs : Nat → Int32} {L d : Nat} {S : Nat → Shp} {I : Nat → Nat → Int32} {J : Nat → Nat → Int64} {R : Nat → Nat → Nat} {c : Nat × Nat} {Q : Option (Option Value) → MH → Prop} {x1 : Int32} (hL : Lay S R) (hb10 : inb (x1 / 64) 8 = true) (k : X xs L d 19 0 [.long (J 24 (x1 / 64).toNatClampNeg), .null, .int x1] [] (S, I, J, R, c) (Kc xs L (d + 1) 20 15 [.ref 13, .int x1, .int (x1 / 64), .null] [] Q)) : X xs L (d + 1) 20 0 [.ref 13, .int x1, .null, .null] [] (S, I, J, R, c) Q := by
  refine X_iload_n (q := 1) (show decode (mB 20) 0 = .ok (.iload_n 1, 1) by decide +kernel) (pc' := 1) rfl rfl rfl ?_
  refine X_bipush (v := 64) (show decode (mB 20) 1 = .ok (.bipush 64, 2) by decide +kernel) (pc' := 3) rfl (by decide +kernel) ?_
  refine X_idiv (show decode (mB 20) 3 = .ok (.idiv, 1) by decide +kernel) (pc' := 4) rfl (by decide) ?_
  refine X_istore_n (q := 2) (ls' := [.ref 13, .int x1, .int (x1 / 64), .null]) (show decode (mB 20) 4 = .ok (.istore_n 2, 1) by decide +kernel) (pc' := 5) rfl rfl rfl ?_
  refine X_aload_n (q := 0) (show decode (mB 20) 5 = .ok (.aload_n 0, 1) by decide +kernel) (pc' := 6) rfl rfl rfl ?_
  refine X_getR (ci := 0) (f := 13) (q := 24) (show decode (mB 20) 6 = .ok (.getfield 44, 3) by decide +kernel) (pc' := 9) rfl (ls_13 hL) (by decide +kernel) rfl (lr_13_13 hL) ?_
  refine X_iload_n (q := 2) (show decode (mB 20) 9 = .ok (.iload_n 2, 1) by decide +kernel) (pc' := 10) rfl rfl rfl ?_
  refine X_laload (w := J 24 (x1 / 64).toNatClampNeg) (show decode (mB 20) 10 = .ok (.laload, 1) by decide +kernel) (pc' := 11) rfl (ls_24 hL) hb10 rfl ?_
  refine X_iload_n (q := 1) (show decode (mB 20) 11 = .ok (.iload_n 1, 1) by decide +kernel) (pc' := 12) rfl rfl rfl ?_
  exact X_callS (y := 19) (n := 2) (st := [.int x1, .long (J 24 (x1 / 64).toNatClampNeg)]) (as := [.long (J 24 (x1 / 64).toNatClampNeg), .int x1]) (rest := []) (ls0 := [.long (J 24 (x1 / 64).toNatClampNeg), .null, .int x1]) (show decode (mB 20) 12 = .ok (.invokestatic 185, 3) by decide +kernel) (pc' := 15) rfl (by decide +kernel) (by decide +kernel) rfl rfl rfl rfl rfl rfl rfl rfl k
set_option maxRecDepth 4000 in
theorem b_X0_firstWrongClause_15 {xs : Nat → Int32} {L d : Nat} {S : Nat → Shp} {I : Nat → Nat → Int32} {J : Nat → Nat → Int64} {R : Nat → Nat → Nat} {c : Nat × Nat} {Q : Option (Option Value) → MH → Prop} {x1 x2 sx0 : Int32}  (kt : ¬ sx0 = 0 → X xs L (d + 1) 20 21 [.ref 13, .int x1, .int x2, .null] [] (S, I, J, R, c) Q) (kf : ¬ (¬ sx0 = 0) → X xs L (d + 1) 20 18 [.ref 13, .int x1, .int x2, .null] [] (S, I, J, R, c) Q) : X xs L (d + 1) 20 15 [.ref 13, .int x1, .int x2, .null] [.int sx0] (S, I, J, R, c) Q := by
  exact X_if_ne (tgt := 21) (show decode (mB 20) 15 = .ok (.ifCond .ne 6, 3) by decide +kernel) rfl (pc' := 18) rfl kt kf
set_option maxRecDepth 4000 in
theorem b_X0_firstWrongClause_18 {xs : Nat → Int32} {L d : Nat} {S : Nat → Shp} {I : Nat → Nat → Int32} {J : Nat → Nat → Int64} {R : Nat → Nat → Nat} {c : Nat × Nat} {Q : Option (Option Value) → MH → Prop} {x1 x2 : Int32}  (k : Q (some (some (.int (-2)))) (S, I, J, R, c)) : X xs L (d + 1) 20 18 [.ref 13, .int x1, .int x2, .null] [] (S, I, J, R, c) Q := by
  refine X_bipush (v := (-2)) (show decode (mB 20) 18 = .ok (.bipush (-2), 2) by decide +kernel) (pc' := 20) rfl (by decide +kernel) ?_
  exact X_ireturn (ty := .int) (show decode (mB 20) 20 = .ok (.ireturn, 1) by decide +kernel) (by decide +kernel) rfl k
set_option maxRecDepth 4000 in
theorem b_X0_firstWrongClause_21 {xs : Nat → Int32} {L d : Nat} {S : Nat → Shp} {I : Nat → Nat → Int32} {J : Nat → Nat → Int64} {R : Nat → Nat → Nat} {c : Nat × Nat} {Q : Option (Option Value) → MH → Prop} {x1 x2 : Int32} {q_13_1 : Nat} (hL : Lay S R) (hq_13_1 : R 13 1 = q_13_1) (h_q_13_1 : LyCm S R q_13_1) (k : X xs L (d + 1) 20 29 [.ref 13, .int x1, .int x2, .int (I q_13_1 2)] [] (S, I, J, R, c) Q) : X xs L (d + 1) 20 21 [.ref 13, .int x1, .int x2, .null] [] (S, I, J, R, c) Q := by
  refine X_aload_n (q := 0) (show decode (mB 20) 21 = .ok (.aload_n 0, 1) by decide +kernel) (pc' := 22) rfl rfl rfl ?_
  refine X_getR (ci := 0) (f := 1) (q := q_13_1) (show decode (mB 20) 22 = .ok (.getfield 51, 3) by decide +kernel) (pc' := 25) rfl (ls_13 hL) (by decide +kernel) rfl hq_13_1 ?_
  refine X_getI (ci := 3) (f := 2) (x := I q_13_1 2) (show decode (mB 20) 25 = .ok (.getfield 137, 3) by decide +kernel) (pc' := 28) rfl h_q_13_1.s0 (by decide +kernel) rfl rfl ?_
  refine X_istore_n (q := 3) (ls' := [.ref 13, .int x1, .int x2, .int (I q_13_1 2)]) (show decode (mB 20) 28 = .ok (.istore_n 3, 1) by decide +kernel) (pc' := 29) rfl rfl rfl ?_
  exact k
set_option maxRecDepth 4000 in
theorem b_X0_firstWrongClause_29 {xs : Nat → Int32} {L d : Nat} {S : Nat → Shp} {I : Nat → Nat → Int32} {J : Nat → Nat → Int64} {R : Nat → Nat → Nat} {c : Nat × Nat} {Q : Option (Option Value) → MH → Prop} {x1 x2 x3 : Int32} {q_13_1 : Nat} (hL : Lay S R) (hq_13_1 : R 13 1 = q_13_1) (h_q_13_1 : LyCm S R q_13_1) (kt : (I q_13_1 3) ≤ x3 → X xs L (d + 1) 20 67 [.ref 13, .int x1, .int x2, .int x3] [] (S, I, J, R, c) Q) (kf : ¬ ((I q_13_1 3) ≤ x3) → X xs L (d + 1) 20 40 [.ref 13, .int x1, .int x2, .int x3] [] (S, I, J, R, c) Q) : X xs L (d + 1) 20 29 [.ref 13, .int x1, .int x2, .int x3] [] (S, I, J, R, c) Q := by
  refine X_iload_n (q := 3) (show decode (mB 20) 29 = .ok (.iload_n 3, 1) by decide +kernel) (pc' := 30) rfl rfl rfl ?_
  refine X_aload_n (q := 0) (show decode (mB 20) 30 = .ok (.aload_n 0, 1) by decide +kernel) (pc' := 31) rfl rfl rfl ?_
  refine X_getR (ci := 0) (f := 1) (q := q_13_1) (show decode (mB 20) 31 = .ok (.getfield 51, 3) by decide +kernel) (pc' := 34) rfl (ls_13 hL) (by decide +kernel) rfl hq_13_1 ?_
  refine X_getI (ci := 3) (f := 3) (x := I q_13_1 3) (show decode (mB 20) 34 = .ok (.getfield 104, 3) by decide +kernel) (pc' := 37) rfl h_q_13_1.s0 (by decide +kernel) rfl rfl ?_
  exact X_icmp_ge (tgt := 67) (show decode (mB 20) 37 = .ok (.if_icmp .ge 30, 3) by decide +kernel) rfl (pc' := 40) rfl kt kf
set_option maxRecDepth 4000 in
theorem b_X0_firstWrongClause_40 {xs : Nat → Int32} {L d : Nat} {S : Nat → Shp} {I : Nat → Nat → Int32} {J : Nat → Nat → Int64} {R : Nat → Nat → Nat} {c : Nat × Nat} {Q : Option (Option Value) → MH → Prop} {x1 x2 x3 : Int32} (hL : Lay S R)  (k : X xs L d 22 0 [.ref 13, .int x3, .int x1, .null] [] (S, I, J, R, c) (Kc xs L (d + 1) 20 46 [.ref 13, .int x1, .int x2, .int x3] [] Q)) : X xs L (d + 1) 20 40 [.ref 13, .int x1, .int x2, .int x3] [] (S, I, J, R, c) Q := by
  refine X_aload_n (q := 0) (show decode (mB 20) 40 = .ok (.aload_n 0, 1) by decide +kernel) (pc' := 41) rfl rfl rfl ?_
  refine X_iload_n (q := 3) (show decode (mB 20) 41 = .ok (.iload_n 3, 1) by decide +kernel) (pc' := 42) rfl rfl rfl ?_
  refine X_iload_n (q := 1) (show decode (mB 20) 42 = .ok (.iload_n 1, 1) by decide +kernel) (pc' := 43) rfl rfl rfl ?_
  exact X_callV (y := 22) (n := 2) (st := [.int x1, .int x3, .ref 13]) (as := [.ref 13, .int x3, .int x1]) (rest := []) (ls0 := [.ref 13, .int x3, .int x1, .null]) (ci := 0) (show decode (mB 20) 43 = .ok (.invokevirtual 189, 3) by decide +kernel) (pc' := 46) rfl (by decide +kernel) (by decide +kernel) rfl (ls_13 hL) (by decide +kernel) rfl rfl rfl rfl rfl k
set_option maxRecDepth 4000 in
theorem b_X0_firstWrongClause_46 {xs : Nat → Int32} {L d : Nat} {S : Nat → Shp} {I : Nat → Nat → Int32} {J : Nat → Nat → Int64} {R : Nat → Nat → Nat} {c : Nat × Nat} {Q : Option (Option Value) → MH → Prop} {x1 x2 x3 sx0 : Int32}  (kt : sx0 = (-2) → X xs L (d + 1) 20 61 [.ref 13, .int x1, .int x2, .int x3] [] (S, I, J, R, c) Q) (kf : ¬ (sx0 = (-2)) → X xs L (d + 1) 20 51 [.ref 13, .int x1, .int x2, .int x3] [] (S, I, J, R, c) Q) : X xs L (d + 1) 20 46 [.ref 13, .int x1, .int x2, .int x3] [.int sx0] (S, I, J, R, c) Q := by
  refine X_bipush (v := (-2)) (show decode (mB 20) 46 = .ok (.bipush (-2), 2) by decide +kernel) (pc' := 48) rfl (by decide +kernel) ?_
  exact X_icmp_eq (tgt := 61) (show decode (mB 20) 48 = .ok (.if_icmp .eq 13, 3) by decide +kernel) rfl (pc' := 51) rfl kt kf
set_option maxRecDepth 4000 in
theorem b_X0_firstWrongClause_51 {xs : Nat → Int32} {L d : Nat} {S : Nat → Shp} {I : Nat → Nat → Int32} {J : Nat → Nat → Int64} {R : Nat → Nat → Nat} {c : Nat × Nat} {Q : Option (Option Value) → MH → Prop} {x1 x2 x3 : Int32} {q_13_1 : Nat} (hL : Lay S R) (hq_13_1 : R 13 1 = q_13_1) (h_q_13_1 : LyCm S R q_13_1) (k : Q (some (some (.int (x3 - (I q_13_1 2))))) (S, I, J, R, c)) : X xs L (d + 1) 20 51 [.ref 13, .int x1, .int x2, .int x3] [] (S, I, J, R, c) Q := by
  refine X_iload_n (q := 3) (show decode (mB 20) 51 = .ok (.iload_n 3, 1) by decide +kernel) (pc' := 52) rfl rfl rfl ?_
  refine X_aload_n (q := 0) (show decode (mB 20) 52 = .ok (.aload_n 0, 1) by decide +kernel) (pc' := 53) rfl rfl rfl ?_
  refine X_getR (ci := 0) (f := 1) (q := q_13_1) (show decode (mB 20) 53 = .ok (.getfield 51, 3) by decide +kernel) (pc' := 56) rfl (ls_13 hL) (by decide +kernel) rfl hq_13_1 ?_
  refine X_getI (ci := 3) (f := 2) (x := I q_13_1 2) (show decode (mB 20) 56 = .ok (.getfield 137, 3) by decide +kernel) (pc' := 59) rfl h_q_13_1.s0 (by decide +kernel) rfl rfl ?_
  refine X_isub (show decode (mB 20) 59 = .ok (.isub, 1) by decide +kernel) (pc' := 60) rfl ?_
  exact X_ireturn (ty := .int) (show decode (mB 20) 60 = .ok (.ireturn, 1) by decide +kernel) (by decide +kernel) rfl k
set_option maxRecDepth 4000 in
theorem b_X0_firstWrongClause_61 {xs : Nat → Int32} {L d : Nat} {S : Nat → Shp} {I : Nat → Nat → Int32} {J : Nat → Nat → Int64} {R : Nat → Nat → Nat} {c : Nat × Nat} {Q : Option (Option Value) → MH → Prop} {x1 x2 x3 : Int32}  (k : X xs L (d + 1) 20 29 [.ref 13, .int x1, .int x2, .int (x3 + 1)] [] (S, I, J, R, c) Q) : X xs L (d + 1) 20 61 [.ref 13, .int x1, .int x2, .int x3] [] (S, I, J, R, c) Q := by
  refine X_iinc (q := 3) (v := x3 + 1) (ls' := [.ref 13, .int x1, .int x2, .int (x3 + 1)]) (show decode (mB 20) 61 = .ok (.iinc 3 1, 3) by decide +kernel) (pc' := 64) rfl rfl rfl rfl ?_
  refine X_goto (tgt := 29) (show decode (mB 20) 64 = .ok (.goto (-35), 3) by decide +kernel) rfl ?_
  exact k
set_option maxRecDepth 4000 in
theorem b_X0_firstWrongClause_67 {xs : Nat → Int32} {L d : Nat} {S : Nat → Shp} {I : Nat → Nat → Int32} {J : Nat → Nat → Int64} {R : Nat → Nat → Nat} {c : Nat × Nat} {Q : Option (Option Value) → MH → Prop} {x1 x2 x3 : Int32}  (k : Q (some (some (.int (-2)))) (S, I, J, R, c)) : X xs L (d + 1) 20 67 [.ref 13, .int x1, .int x2, .int x3] [] (S, I, J, R, c) Q := by
  refine X_bipush (v := (-2)) (show decode (mB 20) 67 = .ok (.bipush (-2), 2) by decide +kernel) (pc' := 69) rfl (by decide +kernel) ?_
  exact X_ireturn (ty := .int) (show decode (mB 20) 69 = .ok (.ireturn, 1) by decide +kernel) (by decide +kernel) rfl k
set_option maxRecDepth 4000 in
theorem b_X0_firstWrongTime_0 {xs : Nat → Int32} {L d : Nat} {S : Nat → Shp} {I : Nat → Nat → Int32} {J : Nat → Nat → Int64} {R : Nat → Nat → Nat} {c : Nat × Nat} {Q : Option (Option Value) → MH → Prop} {x1 : Int32} (hL : Lay S R)  (k : X xs L d 20 0 [.ref 13, .int x1, .null, .null] [] (S, I, J, R, c) (Kc xs L (d + 1) 21 5 [.ref 13, .int x1, .null] [] Q)) : X xs L (d + 1) 21 0 [.ref 13, .int x1, .null] [] (S, I, J, R, c) Q := by
  refine X_aload_n (q := 0) (show decode (mB 21) 0 = .ok (.aload_n 0, 1) by decide +kernel) (pc' := 1) rfl rfl rfl ?_
  refine X_iload_n (q := 1) (show decode (mB 21) 1 = .ok (.iload_n 1, 1) by decide +kernel) (pc' := 2) rfl rfl rfl ?_
  exact X_callV (y := 20) (n := 1) (st := [.int x1, .ref 13]) (as := [.ref 13, .int x1]) (rest := []) (ls0 := [.ref 13, .int x1, .null, .null]) (ci := 0) (show decode (mB 21) 2 = .ok (.invokevirtual 192, 3) by decide +kernel) (pc' := 5) rfl (by decide +kernel) (by decide +kernel) rfl (ls_13 hL) (by decide +kernel) rfl rfl rfl rfl rfl k
set_option maxRecDepth 4000 in
theorem b_X0_firstWrongTime_5 {xs : Nat → Int32} {L d : Nat} {S : Nat → Shp} {I : Nat → Nat → Int32} {J : Nat → Nat → Int64} {R : Nat → Nat → Nat} {c : Nat × Nat} {Q : Option (Option Value) → MH → Prop} {x1 sx0 : Int32}  (kt : ¬ sx0 = (-2) → X xs L (d + 1) 21 17 [.ref 13, .int x1, .int sx0] [] (S, I, J, R, c) Q) (kf : ¬ (¬ sx0 = (-2)) → X xs L (d + 1) 21 12 [.ref 13, .int x1, .int sx0] [] (S, I, J, R, c) Q) : X xs L (d + 1) 21 5 [.ref 13, .int x1, .null] [.int sx0] (S, I, J, R, c) Q := by
  refine X_istore_n (q := 2) (ls' := [.ref 13, .int x1, .int sx0]) (show decode (mB 21) 5 = .ok (.istore_n 2, 1) by decide +kernel) (pc' := 6) rfl rfl rfl ?_
  refine X_iload_n (q := 2) (show decode (mB 21) 6 = .ok (.iload_n 2, 1) by decide +kernel) (pc' := 7) rfl rfl rfl ?_
  refine X_bipush (v := (-2)) (show decode (mB 21) 7 = .ok (.bipush (-2), 2) by decide +kernel) (pc' := 9) rfl (by decide +kernel) ?_
  exact X_icmp_ne (tgt := 17) (show decode (mB 21) 9 = .ok (.if_icmp .ne 8, 3) by decide +kernel) rfl (pc' := 12) rfl kt kf
set_option maxRecDepth 4000 in
theorem b_X0_firstWrongTime_12 {xs : Nat → Int32} {L d : Nat} {S : Nat → Shp} {I : Nat → Nat → Int32} {J : Nat → Nat → Int64} {R : Nat → Nat → Nat} {c : Nat × Nat} {Q : Option (Option Value) → MH → Prop} {x1 x2 : Int32}  (k : X xs L (d + 1) 21 31 [.ref 13, .int x1, .int x2] [.int (-2)] (S, I, J, R, c) Q) : X xs L (d + 1) 21 12 [.ref 13, .int x1, .int x2] [] (S, I, J, R, c) Q := by
  refine X_bipush (v := (-2)) (show decode (mB 21) 12 = .ok (.bipush (-2), 2) by decide +kernel) (pc' := 14) rfl (by decide +kernel) ?_
  refine X_goto (tgt := 31) (show decode (mB 21) 14 = .ok (.goto 17, 3) by decide +kernel) rfl ?_
  exact k
set_option maxRecDepth 4000 in
theorem b_X0_firstWrongTime_17 {xs : Nat → Int32} {L d : Nat} {S : Nat → Shp} {I : Nat → Nat → Int32} {J : Nat → Nat → Int64} {R : Nat → Nat → Nat} {c : Nat × Nat} {Q : Option (Option Value) → MH → Prop} {x1 x2 : Int32} {q_13_1 : Nat} (hL : Lay S R) (hq_13_1 : R 13 1 = q_13_1) (h_q_13_1 : LyCm S R q_13_1) (k : X xs L d 22 0 [.ref 13, .int ((I q_13_1 2) + x2), .int x1, .null] [] (S, I, J, R, c) (Kc xs L (d + 1) 21 31 [.ref 13, .int x1, .int x2] [] Q)) : X xs L (d + 1) 21 17 [.ref 13, .int x1, .int x2] [] (S, I, J, R, c) Q := by
  refine X_aload_n (q := 0) (show decode (mB 21) 17 = .ok (.aload_n 0, 1) by decide +kernel) (pc' := 18) rfl rfl rfl ?_
  refine X_aload_n (q := 0) (show decode (mB 21) 18 = .ok (.aload_n 0, 1) by decide +kernel) (pc' := 19) rfl rfl rfl ?_
  refine X_getR (ci := 0) (f := 1) (q := q_13_1) (show decode (mB 21) 19 = .ok (.getfield 51, 3) by decide +kernel) (pc' := 22) rfl (ls_13 hL) (by decide +kernel) rfl hq_13_1 ?_
  refine X_getI (ci := 3) (f := 2) (x := I q_13_1 2) (show decode (mB 21) 22 = .ok (.getfield 137, 3) by decide +kernel) (pc' := 25) rfl h_q_13_1.s0 (by decide +kernel) rfl rfl ?_
  refine X_iload_n (q := 2) (show decode (mB 21) 25 = .ok (.iload_n 2, 1) by decide +kernel) (pc' := 26) rfl rfl rfl ?_
  refine X_iadd (show decode (mB 21) 26 = .ok (.iadd, 1) by decide +kernel) (pc' := 27) rfl ?_
  refine X_iload_n (q := 1) (show decode (mB 21) 27 = .ok (.iload_n 1, 1) by decide +kernel) (pc' := 28) rfl rfl rfl ?_
  exact X_callV (y := 22) (n := 2) (st := [.int x1, .int ((I q_13_1 2) + x2), .ref 13]) (as := [.ref 13, .int ((I q_13_1 2) + x2), .int x1]) (rest := []) (ls0 := [.ref 13, .int ((I q_13_1 2) + x2), .int x1, .null]) (ci := 0) (show decode (mB 21) 28 = .ok (.invokevirtual 189, 3) by decide +kernel) (pc' := 31) rfl (by decide +kernel) (by decide +kernel) rfl (ls_13 hL) (by decide +kernel) rfl rfl rfl rfl rfl k
set_option maxRecDepth 4000 in
theorem b_X0_firstWrongTime_31 {xs : Nat → Int32} {L d : Nat} {S : Nat → Shp} {I : Nat → Nat → Int32} {J : Nat → Nat → Int64} {R : Nat → Nat → Nat} {c : Nat × Nat} {Q : Option (Option Value) → MH → Prop} {x1 x2 sx0 : Int32}  (k : Q (some (some (.int sx0))) (S, I, J, R, c)) : X xs L (d + 1) 21 31 [.ref 13, .int x1, .int x2] [.int sx0] (S, I, J, R, c) Q := by
  exact X_ireturn (ty := .int) (show decode (mB 21) 31 = .ok (.ireturn, 1) by decide +kernel) (by decide +kernel) rfl k
set_option maxRecDepth 4000 in
theorem b_X0_wrongTime_0 {xs : Nat → Int32} {L d : Nat} {S : Nat → Shp} {I : Nat → Nat → Int32} {J : Nat → Nat → Int64} {R : Nat → Nat → Nat} {c : Nat × Nat} {Q : Option (Option Value) → MH → Prop} {x1 x2 : Int32} {q_13_1 : Nat} (hL : Lay S R) (hq_13_1 : R 13 1 = q_13_1) (h_q_13_1 : LyCm S R q_13_1) (hb8 : inb x1 48 = true) (k : X xs L (d + 1) 22 10 [.ref 13, .int x1, .int x2, .int (I (q_13_1 + 3) x1.toNatClampNeg)] [] (S, I, J, R, c) Q) : X xs L (d + 1) 22 0 [.ref 13, .int x1, .int x2, .null] [] (S, I, J, R, c) Q := by
  refine X_aload_n (q := 0) (show decode (mB 22) 0 = .ok (.aload_n 0, 1) by decide +kernel) (pc' := 1) rfl rfl rfl ?_
  refine X_getR (ci := 0) (f := 1) (q := q_13_1) (show decode (mB 22) 1 = .ok (.getfield 51, 3) by decide +kernel) (pc' := 4) rfl (ls_13 hL) (by decide +kernel) rfl hq_13_1 ?_
  refine X_getR (ci := 3) (f := 6) (q := (q_13_1 + 3)) (show decode (mB 22) 4 = .ok (.getfield 140, 3) by decide +kernel) (pc' := 7) rfl h_q_13_1.s0 (by decide +kernel) rfl h_q_13_1.r0_6 ?_
  refine X_iload_n (q := 1) (show decode (mB 22) 7 = .ok (.iload_n 1, 1) by decide +kernel) (pc' := 8) rfl rfl rfl ?_
  refine X_iaload (w := I (q_13_1 + 3) x1.toNatClampNeg) (show decode (mB 22) 8 = .ok (.iaload, 1) by decide +kernel) (pc' := 9) rfl h_q_13_1.s3 hb8 rfl ?_
  refine X_istore_n (q := 3) (ls' := [.ref 13, .int x1, .int x2, .int (I (q_13_1 + 3) x1.toNatClampNeg)]) (show decode (mB 22) 9 = .ok (.istore_n 3, 1) by decide +kernel) (pc' := 10) rfl rfl rfl ?_
  exact k
set_option maxRecDepth 4000 in
theorem b_X0_wrongTime_10 {xs : Nat → Int32} {L d : Nat} {S : Nat → Shp} {I : Nat → Nat → Int32} {J : Nat → Nat → Int64} {R : Nat → Nat → Nat} {c : Nat × Nat} {Q : Option (Option Value) → MH → Prop} {x1 x2 x3 : Int32} {q_13_1 : Nat} (hL : Lay S R) (hq_13_1 : R 13 1 = q_13_1) (h_q_13_1 : LyCm S R q_13_1) (hb19 : inb x1 48 = true) (kt : (I (q_13_1 + 4) x1.toNatClampNeg) < x3 → X xs L (d + 1) 22 48 [.ref 13, .int x1, .int x2, .int x3] [] (S, I, J, R, c) Q) (kf : ¬ ((I (q_13_1 + 4) x1.toNatClampNeg) < x3) → X xs L (d + 1) 22 23 [.ref 13, .int x1, .int x2, .int x3] [] (S, I, J, R, c) Q) : X xs L (d + 1) 22 10 [.ref 13, .int x1, .int x2, .int x3] [] (S, I, J, R, c) Q := by
  refine X_iload_n (q := 3) (show decode (mB 22) 10 = .ok (.iload_n 3, 1) by decide +kernel) (pc' := 11) rfl rfl rfl ?_
  refine X_aload_n (q := 0) (show decode (mB 22) 11 = .ok (.aload_n 0, 1) by decide +kernel) (pc' := 12) rfl rfl rfl ?_
  refine X_getR (ci := 0) (f := 1) (q := q_13_1) (show decode (mB 22) 12 = .ok (.getfield 51, 3) by decide +kernel) (pc' := 15) rfl (ls_13 hL) (by decide +kernel) rfl hq_13_1 ?_
  refine X_getR (ci := 3) (f := 7) (q := (q_13_1 + 4)) (show decode (mB 22) 15 = .ok (.getfield 143, 3) by decide +kernel) (pc' := 18) rfl h_q_13_1.s0 (by decide +kernel) rfl h_q_13_1.r0_7 ?_
  refine X_iload_n (q := 1) (show decode (mB 22) 18 = .ok (.iload_n 1, 1) by decide +kernel) (pc' := 19) rfl rfl rfl ?_
  refine X_iaload (w := I (q_13_1 + 4) x1.toNatClampNeg) (show decode (mB 22) 19 = .ok (.iaload, 1) by decide +kernel) (pc' := 20) rfl h_q_13_1.s4 hb19 rfl ?_
  exact X_icmp_gt (tgt := 48) (show decode (mB 22) 20 = .ok (.if_icmp .gt 28, 3) by decide +kernel) rfl (pc' := 23) rfl kt kf
set_option maxRecDepth 4000 in
theorem b_X0_wrongTime_23 {xs : Nat → Int32} {L d : Nat} {S : Nat → Shp} {I : Nat → Nat → Int32} {J : Nat → Nat → Int64} {R : Nat → Nat → Nat} {c : Nat × Nat} {Q : Option (Option Value) → MH → Prop} {x1 x2 x3 : Int32} (hL : Lay S R)  (k : X xs L d 12 0 [.ref 13, .int x1, .int x3, .int (x2 / 64), .null, .null, .null, .null, .null] [] (S, I, J, R, c) (Kc xs L (d + 1) 22 33 [.ref 13, .int x1, .int x2, .int x3] [] Q)) : X xs L (d + 1) 22 23 [.ref 13, .int x1, .int x2, .int x3] [] (S, I, J, R, c) Q := by
  refine X_aload_n (q := 0) (show decode (mB 22) 23 = .ok (.aload_n 0, 1) by decide +kernel) (pc' := 24) rfl rfl rfl ?_
  refine X_iload_n (q := 1) (show decode (mB 22) 24 = .ok (.iload_n 1, 1) by decide +kernel) (pc' := 25) rfl rfl rfl ?_
  refine X_iload_n (q := 3) (show decode (mB 22) 25 = .ok (.iload_n 3, 1) by decide +kernel) (pc' := 26) rfl rfl rfl ?_
  refine X_iload_n (q := 2) (show decode (mB 22) 26 = .ok (.iload_n 2, 1) by decide +kernel) (pc' := 27) rfl rfl rfl ?_
  refine X_bipush (v := 64) (show decode (mB 22) 27 = .ok (.bipush 64, 2) by decide +kernel) (pc' := 29) rfl (by decide +kernel) ?_
  refine X_idiv (show decode (mB 22) 29 = .ok (.idiv, 1) by decide +kernel) (pc' := 30) rfl (by decide) ?_
  exact X_callV (y := 12) (n := 3) (st := [.int (x2 / 64), .int x3, .int x1, .ref 13]) (as := [.ref 13, .int x1, .int x3, .int (x2 / 64)]) (rest := []) (ls0 := [.ref 13, .int x1, .int x3, .int (x2 / 64), .null, .null, .null, .null, .null]) (ci := 0) (show decode (mB 22) 30 = .ok (.invokevirtual 167, 3) by decide +kernel) (pc' := 33) rfl (by decide +kernel) (by decide +kernel) rfl (ls_13 hL) (by decide +kernel) rfl rfl rfl rfl rfl k
set_option maxRecDepth 4000 in
theorem b_X0_wrongTime_33 {xs : Nat → Int32} {L d : Nat} {S : Nat → Shp} {I : Nat → Nat → Int32} {J : Nat → Nat → Int64} {R : Nat → Nat → Nat} {c : Nat × Nat} {Q : Option (Option Value) → MH → Prop} {x1 x2 x3 : Int32} {sy0 : Int64}  (k : X xs L d 19 0 [.long sy0, .null, .int x2] [] (S, I, J, R, c) (Kc xs L (d + 1) 22 37 [.ref 13, .int x1, .int x2, .int x3] [] Q)) : X xs L (d + 1) 22 33 [.ref 13, .int x1, .int x2, .int x3] [.long sy0] (S, I, J, R, c) Q := by
  refine X_iload_n (q := 2) (show decode (mB 22) 33 = .ok (.iload_n 2, 1) by decide +kernel) (pc' := 34) rfl rfl rfl ?_
  exact X_callS (y := 19) (n := 2) (st := [.int x2, .long sy0]) (as := [.long sy0, .int x2]) (rest := []) (ls0 := [.long sy0, .null, .int x2]) (show decode (mB 22) 34 = .ok (.invokestatic 185, 3) by decide +kernel) (pc' := 37) rfl (by decide +kernel) (by decide +kernel) rfl rfl rfl rfl rfl rfl rfl rfl k
set_option maxRecDepth 4000 in
theorem b_X0_wrongTime_37 {xs : Nat → Int32} {L d : Nat} {S : Nat → Shp} {I : Nat → Nat → Int32} {J : Nat → Nat → Int64} {R : Nat → Nat → Nat} {c : Nat × Nat} {Q : Option (Option Value) → MH → Prop} {x1 x2 x3 sx0 : Int32}  (kt : sx0 = 0 → X xs L (d + 1) 22 42 [.ref 13, .int x1, .int x2, .int x3] [] (S, I, J, R, c) Q) (kf : ¬ (sx0 = 0) → X xs L (d + 1) 22 40 [.ref 13, .int x1, .int x2, .int x3] [] (S, I, J, R, c) Q) : X xs L (d + 1) 22 37 [.ref 13, .int x1, .int x2, .int x3] [.int sx0] (S, I, J, R, c) Q := by
  exact X_if_eq (tgt := 42) (show decode (mB 22) 37 = .ok (.ifCond .eq 5, 3) by decide +kernel) rfl (pc' := 40) rfl kt kf
set_option maxRecDepth 4000 in
theorem b_X0_wrongTime_40 {xs : Nat → Int32} {L d : Nat} {S : Nat → Shp} {I : Nat → Nat → Int32} {J : Nat → Nat → Int64} {R : Nat → Nat → Nat} {c : Nat × Nat} {Q : Option (Option Value) → MH → Prop} {x1 x2 x3 : Int32}  (k : Q (some (some (.int x3))) (S, I, J, R, c)) : X xs L (d + 1) 22 40 [.ref 13, .int x1, .int x2, .int x3] [] (S, I, J, R, c) Q := by
  refine X_iload_n (q := 3) (show decode (mB 22) 40 = .ok (.iload_n 3, 1) by decide +kernel) (pc' := 41) rfl rfl rfl ?_
  exact X_ireturn (ty := .int) (show decode (mB 22) 41 = .ok (.ireturn, 1) by decide +kernel) (by decide +kernel) rfl k
set_option maxRecDepth 4000 in
theorem b_X0_wrongTime_42 {xs : Nat → Int32} {L d : Nat} {S : Nat → Shp} {I : Nat → Nat → Int32} {J : Nat → Nat → Int64} {R : Nat → Nat → Nat} {c : Nat × Nat} {Q : Option (Option Value) → MH → Prop} {x1 x2 x3 : Int32}  (k : X xs L (d + 1) 22 10 [.ref 13, .int x1, .int x2, .int (x3 + 1)] [] (S, I, J, R, c) Q) : X xs L (d + 1) 22 42 [.ref 13, .int x1, .int x2, .int x3] [] (S, I, J, R, c) Q := by
  refine X_iinc (q := 3) (v := x3 + 1) (ls' := [.ref 13, .int x1, .int x2, .int (x3 + 1)]) (show decode (mB 22) 42 = .ok (.iinc 3 1, 3) by decide +kernel) (pc' := 45) rfl rfl rfl rfl ?_
  refine X_goto (tgt := 10) (show decode (mB 22) 45 = .ok (.goto (-35), 3) by decide +kernel) rfl ?_
  exact k
set_option maxRecDepth 4000 in
theorem b_X0_wrongTime_48 {xs : Nat → Int32} {L d : Nat} {S : Nat → Shp} {I : Nat → Nat → Int32} {J : Nat → Nat → Int64} {R : Nat → Nat → Nat} {c : Nat × Nat} {Q : Option (Option Value) → MH → Prop} {x1 x2 x3 : Int32}  (k : Q (some (some (.int (-2)))) (S, I, J, R, c)) : X xs L (d + 1) 22 48 [.ref 13, .int x1, .int x2, .int x3] [] (S, I, J, R, c) Q := by
  refine X_bipush (v := (-2)) (show decode (mB 22) 48 = .ok (.bipush (-2), 2) by decide +kernel) (pc' := 50) rfl (by decide +kernel) ?_
  exact X_ireturn (ty := .int) (show decode (mB 22) 50 = .ok (.ireturn, 1) by decide +kernel) (by decide +kernel) rfl k
set_option maxRecDepth 4000 in
theorem b_X0_valueOf_0 {xs : Nat → Int32} {L d : Nat} {S : Nat → Shp} {I : Nat → Nat → Int32} {J : Nat → Nat → Int64} {R : Nat → Nat → Nat} {c : Nat × Nat} {Q : Option (Option Value) → MH → Prop} {x1 x2 x3 : Int32}  (k : X xs L d 3 0 [.int (x3 / 64), .int x2] [] (S, I, J, R, c) (Kc xs L (d + 1) 23 12 [.ref 13, .int x1, .int x2, .int x3, .int (x3 / 64), .null] [] Q)) : X xs L (d + 1) 23 0 [.ref 13, .int x1, .int x2, .int x3, .null, .null] [] (S, I, J, R, c) Q := by
  refine X_iload_n (q := 3) (show decode (mB 23) 0 = .ok (.iload_n 3, 1) by decide +kernel) (pc' := 1) rfl rfl rfl ?_
  refine X_bipush (v := 64) (show decode (mB 23) 1 = .ok (.bipush 64, 2) by decide +kernel) (pc' := 3) rfl (by decide +kernel) ?_
  refine X_idiv (show decode (mB 23) 3 = .ok (.idiv, 1) by decide +kernel) (pc' := 4) rfl (by decide) ?_
  refine X_istore (q := 4) (ls' := [.ref 13, .int x1, .int x2, .int x3, .int (x3 / 64), .null]) (show decode (mB 23) 4 = .ok (.istore 4, 2) by decide +kernel) (pc' := 6) rfl rfl ?_
  refine X_iload (q := 4) (show decode (mB 23) 6 = .ok (.iload 4, 2) by decide +kernel) (pc' := 8) rfl rfl ?_
  refine X_iload_n (q := 2) (show decode (mB 23) 8 = .ok (.iload_n 2, 1) by decide +kernel) (pc' := 9) rfl rfl rfl ?_
  exact X_callS (y := 3) (n := 2) (st := [.int x2, .int (x3 / 64)]) (as := [.int (x3 / 64), .int x2]) (rest := []) (ls0 := [.int (x3 / 64), .int x2]) (show decode (mB 23) 9 = .ok (.invokestatic 131, 3) by decide +kernel) (pc' := 12) rfl (by decide +kernel) (by decide +kernel) rfl rfl rfl rfl rfl rfl rfl rfl k
set_option maxRecDepth 4000 in
theorem b_X0_valueOf_12 {xs : Nat → Int32} {L d : Nat} {S : Nat → Shp} {I : Nat → Nat → Int32} {J : Nat → Nat → Int64} {R : Nat → Nat → Nat} {c : Nat × Nat} {Q : Option (Option Value) → MH → Prop} {x1 x2 x3 x4 sx0 : Int32} (hL : Lay S R) (hb22 : inb x4 8 = true) (k : X xs L d 19 0 [.long (J 23 x4.toNatClampNeg), .null, .int x3] [] (S, I, J, R, c) (Kc xs L (d + 1) 23 27 [.ref 13, .int x1, .int x2, .int x3, .int x4, .int (sx0 + x1)] [] Q)) : X xs L (d + 1) 23 12 [.ref 13, .int x1, .int x2, .int x3, .int x4, .null] [.int sx0] (S, I, J, R, c) Q := by
  refine X_iload_n (q := 1) (show decode (mB 23) 12 = .ok (.iload_n 1, 1) by decide +kernel) (pc' := 13) rfl rfl rfl ?_
  refine X_iadd (show decode (mB 23) 13 = .ok (.iadd, 1) by decide +kernel) (pc' := 14) rfl ?_
  refine X_istore (q := 5) (ls' := [.ref 13, .int x1, .int x2, .int x3, .int x4, .int (sx0 + x1)]) (show decode (mB 23) 14 = .ok (.istore 5, 2) by decide +kernel) (pc' := 16) rfl rfl ?_
  refine X_aload_n (q := 0) (show decode (mB 23) 16 = .ok (.aload_n 0, 1) by decide +kernel) (pc' := 17) rfl rfl rfl ?_
  refine X_getR (ci := 0) (f := 12) (q := 23) (show decode (mB 23) 17 = .ok (.getfield 41, 3) by decide +kernel) (pc' := 20) rfl (ls_13 hL) (by decide +kernel) rfl (lr_13_12 hL) ?_
  refine X_iload (q := 4) (show decode (mB 23) 20 = .ok (.iload 4, 2) by decide +kernel) (pc' := 22) rfl rfl ?_
  refine X_laload (w := J 23 x4.toNatClampNeg) (show decode (mB 23) 22 = .ok (.laload, 1) by decide +kernel) (pc' := 23) rfl (ls_23 hL) hb22 rfl ?_
  refine X_iload_n (q := 3) (show decode (mB 23) 23 = .ok (.iload_n 3, 1) by decide +kernel) (pc' := 24) rfl rfl rfl ?_
  exact X_callS (y := 19) (n := 2) (st := [.int x3, .long (J 23 x4.toNatClampNeg)]) (as := [.long (J 23 x4.toNatClampNeg), .int x3]) (rest := []) (ls0 := [.long (J 23 x4.toNatClampNeg), .null, .int x3]) (show decode (mB 23) 24 = .ok (.invokestatic 185, 3) by decide +kernel) (pc' := 27) rfl (by decide +kernel) (by decide +kernel) rfl rfl rfl rfl rfl rfl rfl rfl k
set_option maxRecDepth 4000 in
theorem b_X0_valueOf_27 {xs : Nat → Int32} {L d : Nat} {S : Nat → Shp} {I : Nat → Nat → Int32} {J : Nat → Nat → Int64} {R : Nat → Nat → Nat} {c : Nat × Nat} {Q : Option (Option Value) → MH → Prop} {x1 x2 x3 x4 x5 sx0 : Int32}  (kt : sx0 = 0 → X xs L (d + 1) 23 32 [.ref 13, .int x1, .int x2, .int x3, .int x4, .int x5] [] (S, I, J, R, c) Q) (kf : ¬ (sx0 = 0) → X xs L (d + 1) 23 30 [.ref 13, .int x1, .int x2, .int x3, .int x4, .int x5] [] (S, I, J, R, c) Q) : X xs L (d + 1) 23 27 [.ref 13, .int x1, .int x2, .int x3, .int x4, .int x5] [.int sx0] (S, I, J, R, c) Q := by
  exact X_if_eq (tgt := 32) (show decode (mB 23) 27 = .ok (.ifCond .eq 5, 3) by decide +kernel) rfl (pc' := 30) rfl kt kf
set_option maxRecDepth 4000 in
theorem b_X0_valueOf_30 {xs : Nat → Int32} {L d : Nat} {S : Nat → Shp} {I : Nat → Nat → Int32} {J : Nat → Nat → Int64} {R : Nat → Nat → Nat} {c : Nat × Nat} {Q : Option (Option Value) → MH → Prop} {x1 x2 x3 x4 x5 : Int32}  (k : Q (some (some (.int 3))) (S, I, J, R, c)) : X xs L (d + 1) 23 30 [.ref 13, .int x1, .int x2, .int x3, .int x4, .int x5] [] (S, I, J, R, c) Q := by
  refine X_iconst (v := 3) (show decode (mB 23) 30 = .ok (.iconst 3, 1) by decide +kernel) (pc' := 31) rfl rfl ?_
  exact X_ireturn (ty := .int) (show decode (mB 23) 31 = .ok (.ireturn, 1) by decide +kernel) (by decide +kernel) rfl k
set_option maxRecDepth 4000 in
theorem b_X0_valueOf_32 {xs : Nat → Int32} {L d : Nat} {S : Nat → Shp} {I : Nat → Nat → Int32} {J : Nat → Nat → Int64} {R : Nat → Nat → Nat} {c : Nat × Nat} {Q : Option (Option Value) → MH → Prop} {x1 x2 x3 x4 x5 : Int32} (hL : Lay S R) (hb38 : inb x5 3840 = true) (k : X xs L d 19 0 [.long (J 21 x5.toNatClampNeg), .null, .int x3] [] (S, I, J, R, c) (Kc xs L (d + 1) 23 43 [.ref 13, .int x1, .int x2, .int x3, .int x4, .int x5] [] Q)) : X xs L (d + 1) 23 32 [.ref 13, .int x1, .int x2, .int x3, .int x4, .int x5] [] (S, I, J, R, c) Q := by
  refine X_aload_n (q := 0) (show decode (mB 23) 32 = .ok (.aload_n 0, 1) by decide +kernel) (pc' := 33) rfl rfl rfl ?_
  refine X_getR (ci := 0) (f := 10) (q := 21) (show decode (mB 23) 33 = .ok (.getfield 35, 3) by decide +kernel) (pc' := 36) rfl (ls_13 hL) (by decide +kernel) rfl (lr_13_10 hL) ?_
  refine X_iload (q := 5) (show decode (mB 23) 36 = .ok (.iload 5, 2) by decide +kernel) (pc' := 38) rfl rfl ?_
  refine X_laload (w := J 21 x5.toNatClampNeg) (show decode (mB 23) 38 = .ok (.laload, 1) by decide +kernel) (pc' := 39) rfl (ls_21 hL) hb38 rfl ?_
  refine X_iload_n (q := 3) (show decode (mB 23) 39 = .ok (.iload_n 3, 1) by decide +kernel) (pc' := 40) rfl rfl rfl ?_
  exact X_callS (y := 19) (n := 2) (st := [.int x3, .long (J 21 x5.toNatClampNeg)]) (as := [.long (J 21 x5.toNatClampNeg), .int x3]) (rest := []) (ls0 := [.long (J 21 x5.toNatClampNeg), .null, .int x3]) (show decode (mB 23) 40 = .ok (.invokestatic 185, 3) by decide +kernel) (pc' := 43) rfl (by decide +kernel) (by decide +kernel) rfl rfl rfl rfl rfl rfl rfl rfl k
set_option maxRecDepth 4000 in
theorem b_X0_valueOf_43 {xs : Nat → Int32} {L d : Nat} {S : Nat → Shp} {I : Nat → Nat → Int32} {J : Nat → Nat → Int64} {R : Nat → Nat → Nat} {c : Nat × Nat} {Q : Option (Option Value) → MH → Prop} {x1 x2 x3 x4 x5 sx0 : Int32}  (kt : sx0 = 0 → X xs L (d + 1) 23 48 [.ref 13, .int x1, .int x2, .int x3, .int x4, .int x5] [] (S, I, J, R, c) Q) (kf : ¬ (sx0 = 0) → X xs L (d + 1) 23 46 [.ref 13, .int x1, .int x2, .int x3, .int x4, .int x5] [] (S, I, J, R, c) Q) : X xs L (d + 1) 23 43 [.ref 13, .int x1, .int x2, .int x3, .int x4, .int x5] [.int sx0] (S, I, J, R, c) Q := by
  exact X_if_eq (tgt := 48) (show decode (mB 23) 43 = .ok (.ifCond .eq 5, 3) by decide +kernel) rfl (pc' := 46) rfl kt kf
set_option maxRecDepth 4000 in
theorem b_X0_valueOf_46 {xs : Nat → Int32} {L d : Nat} {S : Nat → Shp} {I : Nat → Nat → Int32} {J : Nat → Nat → Int64} {R : Nat → Nat → Nat} {c : Nat × Nat} {Q : Option (Option Value) → MH → Prop} {x1 x2 x3 x4 x5 : Int32}  (k : Q (some (some (.int 1))) (S, I, J, R, c)) : X xs L (d + 1) 23 46 [.ref 13, .int x1, .int x2, .int x3, .int x4, .int x5] [] (S, I, J, R, c) Q := by
  refine X_iconst (v := 1) (show decode (mB 23) 46 = .ok (.iconst 1, 1) by decide +kernel) (pc' := 47) rfl rfl ?_
  exact X_ireturn (ty := .int) (show decode (mB 23) 47 = .ok (.ireturn, 1) by decide +kernel) (by decide +kernel) rfl k
set_option maxRecDepth 4000 in
theorem b_X0_valueOf_48 {xs : Nat → Int32} {L d : Nat} {S : Nat → Shp} {I : Nat → Nat → Int32} {J : Nat → Nat → Int64} {R : Nat → Nat → Nat} {c : Nat × Nat} {Q : Option (Option Value) → MH → Prop} {x1 x2 x3 x4 x5 : Int32} (hL : Lay S R) (hb54 : inb x5 3840 = true) (k : X xs L d 19 0 [.long (J 22 x5.toNatClampNeg), .null, .int x3] [] (S, I, J, R, c) (Kc xs L (d + 1) 23 59 [.ref 13, .int x1, .int x2, .int x3, .int x4, .int x5] [] Q)) : X xs L (d + 1) 23 48 [.ref 13, .int x1, .int x2, .int x3, .int x4, .int x5] [] (S, I, J, R, c) Q := by
  refine X_aload_n (q := 0) (show decode (mB 23) 48 = .ok (.aload_n 0, 1) by decide +kernel) (pc' := 49) rfl rfl rfl ?_
  refine X_getR (ci := 0) (f := 11) (q := 22) (show decode (mB 23) 49 = .ok (.getfield 38, 3) by decide +kernel) (pc' := 52) rfl (ls_13 hL) (by decide +kernel) rfl (lr_13_11 hL) ?_
  refine X_iload (q := 5) (show decode (mB 23) 52 = .ok (.iload 5, 2) by decide +kernel) (pc' := 54) rfl rfl ?_
  refine X_laload (w := J 22 x5.toNatClampNeg) (show decode (mB 23) 54 = .ok (.laload, 1) by decide +kernel) (pc' := 55) rfl (ls_22 hL) hb54 rfl ?_
  refine X_iload_n (q := 3) (show decode (mB 23) 55 = .ok (.iload_n 3, 1) by decide +kernel) (pc' := 56) rfl rfl rfl ?_
  exact X_callS (y := 19) (n := 2) (st := [.int x3, .long (J 22 x5.toNatClampNeg)]) (as := [.long (J 22 x5.toNatClampNeg), .int x3]) (rest := []) (ls0 := [.long (J 22 x5.toNatClampNeg), .null, .int x3]) (show decode (mB 23) 56 = .ok (.invokestatic 185, 3) by decide +kernel) (pc' := 59) rfl (by decide +kernel) (by decide +kernel) rfl rfl rfl rfl rfl rfl rfl rfl k
set_option maxRecDepth 4000 in
theorem b_X0_valueOf_59 {xs : Nat → Int32} {L d : Nat} {S : Nat → Shp} {I : Nat → Nat → Int32} {J : Nat → Nat → Int64} {R : Nat → Nat → Nat} {c : Nat × Nat} {Q : Option (Option Value) → MH → Prop} {x1 x2 x3 x4 x5 sx0 : Int32}  (kt : sx0 = 0 → X xs L (d + 1) 23 66 [.ref 13, .int x1, .int x2, .int x3, .int x4, .int x5] [] (S, I, J, R, c) Q) (kf : ¬ (sx0 = 0) → X xs L (d + 1) 23 62 [.ref 13, .int x1, .int x2, .int x3, .int x4, .int x5] [] (S, I, J, R, c) Q) : X xs L (d + 1) 23 59 [.ref 13, .int x1, .int x2, .int x3, .int x4, .int x5] [.int sx0] (S, I, J, R, c) Q := by
  exact X_if_eq (tgt := 66) (show decode (mB 23) 59 = .ok (.ifCond .eq 7, 3) by decide +kernel) rfl (pc' := 62) rfl kt kf
set_option maxRecDepth 4000 in
theorem b_X0_valueOf_62 {xs : Nat → Int32} {L d : Nat} {S : Nat → Shp} {I : Nat → Nat → Int32} {J : Nat → Nat → Int64} {R : Nat → Nat → Nat} {c : Nat × Nat} {Q : Option (Option Value) → MH → Prop} {x1 x2 x3 x4 x5 : Int32}  (k : X xs L (d + 1) 23 67 [.ref 13, .int x1, .int x2, .int x3, .int x4, .int x5] [.int 0] (S, I, J, R, c) Q) : X xs L (d + 1) 23 62 [.ref 13, .int x1, .int x2, .int x3, .int x4, .int x5] [] (S, I, J, R, c) Q := by
  refine X_iconst (v := 0) (show decode (mB 23) 62 = .ok (.iconst 0, 1) by decide +kernel) (pc' := 63) rfl rfl ?_
  refine X_goto (tgt := 67) (show decode (mB 23) 63 = .ok (.goto 4, 3) by decide +kernel) rfl ?_
  exact k
set_option maxRecDepth 4000 in
theorem b_X0_valueOf_66 {xs : Nat → Int32} {L d : Nat} {S : Nat → Shp} {I : Nat → Nat → Int32} {J : Nat → Nat → Int64} {R : Nat → Nat → Nat} {c : Nat × Nat} {Q : Option (Option Value) → MH → Prop} {x1 x2 x3 x4 x5 : Int32}  (k : X xs L (d + 1) 23 67 [.ref 13, .int x1, .int x2, .int x3, .int x4, .int x5] [.int 2] (S, I, J, R, c) Q) : X xs L (d + 1) 23 66 [.ref 13, .int x1, .int x2, .int x3, .int x4, .int x5] [] (S, I, J, R, c) Q := by
  refine X_iconst (v := 2) (show decode (mB 23) 66 = .ok (.iconst 2, 1) by decide +kernel) (pc' := 67) rfl rfl ?_
  exact k
set_option maxRecDepth 4000 in
theorem b_X0_valueOf_67 {xs : Nat → Int32} {L d : Nat} {S : Nat → Shp} {I : Nat → Nat → Int32} {J : Nat → Nat → Int64} {R : Nat → Nat → Nat} {c : Nat × Nat} {Q : Option (Option Value) → MH → Prop} {x1 x2 x3 x4 x5 sx0 : Int32}  (k : Q (some (some (.int sx0))) (S, I, J, R, c)) : X xs L (d + 1) 23 67 [.ref 13, .int x1, .int x2, .int x3, .int x4, .int x5] [.int sx0] (S, I, J, R, c) Q := by
  exact X_ireturn (ty := .int) (show decode (mB 23) 67 = .ok (.ireturn, 1) by decide +kernel) (by decide +kernel) rfl k
set_option maxRecDepth 4000 in
theorem b_X0_everMatters_0 {xs : Nat → Int32} {L d : Nat} {S : Nat → Shp} {I : Nat → Nat → Int32} {J : Nat → Nat → Int64} {R : Nat → Nat → Nat} {c : Nat × Nat} {Q : Option (Option Value) → MH → Prop} {x1 x2 x3 : Int32}  (k : X xs L (d + 1) 24 3 [.ref 13, .int x1, .int x2, .int x3, .int 0] [] (S, I, J, R, c) Q) : X xs L (d + 1) 24 0 [.ref 13, .int x1, .int x2, .int x3, .null] [] (S, I, J, R, c) Q := by
  refine X_iconst (v := 0) (show decode (mB 24) 0 = .ok (.iconst 0, 1) by decide +kernel) (pc' := 1) rfl rfl ?_
  refine X_istore (q := 4) (ls' := [.ref 13, .int x1, .int x2, .int x3, .int 0]) (show decode (mB 24) 1 = .ok (.istore 4, 2) by decide +kernel) (pc' := 3) rfl rfl ?_
  exact k
set_option maxRecDepth 4000 in
theorem b_X0_everMatters_3 {xs : Nat → Int32} {L d : Nat} {S : Nat → Shp} {I : Nat → Nat → Int32} {J : Nat → Nat → Int64} {R : Nat → Nat → Nat} {c : Nat × Nat} {Q : Option (Option Value) → MH → Prop} {x1 x2 x3 x4 : Int32} (hL : Lay S R)  (kt : (I 13 3) ≤ x4 → X xs L (d + 1) 24 43 [.ref 13, .int x1, .int x2, .int x3, .int x4] [] (S, I, J, R, c) Q) (kf : ¬ ((I 13 3) ≤ x4) → X xs L (d + 1) 24 12 [.ref 13, .int x1, .int x2, .int x3, .int x4] [] (S, I, J, R, c) Q) : X xs L (d + 1) 24 3 [.ref 13, .int x1, .int x2, .int x3, .int x4] [] (S, I, J, R, c) Q := by
  refine X_iload (q := 4) (show decode (mB 24) 3 = .ok (.iload 4, 2) by decide +kernel) (pc' := 5) rfl rfl ?_
  refine X_aload_n (q := 0) (show decode (mB 24) 5 = .ok (.aload_n 0, 1) by decide +kernel) (pc' := 6) rfl rfl rfl ?_
  refine X_getI (ci := 0) (f := 3) (x := I 13 3) (show decode (mB 24) 6 = .ok (.getfield 68, 3) by decide +kernel) (pc' := 9) rfl (ls_13 hL) (by decide +kernel) rfl rfl ?_
  exact X_icmp_ge (tgt := 43) (show decode (mB 24) 9 = .ok (.if_icmp .ge 34, 3) by decide +kernel) rfl (pc' := 12) rfl kt kf
set_option maxRecDepth 4000 in
theorem b_X0_everMatters_12 {xs : Nat → Int32} {L d : Nat} {S : Nat → Shp} {I : Nat → Nat → Int32} {J : Nat → Nat → Int64} {R : Nat → Nat → Nat} {c : Nat × Nat} {Q : Option (Option Value) → MH → Prop} {x1 x2 x3 x4 : Int32}  (k : X xs L d 3 0 [.int 0, .int x2] [] (S, I, J, R, c) (Kc xs L (d + 1) 24 18 [.ref 13, .int x1, .int x2, .int x3, .int x4] [.ref 13] Q)) : X xs L (d + 1) 24 12 [.ref 13, .int x1, .int x2, .int x3, .int x4] [] (S, I, J, R, c) Q := by
  refine X_aload_n (q := 0) (show decode (mB 24) 12 = .ok (.aload_n 0, 1) by decide +kernel) (pc' := 13) rfl rfl rfl ?_
  refine X_iconst (v := 0) (show decode (mB 24) 13 = .ok (.iconst 0, 1) by decide +kernel) (pc' := 14) rfl rfl ?_
  refine X_iload_n (q := 2) (show decode (mB 24) 14 = .ok (.iload_n 2, 1) by decide +kernel) (pc' := 15) rfl rfl rfl ?_
  exact X_callS (y := 3) (n := 2) (st := [.int x2, .int 0, .ref 13]) (as := [.int 0, .int x2]) (rest := [.ref 13]) (ls0 := [.int 0, .int x2]) (show decode (mB 24) 15 = .ok (.invokestatic 131, 3) by decide +kernel) (pc' := 18) rfl (by decide +kernel) (by decide +kernel) rfl rfl rfl rfl rfl rfl rfl rfl k
set_option maxRecDepth 4000 in
theorem b_X0_everMatters_18 {xs : Nat → Int32} {L d : Nat} {S : Nat → Shp} {I : Nat → Nat → Int32} {J : Nat → Nat → Int64} {R : Nat → Nat → Nat} {c : Nat × Nat} {Q : Option (Option Value) → MH → Prop} {x1 x2 x3 x4 sx1 : Int32} (hL : Lay S R)  (k : X xs L d 5 0 [.ref 13, .int x3] [] (S, I, J, R, c) (Kc xs L (d + 1) 24 27 [.ref 13, .int x1, .int x2, .int x3, .int x4] [.int x4, .int (sx1 + x1), .ref 13] Q)) : X xs L (d + 1) 24 18 [.ref 13, .int x1, .int x2, .int x3, .int x4] [.int sx1, .ref 13] (S, I, J, R, c) Q := by
  refine X_iload_n (q := 1) (show decode (mB 24) 18 = .ok (.iload_n 1, 1) by decide +kernel) (pc' := 19) rfl rfl rfl ?_
  refine X_iadd (show decode (mB 24) 19 = .ok (.iadd, 1) by decide +kernel) (pc' := 20) rfl ?_
  refine X_iload (q := 4) (show decode (mB 24) 20 = .ok (.iload 4, 2) by decide +kernel) (pc' := 22) rfl rfl ?_
  refine X_aload_n (q := 0) (show decode (mB 24) 22 = .ok (.aload_n 0, 1) by decide +kernel) (pc' := 23) rfl rfl rfl ?_
  refine X_iload_n (q := 3) (show decode (mB 24) 23 = .ok (.iload_n 3, 1) by decide +kernel) (pc' := 24) rfl rfl rfl ?_
  exact X_callV (y := 5) (n := 1) (st := [.int x3, .ref 13, .int x4, .int (sx1 + x1), .ref 13]) (as := [.ref 13, .int x3]) (rest := [.int x4, .int (sx1 + x1), .ref 13]) (ls0 := [.ref 13, .int x3]) (ci := 0) (show decode (mB 24) 24 = .ok (.invokevirtual 96, 3) by decide +kernel) (pc' := 27) rfl (by decide +kernel) (by decide +kernel) rfl (ls_13 hL) (by decide +kernel) rfl rfl rfl rfl rfl k
set_option maxRecDepth 4000 in
theorem b_X0_everMatters_27 {xs : Nat → Int32} {L d : Nat} {S : Nat → Shp} {I : Nat → Nat → Int32} {J : Nat → Nat → Int64} {R : Nat → Nat → Nat} {c : Nat × Nat} {Q : Option (Option Value) → MH → Prop} {x1 x2 x3 x4 sx1 sx2 sx3 : Int32} (hL : Lay S R)  (k : X xs L d 25 0 [.ref 13, .int sx1, .int sx2, .int sx3, .null, .null, .null, .null, .null, .null, .null, .null] [] (S, I, J, R, c) (Kc xs L (d + 1) 24 30 [.ref 13, .int x1, .int x2, .int x3, .int x4] [] Q)) : X xs L (d + 1) 24 27 [.ref 13, .int x1, .int x2, .int x3, .int x4] [.int sx3, .int sx2, .int sx1, .ref 13] (S, I, J, R, c) Q := by
  exact X_callV (y := 25) (n := 3) (st := [.int sx3, .int sx2, .int sx1, .ref 13]) (as := [.ref 13, .int sx1, .int sx2, .int sx3]) (rest := []) (ls0 := [.ref 13, .int sx1, .int sx2, .int sx3, .null, .null, .null, .null, .null, .null, .null, .null]) (ci := 0) (show decode (mB 24) 27 = .ok (.invokevirtual 195, 3) by decide +kernel) (pc' := 30) rfl (by decide +kernel) (by decide +kernel) rfl (ls_13 hL) (by decide +kernel) rfl rfl rfl rfl rfl k
set_option maxRecDepth 4000 in
theorem b_X0_everMatters_30 {xs : Nat → Int32} {L d : Nat} {S : Nat → Shp} {I : Nat → Nat → Int32} {J : Nat → Nat → Int64} {R : Nat → Nat → Nat} {c : Nat × Nat} {Q : Option (Option Value) → MH → Prop} {x1 x2 x3 x4 : Int32} {sy0 : Int64}  (kt : (lg_cmp sy0 0) = 0 → X xs L (d + 1) 24 37 [.ref 13, .int x1, .int x2, .int x3, .int x4] [] (S, I, J, R, c) Q) (kf : ¬ ((lg_cmp sy0 0) = 0) → X xs L (d + 1) 24 35 [.ref 13, .int x1, .int x2, .int x3, .int x4] [] (S, I, J, R, c) Q) : X xs L (d + 1) 24 30 [.ref 13, .int x1, .int x2, .int x3, .int x4] [.long sy0] (S, I, J, R, c) Q := by
  refine X_lconst (v := 0) (show decode (mB 24) 30 = .ok (.lconst 0, 1) by decide +kernel) (pc' := 31) rfl rfl ?_
  refine X_lcmp (show decode (mB 24) 31 = .ok (.lcmp, 1) by decide +kernel) (pc' := 32) rfl ?_
  exact X_if_eq (tgt := 37) (show decode (mB 24) 32 = .ok (.ifCond .eq 5, 3) by decide +kernel) rfl (pc' := 35) rfl kt kf
set_option maxRecDepth 4000 in
theorem b_X0_everMatters_35 {xs : Nat → Int32} {L d : Nat} {S : Nat → Shp} {I : Nat → Nat → Int32} {J : Nat → Nat → Int64} {R : Nat → Nat → Nat} {c : Nat × Nat} {Q : Option (Option Value) → MH → Prop} {x1 x2 x3 x4 : Int32}  (k : Q (some (some (.int 1))) (S, I, J, R, c)) : X xs L (d + 1) 24 35 [.ref 13, .int x1, .int x2, .int x3, .int x4] [] (S, I, J, R, c) Q := by
  refine X_iconst (v := 1) (show decode (mB 24) 35 = .ok (.iconst 1, 1) by decide +kernel) (pc' := 36) rfl rfl ?_
  exact X_ireturn (ty := .boolean) (show decode (mB 24) 36 = .ok (.ireturn, 1) by decide +kernel) (by decide +kernel) rfl k
set_option maxRecDepth 4000 in
theorem b_X0_everMatters_37 {xs : Nat → Int32} {L d : Nat} {S : Nat → Shp} {I : Nat → Nat → Int32} {J : Nat → Nat → Int64} {R : Nat → Nat → Nat} {c : Nat × Nat} {Q : Option (Option Value) → MH → Prop} {x1 x2 x3 x4 : Int32}  (k : X xs L (d + 1) 24 3 [.ref 13, .int x1, .int x2, .int x3, .int (x4 + 1)] [] (S, I, J, R, c) Q) : X xs L (d + 1) 24 37 [.ref 13, .int x1, .int x2, .int x3, .int x4] [] (S, I, J, R, c) Q := by
  refine X_iinc (q := 4) (v := x4 + 1) (ls' := [.ref 13, .int x1, .int x2, .int x3, .int (x4 + 1)]) (show decode (mB 24) 37 = .ok (.iinc 4 1, 3) by decide +kernel) (pc' := 40) rfl rfl rfl rfl ?_
  refine X_goto (tgt := 3) (show decode (mB 24) 40 = .ok (.goto (-37), 3) by decide +kernel) rfl ?_
  exact k
set_option maxRecDepth 4000 in
theorem b_X0_everMatters_43 {xs : Nat → Int32} {L d : Nat} {S : Nat → Shp} {I : Nat → Nat → Int32} {J : Nat → Nat → Int64} {R : Nat → Nat → Nat} {c : Nat × Nat} {Q : Option (Option Value) → MH → Prop} {x1 x2 x3 x4 : Int32}  (k : Q (some (some (.int 0))) (S, I, J, R, c)) : X xs L (d + 1) 24 43 [.ref 13, .int x1, .int x2, .int x3, .int x4] [] (S, I, J, R, c) Q := by
  refine X_iconst (v := 0) (show decode (mB 24) 43 = .ok (.iconst 0, 1) by decide +kernel) (pc' := 44) rfl rfl ?_
  exact X_ireturn (ty := .boolean) (show decode (mB 24) 44 = .ok (.ireturn, 1) by decide +kernel) (by decide +kernel) rfl k
set_option maxRecDepth 4000 in
theorem b_X0_changedLanes_0 {xs : Nat → Int32} {L d : Nat} {S : Nat → Shp} {I : Nat → Nat → Int32} {J : Nat → Nat → Int64} {R : Nat → Nat → Nat} {c : Nat × Nat} {Q : Option (Option Value) → MH → Prop} {x1 x2 x3 : Int32}  (kt : 6 ≤ x3 → X xs L (d + 1) 25 12 [.ref 13, .int x1, .int x2, .int x3, .null, .null, .null, .null, .null, .null, .null, .null] [] (S, I, J, R, c) Q) (kf : ¬ (6 ≤ x3) → X xs L (d + 1) 25 6 [.ref 13, .int x1, .int x2, .int x3, .null, .null, .null, .null, .null, .null, .null, .null] [] (S, I, J, R, c) Q) : X xs L (d + 1) 25 0 [.ref 13, .int x1, .int x2, .int x3, .null, .null, .null, .null, .null, .null, .null, .null] [] (S, I, J, R, c) Q := by
  refine X_iload_n (q := 3) (show decode (mB 25) 0 = .ok (.iload_n 3, 1) by decide +kernel) (pc' := 1) rfl rfl rfl ?_
  refine X_bipush (v := 6) (show decode (mB 25) 1 = .ok (.bipush 6, 2) by decide +kernel) (pc' := 3) rfl (by decide +kernel) ?_
  exact X_icmp_ge (tgt := 12) (show decode (mB 25) 3 = .ok (.if_icmp .ge 9, 3) by decide +kernel) rfl (pc' := 6) rfl kt kf
set_option maxRecDepth 4000 in
theorem b_X0_changedLanes_6 {xs : Nat → Int32} {L d : Nat} {S : Nat → Shp} {I : Nat → Nat → Int32} {J : Nat → Nat → Int64} {R : Nat → Nat → Nat} {c : Nat × Nat} {Q : Option (Option Value) → MH → Prop} {x1 x2 x3 : Int32}  (k : X xs L (d + 1) 25 13 [.ref 13, .int x1, .int x2, .int x3, .null, .null, .null, .null, .null, .null, .null, .null] [.int ((1 : Int32) <<< (x3 &&& 31))] (S, I, J, R, c) Q) : X xs L (d + 1) 25 6 [.ref 13, .int x1, .int x2, .int x3, .null, .null, .null, .null, .null, .null, .null, .null] [] (S, I, J, R, c) Q := by
  refine X_iconst (v := 1) (show decode (mB 25) 6 = .ok (.iconst 1, 1) by decide +kernel) (pc' := 7) rfl rfl ?_
  refine X_iload_n (q := 3) (show decode (mB 25) 7 = .ok (.iload_n 3, 1) by decide +kernel) (pc' := 8) rfl rfl rfl ?_
  refine X_ishl (show decode (mB 25) 8 = .ok (.ishl, 1) by decide +kernel) (pc' := 9) rfl ?_
  refine X_goto (tgt := 13) (show decode (mB 25) 9 = .ok (.goto 4, 3) by decide +kernel) rfl ?_
  exact k
set_option maxRecDepth 4000 in
theorem b_X0_changedLanes_12 {xs : Nat → Int32} {L d : Nat} {S : Nat → Shp} {I : Nat → Nat → Int32} {J : Nat → Nat → Int64} {R : Nat → Nat → Nat} {c : Nat × Nat} {Q : Option (Option Value) → MH → Prop} {x1 x2 x3 : Int32}  (k : X xs L (d + 1) 25 13 [.ref 13, .int x1, .int x2, .int x3, .null, .null, .null, .null, .null, .null, .null, .null] [.int 0] (S, I, J, R, c) Q) : X xs L (d + 1) 25 12 [.ref 13, .int x1, .int x2, .int x3, .null, .null, .null, .null, .null, .null, .null, .null] [] (S, I, J, R, c) Q := by
  refine X_iconst (v := 0) (show decode (mB 25) 12 = .ok (.iconst 0, 1) by decide +kernel) (pc' := 13) rfl rfl ?_
  exact k
set_option maxRecDepth 4000 in
theorem b_X0_changedLanes_13 {xs : Nat → Int32} {L d : Nat} {S : Nat → Shp} {I : Nat → Nat → Int32} {J : Nat → Nat → Int64} {R : Nat → Nat → Nat} {c : Nat × Nat} {Q : Option (Option Value) → MH → Prop} {x1 x2 x3 sx0 : Int32}  (kt : 6 ≤ x3 → X xs L (d + 1) 25 25 [.ref 13, .int x1, .int x2, .int x3, .int sx0, .null, .null, .null, .null, .null, .null, .null] [] (S, I, J, R, c) Q) (kf : ¬ (6 ≤ x3) → X xs L (d + 1) 25 21 [.ref 13, .int x1, .int x2, .int x3, .int sx0, .null, .null, .null, .null, .null, .null, .null] [] (S, I, J, R, c) Q) : X xs L (d + 1) 25 13 [.ref 13, .int x1, .int x2, .int x3, .null, .null, .null, .null, .null, .null, .null, .null] [.int sx0] (S, I, J, R, c) Q := by
  refine X_istore (q := 4) (ls' := [.ref 13, .int x1, .int x2, .int x3, .int sx0, .null, .null, .null, .null, .null, .null, .null]) (show decode (mB 25) 13 = .ok (.istore 4, 2) by decide +kernel) (pc' := 15) rfl rfl ?_
  refine X_iload_n (q := 3) (show decode (mB 25) 15 = .ok (.iload_n 3, 1) by decide +kernel) (pc' := 16) rfl rfl rfl ?_
  refine X_bipush (v := 6) (show decode (mB 25) 16 = .ok (.bipush 6, 2) by decide +kernel) (pc' := 18) rfl (by decide +kernel) ?_
  exact X_icmp_ge (tgt := 25) (show decode (mB 25) 18 = .ok (.if_icmp .ge 7, 3) by decide +kernel) rfl (pc' := 21) rfl kt kf
set_option maxRecDepth 4000 in
theorem b_X0_changedLanes_21 {xs : Nat → Int32} {L d : Nat} {S : Nat → Shp} {I : Nat → Nat → Int32} {J : Nat → Nat → Int64} {R : Nat → Nat → Nat} {c : Nat × Nat} {Q : Option (Option Value) → MH → Prop} {x1 x2 x3 x4 : Int32}  (k : X xs L (d + 1) 25 33 [.ref 13, .int x1, .int x2, .int x3, .int x4, .null, .null, .null, .null, .null, .null, .null] [.int x2] (S, I, J, R, c) Q) : X xs L (d + 1) 25 21 [.ref 13, .int x1, .int x2, .int x3, .int x4, .null, .null, .null, .null, .null, .null, .null] [] (S, I, J, R, c) Q := by
  refine X_iload_n (q := 2) (show decode (mB 25) 21 = .ok (.iload_n 2, 1) by decide +kernel) (pc' := 22) rfl rfl rfl ?_
  refine X_goto (tgt := 33) (show decode (mB 25) 22 = .ok (.goto 11, 3) by decide +kernel) rfl ?_
  exact k
set_option maxRecDepth 4000 in
theorem b_X0_changedLanes_25 {xs : Nat → Int32} {L d : Nat} {S : Nat → Shp} {I : Nat → Nat → Int32} {J : Nat → Nat → Int64} {R : Nat → Nat → Nat} {c : Nat × Nat} {Q : Option (Option Value) → MH → Prop} {x1 x2 x3 x4 : Int32}  (k : X xs L (d + 1) 25 33 [.ref 13, .int x1, .int x2, .int x3, .int x4, .null, .null, .null, .null, .null, .null, .null] [.int (x2 ||| ((1 : Int32) <<< ((x3 - 6) &&& 31)))] (S, I, J, R, c) Q) : X xs L (d + 1) 25 25 [.ref 13, .int x1, .int x2, .int x3, .int x4, .null, .null, .null, .null, .null, .null, .null] [] (S, I, J, R, c) Q := by
  refine X_iload_n (q := 2) (show decode (mB 25) 25 = .ok (.iload_n 2, 1) by decide +kernel) (pc' := 26) rfl rfl rfl ?_
  refine X_iconst (v := 1) (show decode (mB 25) 26 = .ok (.iconst 1, 1) by decide +kernel) (pc' := 27) rfl rfl ?_
  refine X_iload_n (q := 3) (show decode (mB 25) 27 = .ok (.iload_n 3, 1) by decide +kernel) (pc' := 28) rfl rfl rfl ?_
  refine X_bipush (v := 6) (show decode (mB 25) 28 = .ok (.bipush 6, 2) by decide +kernel) (pc' := 30) rfl (by decide +kernel) ?_
  refine X_isub (show decode (mB 25) 30 = .ok (.isub, 1) by decide +kernel) (pc' := 31) rfl ?_
  refine X_ishl (show decode (mB 25) 31 = .ok (.ishl, 1) by decide +kernel) (pc' := 32) rfl ?_
  refine X_ior (show decode (mB 25) 32 = .ok (.ior, 1) by decide +kernel) (pc' := 33) rfl ?_
  exact k
set_option maxRecDepth 4000 in
theorem b_X0_changedLanes_33 {xs : Nat → Int32} {L d : Nat} {S : Nat → Shp} {I : Nat → Nat → Int32} {J : Nat → Nat → Int64} {R : Nat → Nat → Nat} {c : Nat × Nat} {Q : Option (Option Value) → MH → Prop} {x1 x2 x3 x4 sx0 : Int32}  (k : X xs L d 3 0 [.int x2, .int 0] [] (S, I, J, R, c) (Kc xs L (d + 1) 25 40 [.ref 13, .int x1, .int x2, .int x3, .int x4, .int sx0, .null, .null, .null, .null, .null, .null] [] Q)) : X xs L (d + 1) 25 33 [.ref 13, .int x1, .int x2, .int x3, .int x4, .null, .null, .null, .null, .null, .null, .null] [.int sx0] (S, I, J, R, c) Q := by
  refine X_istore (q := 5) (ls' := [.ref 13, .int x1, .int x2, .int x3, .int x4, .int sx0, .null, .null, .null, .null, .null, .null]) (show decode (mB 25) 33 = .ok (.istore 5, 2) by decide +kernel) (pc' := 35) rfl rfl ?_
  refine X_iload_n (q := 2) (show decode (mB 25) 35 = .ok (.iload_n 2, 1) by decide +kernel) (pc' := 36) rfl rfl rfl ?_
  refine X_iconst (v := 0) (show decode (mB 25) 36 = .ok (.iconst 0, 1) by decide +kernel) (pc' := 37) rfl rfl ?_
  exact X_callS (y := 3) (n := 2) (st := [.int 0, .int x2]) (as := [.int x2, .int 0]) (rest := []) (ls0 := [.int x2, .int 0]) (show decode (mB 25) 37 = .ok (.invokestatic 131, 3) by decide +kernel) (pc' := 40) rfl (by decide +kernel) (by decide +kernel) rfl rfl rfl rfl rfl rfl rfl rfl k
set_option maxRecDepth 4000 in
theorem b_X0_changedLanes_40 {xs : Nat → Int32} {L d : Nat} {S : Nat → Shp} {I : Nat → Nat → Int32} {J : Nat → Nat → Int64} {R : Nat → Nat → Nat} {c : Nat × Nat} {Q : Option (Option Value) → MH → Prop} {x1 x2 x3 x4 x5 sx0 : Int32}  (k : X xs L d 3 0 [.int x5, .int 0] [] (S, I, J, R, c) (Kc xs L (d + 1) 25 50 [.ref 13, .int x1, .int x2, .int x3, .int x4, .int x5, .int (sx0 + x1), .null, .null, .null, .null, .null] [] Q)) : X xs L (d + 1) 25 40 [.ref 13, .int x1, .int x2, .int x3, .int x4, .int x5, .null, .null, .null, .null, .null, .null] [.int sx0] (S, I, J, R, c) Q := by
  refine X_iload_n (q := 1) (show decode (mB 25) 40 = .ok (.iload_n 1, 1) by decide +kernel) (pc' := 41) rfl rfl rfl ?_
  refine X_iadd (show decode (mB 25) 41 = .ok (.iadd, 1) by decide +kernel) (pc' := 42) rfl ?_
  refine X_istore (q := 6) (ls' := [.ref 13, .int x1, .int x2, .int x3, .int x4, .int x5, .int (sx0 + x1), .null, .null, .null, .null, .null]) (show decode (mB 25) 42 = .ok (.istore 6, 2) by decide +kernel) (pc' := 44) rfl rfl ?_
  refine X_iload (q := 5) (show decode (mB 25) 44 = .ok (.iload 5, 2) by decide +kernel) (pc' := 46) rfl rfl ?_
  refine X_iconst (v := 0) (show decode (mB 25) 46 = .ok (.iconst 0, 1) by decide +kernel) (pc' := 47) rfl rfl ?_
  exact X_callS (y := 3) (n := 2) (st := [.int 0, .int x5]) (as := [.int x5, .int 0]) (rest := []) (ls0 := [.int x5, .int 0]) (show decode (mB 25) 47 = .ok (.invokestatic 131, 3) by decide +kernel) (pc' := 50) rfl (by decide +kernel) (by decide +kernel) rfl rfl rfl rfl rfl rfl rfl rfl k
set_option maxRecDepth 4000 in
theorem b_X0_changedLanes_50 {xs : Nat → Int32} {L d : Nat} {S : Nat → Shp} {I : Nat → Nat → Int32} {J : Nat → Nat → Int64} {R : Nat → Nat → Nat} {c : Nat × Nat} {Q : Option (Option Value) → MH → Prop} {x1 x2 x3 x4 x5 x6 sx0 : Int32} (hL : Lay S R) (hb60 : inb x6 3840 = true) (hb67 : inb (sx0 + x1) 3840 = true) (hb82 : inb x6 3840 = true) (hb89 : inb (sx0 + x1) 3840 = true) (hb102 : inb x2 8 = true) (hb109 : inb x5 8 = true) (k : X xs L d 4 0 [.int x3, .int x2] [] (S, I, J, R, c) (Kc xs L (d + 1) 25 130 [.ref 13, .int x1, .int x2, .int x3, .int x4, .int x5, .int x6, .int (sx0 + x1), .long (((J 21 x6.toNatClampNeg) ^^^ (((J 21 (sx0 + x1).toNatClampNeg).toUInt64 >>> (x4.toInt64.toUInt64 &&& Int64.toUInt64 63)).toInt64)) ||| ((J 22 x6.toNatClampNeg) ^^^ (((J 22 (sx0 + x1).toNatClampNeg).toUInt64 >>> (x4.toInt64.toUInt64 &&& Int64.toUInt64 63)).toInt64))), .null, .long ((J 23 x2.toNatClampNeg) ||| (((J 23 x5.toNatClampNeg).toUInt64 >>> (x4.toInt64.toUInt64 &&& Int64.toUInt64 63)).toInt64)), .null] [.long ((((J 21 x6.toNatClampNeg) ^^^ (((J 21 (sx0 + x1).toNatClampNeg).toUInt64 >>> (x4.toInt64.toUInt64 &&& Int64.toUInt64 63)).toInt64)) ||| ((J 22 x6.toNatClampNeg) ^^^ (((J 22 (sx0 + x1).toNatClampNeg).toUInt64 >>> (x4.toInt64.toUInt64 &&& Int64.toUInt64 63)).toInt64))) &&& (((J 23 x2.toNatClampNeg) ||| (((J 23 x5.toNatClampNeg).toUInt64 >>> (x4.toInt64.toUInt64 &&& Int64.toUInt64 63)).toInt64)) ^^^ (-1)))] Q)) : X xs L (d + 1) 25 50 [.ref 13, .int x1, .int x2, .int x3, .int x4, .int x5, .int x6, .null, .null, .null, .null, .null] [.int sx0] (S, I, J, R, c) Q := by
  refine X_iload_n (q := 1) (show decode (mB 25) 50 = .ok (.iload_n 1, 1) by decide +kernel) (pc' := 51) rfl rfl rfl ?_
  refine X_iadd (show decode (mB 25) 51 = .ok (.iadd, 1) by decide +kernel) (pc' := 52) rfl ?_
  refine X_istore (q := 7) (ls' := [.ref 13, .int x1, .int x2, .int x3, .int x4, .int x5, .int x6, .int (sx0 + x1), .null, .null, .null, .null]) (show decode (mB 25) 52 = .ok (.istore 7, 2) by decide +kernel) (pc' := 54) rfl rfl ?_
  refine X_aload_n (q := 0) (show decode (mB 25) 54 = .ok (.aload_n 0, 1) by decide +kernel) (pc' := 55) rfl rfl rfl ?_
  refine X_getR (ci := 0) (f := 10) (q := 21) (show decode (mB 25) 55 = .ok (.getfield 35, 3) by decide +kernel) (pc' := 58) rfl (ls_13 hL) (by decide +kernel) rfl (lr_13_10 hL) ?_
  refine X_iload (q := 6) (show decode (mB 25) 58 = .ok (.iload 6, 2) by decide +kernel) (pc' := 60) rfl rfl ?_
  refine X_laload (w := J 21 x6.toNatClampNeg) (show decode (mB 25) 60 = .ok (.laload, 1) by decide +kernel) (pc' := 61) rfl (ls_21 hL) hb60 rfl ?_
  refine X_aload_n (q := 0) (show decode (mB 25) 61 = .ok (.aload_n 0, 1) by decide +kernel) (pc' := 62) rfl rfl rfl ?_
  refine X_getR (ci := 0) (f := 10) (q := 21) (show decode (mB 25) 62 = .ok (.getfield 35, 3) by decide +kernel) (pc' := 65) rfl (ls_13 hL) (by decide +kernel) rfl (lr_13_10 hL) ?_
  refine X_iload (q := 7) (show decode (mB 25) 65 = .ok (.iload 7, 2) by decide +kernel) (pc' := 67) rfl rfl ?_
  refine X_laload (w := J 21 (sx0 + x1).toNatClampNeg) (show decode (mB 25) 67 = .ok (.laload, 1) by decide +kernel) (pc' := 68) rfl (ls_21 hL) hb67 rfl ?_
  refine X_iload (q := 4) (show decode (mB 25) 68 = .ok (.iload 4, 2) by decide +kernel) (pc' := 70) rfl rfl ?_
  refine X_lushr (show decode (mB 25) 70 = .ok (.lushr, 1) by decide +kernel) (pc' := 71) rfl ?_
  refine X_lxor (show decode (mB 25) 71 = .ok (.lxor, 1) by decide +kernel) (pc' := 72) rfl ?_
  refine X_lstore (q := 8) (ls' := [.ref 13, .int x1, .int x2, .int x3, .int x4, .int x5, .int x6, .int (sx0 + x1), .long ((J 21 x6.toNatClampNeg) ^^^ (((J 21 (sx0 + x1).toNatClampNeg).toUInt64 >>> (x4.toInt64.toUInt64 &&& Int64.toUInt64 63)).toInt64)), .null, .null, .null]) (show decode (mB 25) 72 = .ok (.lstore 8, 2) by decide +kernel) (pc' := 74) rfl rfl ?_
  refine X_lload (q := 8) (show decode (mB 25) 74 = .ok (.lload 8, 2) by decide +kernel) (pc' := 76) rfl rfl ?_
  refine X_aload_n (q := 0) (show decode (mB 25) 76 = .ok (.aload_n 0, 1) by decide +kernel) (pc' := 77) rfl rfl rfl ?_
  refine X_getR (ci := 0) (f := 11) (q := 22) (show decode (mB 25) 77 = .ok (.getfield 38, 3) by decide +kernel) (pc' := 80) rfl (ls_13 hL) (by decide +kernel) rfl (lr_13_11 hL) ?_
  refine X_iload (q := 6) (show decode (mB 25) 80 = .ok (.iload 6, 2) by decide +kernel) (pc' := 82) rfl rfl ?_
  refine X_laload (w := J 22 x6.toNatClampNeg) (show decode (mB 25) 82 = .ok (.laload, 1) by decide +kernel) (pc' := 83) rfl (ls_22 hL) hb82 rfl ?_
  refine X_aload_n (q := 0) (show decode (mB 25) 83 = .ok (.aload_n 0, 1) by decide +kernel) (pc' := 84) rfl rfl rfl ?_
  refine X_getR (ci := 0) (f := 11) (q := 22) (show decode (mB 25) 84 = .ok (.getfield 38, 3) by decide +kernel) (pc' := 87) rfl (ls_13 hL) (by decide +kernel) rfl (lr_13_11 hL) ?_
  refine X_iload (q := 7) (show decode (mB 25) 87 = .ok (.iload 7, 2) by decide +kernel) (pc' := 89) rfl rfl ?_
  refine X_laload (w := J 22 (sx0 + x1).toNatClampNeg) (show decode (mB 25) 89 = .ok (.laload, 1) by decide +kernel) (pc' := 90) rfl (ls_22 hL) hb89 rfl ?_
  refine X_iload (q := 4) (show decode (mB 25) 90 = .ok (.iload 4, 2) by decide +kernel) (pc' := 92) rfl rfl ?_
  refine X_lushr (show decode (mB 25) 92 = .ok (.lushr, 1) by decide +kernel) (pc' := 93) rfl ?_
  refine X_lxor (show decode (mB 25) 93 = .ok (.lxor, 1) by decide +kernel) (pc' := 94) rfl ?_
  refine X_lor (show decode (mB 25) 94 = .ok (.lor, 1) by decide +kernel) (pc' := 95) rfl ?_
  refine X_lstore (q := 8) (ls' := [.ref 13, .int x1, .int x2, .int x3, .int x4, .int x5, .int x6, .int (sx0 + x1), .long (((J 21 x6.toNatClampNeg) ^^^ (((J 21 (sx0 + x1).toNatClampNeg).toUInt64 >>> (x4.toInt64.toUInt64 &&& Int64.toUInt64 63)).toInt64)) ||| ((J 22 x6.toNatClampNeg) ^^^ (((J 22 (sx0 + x1).toNatClampNeg).toUInt64 >>> (x4.toInt64.toUInt64 &&& Int64.toUInt64 63)).toInt64))), .null, .null, .null]) (show decode (mB 25) 95 = .ok (.lstore 8, 2) by decide +kernel) (pc' := 97) rfl rfl ?_
  refine X_aload_n (q := 0) (show decode (mB 25) 97 = .ok (.aload_n 0, 1) by decide +kernel) (pc' := 98) rfl rfl rfl ?_
  refine X_getR (ci := 0) (f := 12) (q := 23) (show decode (mB 25) 98 = .ok (.getfield 41, 3) by decide +kernel) (pc' := 101) rfl (ls_13 hL) (by decide +kernel) rfl (lr_13_12 hL) ?_
  refine X_iload_n (q := 2) (show decode (mB 25) 101 = .ok (.iload_n 2, 1) by decide +kernel) (pc' := 102) rfl rfl rfl ?_
  refine X_laload (w := J 23 x2.toNatClampNeg) (show decode (mB 25) 102 = .ok (.laload, 1) by decide +kernel) (pc' := 103) rfl (ls_23 hL) hb102 rfl ?_
  refine X_aload_n (q := 0) (show decode (mB 25) 103 = .ok (.aload_n 0, 1) by decide +kernel) (pc' := 104) rfl rfl rfl ?_
  refine X_getR (ci := 0) (f := 12) (q := 23) (show decode (mB 25) 104 = .ok (.getfield 41, 3) by decide +kernel) (pc' := 107) rfl (ls_13 hL) (by decide +kernel) rfl (lr_13_12 hL) ?_
  refine X_iload (q := 5) (show decode (mB 25) 107 = .ok (.iload 5, 2) by decide +kernel) (pc' := 109) rfl rfl ?_
  refine X_laload (w := J 23 x5.toNatClampNeg) (show decode (mB 25) 109 = .ok (.laload, 1) by decide +kernel) (pc' := 110) rfl (ls_23 hL) hb109 rfl ?_
  refine X_iload (q := 4) (show decode (mB 25) 110 = .ok (.iload 4, 2) by decide +kernel) (pc' := 112) rfl rfl ?_
  refine X_lushr (show decode (mB 25) 112 = .ok (.lushr, 1) by decide +kernel) (pc' := 113) rfl ?_
  refine X_lor (show decode (mB 25) 113 = .ok (.lor, 1) by decide +kernel) (pc' := 114) rfl ?_
  refine X_lstore (q := 10) (ls' := [.ref 13, .int x1, .int x2, .int x3, .int x4, .int x5, .int x6, .int (sx0 + x1), .long (((J 21 x6.toNatClampNeg) ^^^ (((J 21 (sx0 + x1).toNatClampNeg).toUInt64 >>> (x4.toInt64.toUInt64 &&& Int64.toUInt64 63)).toInt64)) ||| ((J 22 x6.toNatClampNeg) ^^^ (((J 22 (sx0 + x1).toNatClampNeg).toUInt64 >>> (x4.toInt64.toUInt64 &&& Int64.toUInt64 63)).toInt64))), .null, .long ((J 23 x2.toNatClampNeg) ||| (((J 23 x5.toNatClampNeg).toUInt64 >>> (x4.toInt64.toUInt64 &&& Int64.toUInt64 63)).toInt64)), .null]) (show decode (mB 25) 114 = .ok (.lstore 10, 2) by decide +kernel) (pc' := 116) rfl rfl ?_
  refine X_lload (q := 8) (show decode (mB 25) 116 = .ok (.lload 8, 2) by decide +kernel) (pc' := 118) rfl rfl ?_
  refine X_lload (q := 10) (show decode (mB 25) 118 = .ok (.lload 10, 2) by decide +kernel) (pc' := 120) rfl rfl ?_
  refine X_ldc2 (v := (-1)) (show decode (mB 25) 120 = .ok (.ldc2_w 71, 3) by decide +kernel) (pc' := 123) rfl (by decide +kernel) ?_
  refine X_lxor (show decode (mB 25) 123 = .ok (.lxor, 1) by decide +kernel) (pc' := 124) rfl ?_
  refine X_land (show decode (mB 25) 124 = .ok (.land, 1) by decide +kernel) (pc' := 125) rfl ?_
  refine X_iload_n (q := 3) (show decode (mB 25) 125 = .ok (.iload_n 3, 1) by decide +kernel) (pc' := 126) rfl rfl rfl ?_
  refine X_iload_n (q := 2) (show decode (mB 25) 126 = .ok (.iload_n 2, 1) by decide +kernel) (pc' := 127) rfl rfl rfl ?_
  exact X_callS (y := 4) (n := 2) (st := [.int x2, .int x3, .long ((((J 21 x6.toNatClampNeg) ^^^ (((J 21 (sx0 + x1).toNatClampNeg).toUInt64 >>> (x4.toInt64.toUInt64 &&& Int64.toUInt64 63)).toInt64)) ||| ((J 22 x6.toNatClampNeg) ^^^ (((J 22 (sx0 + x1).toNatClampNeg).toUInt64 >>> (x4.toInt64.toUInt64 &&& Int64.toUInt64 63)).toInt64))) &&& (((J 23 x2.toNatClampNeg) ||| (((J 23 x5.toNatClampNeg).toUInt64 >>> (x4.toInt64.toUInt64 &&& Int64.toUInt64 63)).toInt64)) ^^^ (-1)))]) (as := [.int x3, .int x2]) (rest := [.long ((((J 21 x6.toNatClampNeg) ^^^ (((J 21 (sx0 + x1).toNatClampNeg).toUInt64 >>> (x4.toInt64.toUInt64 &&& Int64.toUInt64 63)).toInt64)) ||| ((J 22 x6.toNatClampNeg) ^^^ (((J 22 (sx0 + x1).toNatClampNeg).toUInt64 >>> (x4.toInt64.toUInt64 &&& Int64.toUInt64 63)).toInt64))) &&& (((J 23 x2.toNatClampNeg) ||| (((J 23 x5.toNatClampNeg).toUInt64 >>> (x4.toInt64.toUInt64 &&& Int64.toUInt64 63)).toInt64)) ^^^ (-1)))]) (ls0 := [.int x3, .int x2]) (show decode (mB 25) 127 = .ok (.invokestatic 100, 3) by decide +kernel) (pc' := 130) rfl (by decide +kernel) (by decide +kernel) rfl rfl rfl rfl rfl rfl rfl rfl k
set_option maxRecDepth 4000 in
theorem b_X0_changedLanes_130 {xs : Nat → Int32} {L d : Nat} {S : Nat → Shp} {I : Nat → Nat → Int32} {J : Nat → Nat → Int64} {R : Nat → Nat → Nat} {c : Nat × Nat} {Q : Option (Option Value) → MH → Prop} {x1 x2 x3 x4 x5 x6 x7 : Int32} {y8 y10 sy0 sy1 : Int64} (hL : Lay S R)  (k : Q (some (some (.long ((sy0 &&& (sy1 ^^^ (-1))) &&& (J 13 4))))) (S, I, J, R, c)) : X xs L (d + 1) 25 130 [.ref 13, .int x1, .int x2, .int x3, .int x4, .int x5, .int x6, .int x7, .long y8, .null, .long y10, .null] [.long sy1, .long sy0] (S, I, J, R, c) Q := by
  refine X_ldc2 (v := (-1)) (show decode (mB 25) 130 = .ok (.ldc2_w 71, 3) by decide +kernel) (pc' := 133) rfl (by decide +kernel) ?_
  refine X_lxor (show decode (mB 25) 133 = .ok (.lxor, 1) by decide +kernel) (pc' := 134) rfl ?_
  refine X_land (show decode (mB 25) 134 = .ok (.land, 1) by decide +kernel) (pc' := 135) rfl ?_
  refine X_aload_n (q := 0) (show decode (mB 25) 135 = .ok (.aload_n 0, 1) by decide +kernel) (pc' := 136) rfl rfl rfl ?_
  refine X_getJ (ci := 0) (f := 4) (x := J 13 4) (show decode (mB 25) 136 = .ok (.getfield 73, 3) by decide +kernel) (pc' := 139) rfl (ls_13 hL) (by decide +kernel) rfl rfl ?_
  refine X_land (show decode (mB 25) 139 = .ok (.land, 1) by decide +kernel) (pc' := 140) rfl ?_
  exact X_lreturn (show decode (mB 25) 140 = .ok (.lreturn, 1) by decide +kernel) (by decide +kernel) k
