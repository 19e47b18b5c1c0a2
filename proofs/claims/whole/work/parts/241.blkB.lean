/-! ===== P1: blocks (by wip/whole/gen/blocks.py) ===== -/
set_option maxRecDepth 4000 in
theorem b_X2_read_0 {xs : Nat → Int32} {L d : Nat} {S : Nat → Shp} {I : Nat → Nat → Int32} {J : Nat → Nat → Int64} {R : Nat → Nat → Nat} {c : Nat × Nat} {Q : Option (Option Value) → MH → Prop} {r1 : Nat} (hL : Lay S R) (h_r1 : LyCi S R r1) (hn_r1_8 : r1 ≠ 8) (k : X xs L d 61 0 [.ref 8, .ref (r1 + 5)] [] (S, (u2 I r1 0 0), J, (u2 R 8 6 r1), c) (Kc xs L (d + 1) 38 24 [.ref 8, .ref r1, .null, .null] [] Q)) : X xs L (d + 1) 38 0 [.ref 8, .ref r1, .null, .null] [] (S, I, J, R, c) Q := by
  refine X_aload_n (q := 0) (show decode (mB 38) 0 = .ok (.aload_n 0, 1) by decide +kernel) (pc' := 1) rfl rfl rfl ?_
  refine X_aload_n (q := 1) (show decode (mB 38) 1 = .ok (.aload_n 1, 1) by decide +kernel) (pc' := 2) rfl rfl rfl ?_
  refine X_putR (ci := 2) (f := 6) (show decode (mB 38) 2 = .ok (.putfield 17, 3) by decide +kernel) (pc' := 5) rfl (ls_8 hL) (by decide +kernel) (by decide +kernel) rfl ?_
  refine X_aload_n (q := 0) (show decode (mB 38) 5 = .ok (.aload_n 0, 1) by decide +kernel) (pc' := 6) rfl rfl rfl ?_
  refine X_getR (ci := 2) (f := 6) (q := r1) (show decode (mB 38) 6 = .ok (.getfield 17, 3) by decide +kernel) (pc' := 9) rfl (ls_8 hL) (by decide +kernel) rfl (by simp [u2, u1]) ?_
  refine X_iconst (v := 0) (show decode (mB 38) 9 = .ok (.iconst 0, 1) by decide +kernel) (pc' := 10) rfl rfl ?_
  refine X_putI (ci := 1) (f := 0) (show decode (mB 38) 10 = .ok (.putfield 21, 3) by decide +kernel) (pc' := 13) rfl h_r1.s0 (by decide +kernel) (by decide +kernel) rfl ?_
  refine X_aload_n (q := 0) (show decode (mB 38) 13 = .ok (.aload_n 0, 1) by decide +kernel) (pc' := 14) rfl rfl rfl ?_
  refine X_aload_n (q := 0) (show decode (mB 38) 14 = .ok (.aload_n 0, 1) by decide +kernel) (pc' := 15) rfl rfl rfl ?_
  refine X_getR (ci := 2) (f := 6) (q := r1) (show decode (mB 38) 15 = .ok (.getfield 17, 3) by decide +kernel) (pc' := 18) rfl (ls_8 hL) (by decide +kernel) rfl (by simp [u2, u1]) ?_
  refine X_getR (ci := 1) (f := 5) (q := (r1 + 5)) (show decode (mB 38) 18 = .ok (.getfield 25, 3) by decide +kernel) (pc' := 21) rfl h_r1.s0 (by decide +kernel) rfl (by simp [u2, u1, hn_r1_8]; exact h_r1.r0_5) ?_
  exact X_callV (y := 61) (n := 1) (st := [.ref (r1 + 5), .ref 8]) (as := [.ref 8, .ref (r1 + 5)]) (rest := []) (ls0 := [.ref 8, .ref (r1 + 5)]) (ci := 2) (show decode (mB 38) 21 = .ok (.invokevirtual 29, 3) by decide +kernel) (pc' := 24) rfl (by decide +kernel) (by decide +kernel) rfl (ls_8 hL) (by decide +kernel) rfl rfl rfl rfl rfl k
set_option maxRecDepth 4000 in
theorem b_X2_read_24 {xs : Nat → Int32} {L d : Nat} {S : Nat → Shp} {I : Nat → Nat → Int32} {J : Nat → Nat → Int64} {R : Nat → Nat → Nat} {c : Nat × Nat} {Q : Option (Option Value) → MH → Prop} {r1 : Nat}  (k : X xs L (d + 1) 38 26 [.ref 8, .ref r1, .int 0, .null] [] (S, I, J, R, c) Q) : X xs L (d + 1) 38 24 [.ref 8, .ref r1, .null, .null] [] (S, I, J, R, c) Q := by
  refine X_iconst (v := 0) (show decode (mB 38) 24 = .ok (.iconst 0, 1) by decide +kernel) (pc' := 25) rfl rfl ?_
  refine X_istore_n (q := 2) (ls' := [.ref 8, .ref r1, .int 0, .null]) (show decode (mB 38) 25 = .ok (.istore_n 2, 1) by decide +kernel) (pc' := 26) rfl rfl rfl ?_
  exact k
set_option maxRecDepth 4000 in
theorem b_X2_read_26 {xs : Nat → Int32} {L d : Nat} {S : Nat → Shp} {I : Nat → Nat → Int32} {J : Nat → Nat → Int64} {R : Nat → Nat → Nat} {c : Nat × Nat} {Q : Option (Option Value) → MH → Prop} {r1 : Nat} {x2 : Int32}  (kt : 2000 ≤ x2 → X xs L (d + 1) 38 64 [.ref 8, .ref r1, .int x2, .null] [] (S, I, J, R, c) Q) (kf : ¬ (2000 ≤ x2) → X xs L (d + 1) 38 33 [.ref 8, .ref r1, .int x2, .null] [] (S, I, J, R, c) Q) : X xs L (d + 1) 38 26 [.ref 8, .ref r1, .int x2, .null] [] (S, I, J, R, c) Q := by
  refine X_iload_n (q := 2) (show decode (mB 38) 26 = .ok (.iload_n 2, 1) by decide +kernel) (pc' := 27) rfl rfl rfl ?_
  refine X_sipush (v := 2000) (show decode (mB 38) 27 = .ok (.sipush 2000, 3) by decide +kernel) (pc' := 30) rfl (by decide +kernel) ?_
  exact X_icmp_ge (tgt := 64) (show decode (mB 38) 30 = .ok (.if_icmp .ge 34, 3) by decide +kernel) rfl (pc' := 33) rfl kt kf
set_option maxRecDepth 4000 in
theorem b_X2_read_33 {xs : Nat → Int32} {L d : Nat} {S : Nat → Shp} {I : Nat → Nat → Int32} {J : Nat → Nat → Int64} {R : Nat → Nat → Nat} {c : Nat × Nat} {Q : Option (Option Value) → MH → Prop} {r1 : Nat} {x2 : Int32} (hL : Lay S R)  (k : X xs L d 93 0 [.ref 4] [] (S, I, J, R, c) (Kc xs L (d + 1) 38 40 [.ref 8, .ref r1, .int x2, .null] [] Q)) : X xs L (d + 1) 38 33 [.ref 8, .ref r1, .int x2, .null] [] (S, I, J, R, c) Q := by
  refine X_aload_n (q := 0) (show decode (mB 38) 33 = .ok (.aload_n 0, 1) by decide +kernel) (pc' := 34) rfl rfl rfl ?_
  refine X_getR (ci := 2) (f := 0) (q := 4) (show decode (mB 38) 34 = .ok (.getfield 35, 3) by decide +kernel) (pc' := 37) rfl (ls_8 hL) (by decide +kernel) rfl (lr_8_0 hL) ?_
  exact X_callV (y := 93) (n := 0) (st := [.ref 4]) (as := [.ref 4]) (rest := []) (ls0 := [.ref 4]) (ci := 8) (show decode (mB 38) 37 = .ok (.invokevirtual 39, 3) by decide +kernel) (pc' := 40) rfl (by decide +kernel) (by decide +kernel) rfl (ls_4 hL) (by decide +kernel) rfl rfl rfl rfl rfl k
set_option maxRecDepth 4000 in
theorem b_X2_read_40 {xs : Nat → Int32} {L d : Nat} {S : Nat → Shp} {I : Nat → Nat → Int32} {J : Nat → Nat → Int64} {R : Nat → Nat → Nat} {c : Nat × Nat} {Q : Option (Option Value) → MH → Prop} {r1 : Nat} {x2 sx0 : Int32}  (kt : sx0 = 0 → X xs L (d + 1) 38 64 [.ref 8, .ref r1, .int x2, .null] [] (S, I, J, R, c) Q) (kf : ¬ (sx0 = 0) → X xs L (d + 1) 38 43 [.ref 8, .ref r1, .int x2, .null] [] (S, I, J, R, c) Q) : X xs L (d + 1) 38 40 [.ref 8, .ref r1, .int x2, .null] [.int sx0] (S, I, J, R, c) Q := by
  exact X_if_eq (tgt := 64) (show decode (mB 38) 40 = .ok (.ifCond .eq 24, 3) by decide +kernel) rfl (pc' := 43) rfl kt kf
set_option maxRecDepth 4000 in
theorem b_X2_read_43 {xs : Nat → Int32} {L d : Nat} {S : Nat → Shp} {I : Nat → Nat → Int32} {J : Nat → Nat → Int64} {R : Nat → Nat → Nat} {c : Nat × Nat} {Q : Option (Option Value) → MH → Prop} {r1 : Nat} {x2 : Int32} (hL : Lay S R)  (k : X xs L d 39 0 [.ref 8] [] (S, I, J, R, c) (Kc xs L (d + 1) 38 47 [.ref 8, .ref r1, .int x2, .null] [] Q)) : X xs L (d + 1) 38 43 [.ref 8, .ref r1, .int x2, .null] [] (S, I, J, R, c) Q := by
  refine X_aload_n (q := 0) (show decode (mB 38) 43 = .ok (.aload_n 0, 1) by decide +kernel) (pc' := 44) rfl rfl rfl ?_
  exact X_callV (y := 39) (n := 0) (st := [.ref 8]) (as := [.ref 8]) (rest := []) (ls0 := [.ref 8]) (ci := 2) (show decode (mB 38) 44 = .ok (.invokevirtual 45, 3) by decide +kernel) (pc' := 47) rfl (by decide +kernel) (by decide +kernel) rfl (ls_8 hL) (by decide +kernel) rfl rfl rfl rfl rfl k
set_option maxRecDepth 4000 in
theorem b_X2_read_47 {xs : Nat → Int32} {L d : Nat} {S : Nat → Shp} {I : Nat → Nat → Int32} {J : Nat → Nat → Int64} {R : Nat → Nat → Nat} {c : Nat × Nat} {Q : Option (Option Value) → MH → Prop} {r1 : Nat} {x2 sx0 : Int32}  (kt : ¬ sx0 = 0 → X xs L (d + 1) 38 58 [.ref 8, .ref r1, .int x2, .null] [] (S, I, J, R, c) Q) (kf : ¬ (¬ sx0 = 0) → X xs L (d + 1) 38 50 [.ref 8, .ref r1, .int x2, .null] [] (S, I, J, R, c) Q) : X xs L (d + 1) 38 47 [.ref 8, .ref r1, .int x2, .null] [.int sx0] (S, I, J, R, c) Q := by
  exact X_if_ne (tgt := 58) (show decode (mB 38) 47 = .ok (.ifCond .ne 11, 3) by decide +kernel) rfl (pc' := 50) rfl kt kf
set_option maxRecDepth 4000 in
theorem b_X2_read_50 {xs : Nat → Int32} {L d : Nat} {S : Nat → Shp} {I : Nat → Nat → Int32} {J : Nat → Nat → Int64} {R : Nat → Nat → Nat} {c : Nat × Nat} {Q : Option (Option Value) → MH → Prop} {r1 : Nat} {x2 : Int32} (hL : Lay S R)  (k : X xs L d 94 0 [.ref 4] [] (S, I, J, R, c) (Kc xs L (d + 1) 38 57 [.ref 8, .ref r1, .int x2, .null] [] Q)) : X xs L (d + 1) 38 50 [.ref 8, .ref r1, .int x2, .null] [] (S, I, J, R, c) Q := by
  refine X_aload_n (q := 0) (show decode (mB 38) 50 = .ok (.aload_n 0, 1) by decide +kernel) (pc' := 51) rfl rfl rfl ?_
  refine X_getR (ci := 2) (f := 0) (q := 4) (show decode (mB 38) 51 = .ok (.getfield 35, 3) by decide +kernel) (pc' := 54) rfl (ls_8 hL) (by decide +kernel) rfl (lr_8_0 hL) ?_
  exact X_callV (y := 94) (n := 0) (st := [.ref 4]) (as := [.ref 4]) (rest := []) (ls0 := [.ref 4]) (ci := 8) (show decode (mB 38) 54 = .ok (.invokevirtual 49, 3) by decide +kernel) (pc' := 57) rfl (by decide +kernel) (by decide +kernel) rfl (ls_4 hL) (by decide +kernel) rfl rfl rfl rfl rfl k
set_option maxRecDepth 4000 in
theorem b_X2_read_57 {xs : Nat → Int32} {L d : Nat} {S : Nat → Shp} {I : Nat → Nat → Int32} {J : Nat → Nat → Int64} {R : Nat → Nat → Nat} {c : Nat × Nat} {Q : Option (Option Value) → MH → Prop} {r1 : Nat} {x2 sx0 : Int32}  (k : Q (some (some (.int sx0))) (S, I, J, R, c)) : X xs L (d + 1) 38 57 [.ref 8, .ref r1, .int x2, .null] [.int sx0] (S, I, J, R, c) Q := by
  exact X_ireturn (ty := .int) (show decode (mB 38) 57 = .ok (.ireturn, 1) by decide +kernel) (by decide +kernel) rfl k
set_option maxRecDepth 4000 in
theorem b_X2_read_58 {xs : Nat → Int32} {L d : Nat} {S : Nat → Shp} {I : Nat → Nat → Int32} {J : Nat → Nat → Int64} {R : Nat → Nat → Nat} {c : Nat × Nat} {Q : Option (Option Value) → MH → Prop} {r1 : Nat} {x2 : Int32}  (k : X xs L (d + 1) 38 26 [.ref 8, .ref r1, .int (x2 + 1), .null] [] (S, I, J, R, c) Q) : X xs L (d + 1) 38 58 [.ref 8, .ref r1, .int x2, .null] [] (S, I, J, R, c) Q := by
  refine X_iinc (q := 2) (v := x2 + 1) (ls' := [.ref 8, .ref r1, .int (x2 + 1), .null]) (show decode (mB 38) 58 = .ok (.iinc 2 1, 3) by decide +kernel) (pc' := 61) rfl rfl rfl rfl ?_
  refine X_goto (tgt := 26) (show decode (mB 38) 61 = .ok (.goto (-35), 3) by decide +kernel) rfl ?_
  exact k
set_option maxRecDepth 4000 in
theorem b_X2_read_64 {xs : Nat → Int32} {L d : Nat} {S : Nat → Shp} {I : Nat → Nat → Int32} {J : Nat → Nat → Int64} {R : Nat → Nat → Nat} {c : Nat × Nat} {Q : Option (Option Value) → MH → Prop} {r1 : Nat} {x2 : Int32} (hL : Lay S R)  (k : X xs L d 44 0 [.ref 8, .null, .null, .null] [] (S, I, J, R, c) (Kc xs L (d + 1) 38 68 [.ref 8, .ref r1, .int x2, .null] [] Q)) : X xs L (d + 1) 38 64 [.ref 8, .ref r1, .int x2, .null] [] (S, I, J, R, c) Q := by
  refine X_aload_n (q := 0) (show decode (mB 38) 64 = .ok (.aload_n 0, 1) by decide +kernel) (pc' := 65) rfl rfl rfl ?_
  exact X_callV (y := 44) (n := 0) (st := [.ref 8]) (as := [.ref 8]) (rest := []) (ls0 := [.ref 8, .null, .null, .null]) (ci := 2) (show decode (mB 38) 65 = .ok (.invokevirtual 52, 3) by decide +kernel) (pc' := 68) rfl (by decide +kernel) (by decide +kernel) rfl (ls_8 hL) (by decide +kernel) rfl rfl rfl rfl rfl k
set_option maxRecDepth 4000 in
theorem b_X2_read_68 {xs : Nat → Int32} {L d : Nat} {S : Nat → Shp} {I : Nat → Nat → Int32} {J : Nat → Nat → Int64} {R : Nat → Nat → Nat} {c : Nat × Nat} {Q : Option (Option Value) → MH → Prop} {r1 : Nat} {x2 sx0 : Int32}  (kt : sx0 = (-2) → X xs L (d + 1) 38 77 [.ref 8, .ref r1, .int sx0, .null] [] (S, I, J, R, c) Q) (kf : ¬ (sx0 = (-2)) → X xs L (d + 1) 38 75 [.ref 8, .ref r1, .int sx0, .null] [] (S, I, J, R, c) Q) : X xs L (d + 1) 38 68 [.ref 8, .ref r1, .int x2, .null] [.int sx0] (S, I, J, R, c) Q := by
  refine X_istore_n (q := 2) (ls' := [.ref 8, .ref r1, .int sx0, .null]) (show decode (mB 38) 68 = .ok (.istore_n 2, 1) by decide +kernel) (pc' := 69) rfl rfl rfl ?_
  refine X_iload_n (q := 2) (show decode (mB 38) 69 = .ok (.iload_n 2, 1) by decide +kernel) (pc' := 70) rfl rfl rfl ?_
  refine X_bipush (v := (-2)) (show decode (mB 38) 70 = .ok (.bipush (-2), 2) by decide +kernel) (pc' := 72) rfl (by decide +kernel) ?_
  exact X_icmp_eq (tgt := 77) (show decode (mB 38) 72 = .ok (.if_icmp .eq 5, 3) by decide +kernel) rfl (pc' := 75) rfl kt kf
set_option maxRecDepth 4000 in
theorem b_X2_read_75 {xs : Nat → Int32} {L d : Nat} {S : Nat → Shp} {I : Nat → Nat → Int32} {J : Nat → Nat → Int64} {R : Nat → Nat → Nat} {c : Nat × Nat} {Q : Option (Option Value) → MH → Prop} {r1 : Nat} {x2 : Int32}  (k : Q (some (some (.int x2))) (S, I, J, R, c)) : X xs L (d + 1) 38 75 [.ref 8, .ref r1, .int x2, .null] [] (S, I, J, R, c) Q := by
  refine X_iload_n (q := 2) (show decode (mB 38) 75 = .ok (.iload_n 2, 1) by decide +kernel) (pc' := 76) rfl rfl rfl ?_
  exact X_ireturn (ty := .int) (show decode (mB 38) 76 = .ok (.ireturn, 1) by decide +kernel) (by decide +kernel) rfl k
set_option maxRecDepth 4000 in
theorem b_X2_read_77 {xs : Nat → Int32} {L d : Nat} {S : Nat → Shp} {I : Nat → Nat → Int32} {J : Nat → Nat → Int64} {R : Nat → Nat → Nat} {c : Nat × Nat} {Q : Option (Option Value) → MH → Prop} {r1 q_8_6 : Nat} {x2 : Int32} (hL : Lay S R) (hq_8_6 : R 8 6 = q_8_6) (h_q_8_6 : LyCi S R q_8_6) (k : X xs L d 31 0 [.ref q_8_6, .null, .null, .null] [] (S, I, J, R, c) (Kc xs L (d + 1) 38 84 [.ref 8, .ref r1, .int x2, .null] [] Q)) : X xs L (d + 1) 38 77 [.ref 8, .ref r1, .int x2, .null] [] (S, I, J, R, c) Q := by
  refine X_aload_n (q := 0) (show decode (mB 38) 77 = .ok (.aload_n 0, 1) by decide +kernel) (pc' := 78) rfl rfl rfl ?_
  refine X_getR (ci := 2) (f := 6) (q := q_8_6) (show decode (mB 38) 78 = .ok (.getfield 17, 3) by decide +kernel) (pc' := 81) rfl (ls_8 hL) (by decide +kernel) rfl hq_8_6 ?_
  exact X_callV (y := 31) (n := 0) (st := [.ref q_8_6]) (as := [.ref q_8_6]) (rest := []) (ls0 := [.ref q_8_6, .null, .null, .null]) (ci := 1) (show decode (mB 38) 81 = .ok (.invokevirtual 55, 3) by decide +kernel) (pc' := 84) rfl (by decide +kernel) (by decide +kernel) rfl h_q_8_6.s0 (by decide +kernel) rfl rfl rfl rfl rfl k
set_option maxRecDepth 4000 in
theorem b_X2_read_84 {xs : Nat → Int32} {L d : Nat} {S : Nat → Shp} {I : Nat → Nat → Int32} {J : Nat → Nat → Int64} {R : Nat → Nat → Nat} {c : Nat × Nat} {Q : Option (Option Value) → MH → Prop} {r1 q_8_6 : Nat} {x2 : Int32} (hL : Lay S R) (hq_8_6 : R 8 6 = q_8_6) (h_q_8_6 : LyCi S R q_8_6) (k : X xs L d 34 0 [.ref q_8_6, .null] [] (S, I, J, R, c) (Kc xs L (d + 1) 38 91 [.ref 8, .ref r1, .int x2, .null] [] Q)) : X xs L (d + 1) 38 84 [.ref 8, .ref r1, .int x2, .null] [] (S, I, J, R, c) Q := by
  refine X_aload_n (q := 0) (show decode (mB 38) 84 = .ok (.aload_n 0, 1) by decide +kernel) (pc' := 85) rfl rfl rfl ?_
  refine X_getR (ci := 2) (f := 6) (q := q_8_6) (show decode (mB 38) 85 = .ok (.getfield 17, 3) by decide +kernel) (pc' := 88) rfl (ls_8 hL) (by decide +kernel) rfl hq_8_6 ?_
  exact X_callV (y := 34) (n := 0) (st := [.ref q_8_6]) (as := [.ref q_8_6]) (rest := []) (ls0 := [.ref q_8_6, .null]) (ci := 1) (show decode (mB 38) 88 = .ok (.invokevirtual 59, 3) by decide +kernel) (pc' := 91) rfl (by decide +kernel) (by decide +kernel) rfl h_q_8_6.s0 (by decide +kernel) rfl rfl rfl rfl rfl k
set_option maxRecDepth 4000 in
theorem b_X2_read_91 {xs : Nat → Int32} {L d : Nat} {S : Nat → Shp} {I : Nat → Nat → Int32} {J : Nat → Nat → Int64} {R : Nat → Nat → Nat} {c : Nat × Nat} {Q : Option (Option Value) → MH → Prop} {r1 : Nat} {x2 sx0 : Int32}  (kt : ¬ sx0 = (-2) → X xs L (d + 1) 38 103 [.ref 8, .ref r1, .int x2, .int sx0] [] (S, I, J, R, c) Q) (kf : ¬ (¬ sx0 = (-2)) → X xs L (d + 1) 38 98 [.ref 8, .ref r1, .int x2, .int sx0] [] (S, I, J, R, c) Q) : X xs L (d + 1) 38 91 [.ref 8, .ref r1, .int x2, .null] [.int sx0] (S, I, J, R, c) Q := by
  refine X_istore_n (q := 3) (ls' := [.ref 8, .ref r1, .int x2, .int sx0]) (show decode (mB 38) 91 = .ok (.istore_n 3, 1) by decide +kernel) (pc' := 92) rfl rfl rfl ?_
  refine X_iload_n (q := 3) (show decode (mB 38) 92 = .ok (.iload_n 3, 1) by decide +kernel) (pc' := 93) rfl rfl rfl ?_
  refine X_bipush (v := (-2)) (show decode (mB 38) 93 = .ok (.bipush (-2), 2) by decide +kernel) (pc' := 95) rfl (by decide +kernel) ?_
  exact X_icmp_ne (tgt := 103) (show decode (mB 38) 95 = .ok (.if_icmp .ne 8, 3) by decide +kernel) rfl (pc' := 98) rfl kt kf
set_option maxRecDepth 4000 in
theorem b_X2_read_98 {xs : Nat → Int32} {L d : Nat} {S : Nat → Shp} {I : Nat → Nat → Int32} {J : Nat → Nat → Int64} {R : Nat → Nat → Nat} {c : Nat × Nat} {Q : Option (Option Value) → MH → Prop} {r1 : Nat} {x2 x3 : Int32}  (k : X xs L (d + 1) 38 109 [.ref 8, .ref r1, .int x2, .int x3] [.int (-2)] (S, I, J, R, c) Q) : X xs L (d + 1) 38 98 [.ref 8, .ref r1, .int x2, .int x3] [] (S, I, J, R, c) Q := by
  refine X_bipush (v := (-2)) (show decode (mB 38) 98 = .ok (.bipush (-2), 2) by decide +kernel) (pc' := 100) rfl (by decide +kernel) ?_
  refine X_goto (tgt := 109) (show decode (mB 38) 100 = .ok (.goto 9, 3) by decide +kernel) rfl ?_
  exact k
set_option maxRecDepth 4000 in
theorem b_X2_read_103 {xs : Nat → Int32} {L d : Nat} {S : Nat → Shp} {I : Nat → Nat → Int32} {J : Nat → Nat → Int64} {R : Nat → Nat → Nat} {c : Nat × Nat} {Q : Option (Option Value) → MH → Prop} {r1 : Nat} {x2 x3 : Int32} (hL : Lay S R) (hb108 : inb x3 40 = true) (k : X xs L (d + 1) 38 109 [.ref 8, .ref r1, .int x2, .int x3] [.int (I 10 x3.toNatClampNeg)] (S, I, J, R, c) Q) : X xs L (d + 1) 38 103 [.ref 8, .ref r1, .int x2, .int x3] [] (S, I, J, R, c) Q := by
  refine X_aload_n (q := 0) (show decode (mB 38) 103 = .ok (.aload_n 0, 1) by decide +kernel) (pc' := 104) rfl rfl rfl ?_
  refine X_getR (ci := 2) (f := 7) (q := 10) (show decode (mB 38) 104 = .ok (.getfield 11, 3) by decide +kernel) (pc' := 107) rfl (ls_8 hL) (by decide +kernel) rfl (lr_8_7 hL) ?_
  refine X_iload_n (q := 3) (show decode (mB 38) 107 = .ok (.iload_n 3, 1) by decide +kernel) (pc' := 108) rfl rfl rfl ?_
  refine X_iaload (w := I 10 x3.toNatClampNeg) (show decode (mB 38) 108 = .ok (.iaload, 1) by decide +kernel) (pc' := 109) rfl (ls_10 hL) hb108 rfl ?_
  exact k
set_option maxRecDepth 4000 in
theorem b_X2_read_109 {xs : Nat → Int32} {L d : Nat} {S : Nat → Shp} {I : Nat → Nat → Int32} {J : Nat → Nat → Int64} {R : Nat → Nat → Nat} {c : Nat × Nat} {Q : Option (Option Value) → MH → Prop} {r1 : Nat} {x2 x3 sx0 : Int32}  (k : Q (some (some (.int sx0))) (S, I, J, R, c)) : X xs L (d + 1) 38 109 [.ref 8, .ref r1, .int x2, .int x3] [.int sx0] (S, I, J, R, c) Q := by
  exact X_ireturn (ty := .int) (show decode (mB 38) 109 = .ok (.ireturn, 1) by decide +kernel) (by decide +kernel) rfl k
set_option maxRecDepth 4000 in
theorem b_X2_takeItem_0 {xs : Nat → Int32} {L d : Nat} {S : Nat → Shp} {I : Nat → Nat → Int32} {J : Nat → Nat → Int64} {R : Nat → Nat → Nat} {c : Nat × Nat} {Q : Option (Option Value) → MH → Prop}  (hL : Lay S R)  (k : X xs L d 63 0 [.ref 8, .long 452824429940, .null] [] (S, I, J, R, c) (Kc xs L (d + 1) 39 7 [.ref 8] [] Q)) : X xs L (d + 1) 39 0 [.ref 8] [] (S, I, J, R, c) Q := by
  refine X_aload_n (q := 0) (show decode (mB 39) 0 = .ok (.aload_n 0, 1) by decide +kernel) (pc' := 1) rfl rfl rfl ?_
  refine X_ldc2 (v := 452824429940) (show decode (mB 39) 1 = .ok (.ldc2_w 62, 3) by decide +kernel) (pc' := 4) rfl (by decide +kernel) ?_
  exact X_callV (y := 63) (n := 1) (st := [.long 452824429940, .ref 8]) (as := [.ref 8, .long 452824429940]) (rest := []) (ls0 := [.ref 8, .long 452824429940, .null]) (ci := 2) (show decode (mB 39) 4 = .ok (.invokevirtual 64, 3) by decide +kernel) (pc' := 7) rfl (by decide +kernel) (by decide +kernel) rfl (ls_8 hL) (by decide +kernel) rfl rfl rfl rfl rfl k
set_option maxRecDepth 4000 in
theorem b_X2_takeItem_7 {xs : Nat → Int32} {L d : Nat} {S : Nat → Shp} {I : Nat → Nat → Int32} {J : Nat → Nat → Int64} {R : Nat → Nat → Nat} {c : Nat × Nat} {Q : Option (Option Value) → MH → Prop} {sx0 : Int32}  (kt : sx0 = 0 → X xs L (d + 1) 39 15 [.ref 8] [] (S, I, J, R, c) Q) (kf : ¬ (sx0 = 0) → X xs L (d + 1) 39 10 [.ref 8] [] (S, I, J, R, c) Q) : X xs L (d + 1) 39 7 [.ref 8] [.int sx0] (S, I, J, R, c) Q := by
  exact X_if_eq (tgt := 15) (show decode (mB 39) 7 = .ok (.ifCond .eq 8, 3) by decide +kernel) rfl (pc' := 10) rfl kt kf
set_option maxRecDepth 4000 in
theorem b_X2_takeItem_10 {xs : Nat → Int32} {L d : Nat} {S : Nat → Shp} {I : Nat → Nat → Int32} {J : Nat → Nat → Int64} {R : Nat → Nat → Nat} {c : Nat × Nat} {Q : Option (Option Value) → MH → Prop}  (hL : Lay S R)  (k : X xs L d 40 0 [.ref 8, .null, .null] [] (S, I, J, R, c) (Kc xs L (d + 1) 39 14 [.ref 8] [] Q)) : X xs L (d + 1) 39 10 [.ref 8] [] (S, I, J, R, c) Q := by
  refine X_aload_n (q := 0) (show decode (mB 39) 10 = .ok (.aload_n 0, 1) by decide +kernel) (pc' := 11) rfl rfl rfl ?_
  exact X_callV (y := 40) (n := 0) (st := [.ref 8]) (as := [.ref 8]) (rest := []) (ls0 := [.ref 8, .null, .null]) (ci := 2) (show decode (mB 39) 11 = .ok (.invokevirtual 68, 3) by decide +kernel) (pc' := 14) rfl (by decide +kernel) (by decide +kernel) rfl (ls_8 hL) (by decide +kernel) rfl rfl rfl rfl rfl k
set_option maxRecDepth 4000 in
theorem b_X2_takeItem_14 {xs : Nat → Int32} {L d : Nat} {S : Nat → Shp} {I : Nat → Nat → Int32} {J : Nat → Nat → Int64} {R : Nat → Nat → Nat} {c : Nat × Nat} {Q : Option (Option Value) → MH → Prop} {sx0 : Int32} (hz14 : sx0 = 0 ∨ sx0 = 1) (k : Q (some (some (.int sx0))) (S, I, J, R, c)) : X xs L (d + 1) 39 14 [.ref 8] [.int sx0] (S, I, J, R, c) Q := by
  exact X_ireturn (ty := .boolean) (show decode (mB 39) 14 = .ok (.ireturn, 1) by decide +kernel) (by decide +kernel) (nz hz14) k
set_option maxRecDepth 4000 in
theorem b_X2_takeItem_15 {xs : Nat → Int32} {L d : Nat} {S : Nat → Shp} {I : Nat → Nat → Int32} {J : Nat → Nat → Int64} {R : Nat → Nat → Nat} {c : Nat × Nat} {Q : Option (Option Value) → MH → Prop}  (hL : Lay S R)  (k : X xs L d 63 0 [.ref 8, .long 2003399269, .null] [] (S, I, J, R, c) (Kc xs L (d + 1) 39 22 [.ref 8] [] Q)) : X xs L (d + 1) 39 15 [.ref 8] [] (S, I, J, R, c) Q := by
  refine X_aload_n (q := 0) (show decode (mB 39) 15 = .ok (.aload_n 0, 1) by decide +kernel) (pc' := 16) rfl rfl rfl ?_
  refine X_ldc2 (v := 2003399269) (show decode (mB 39) 16 = .ok (.ldc2_w 71, 3) by decide +kernel) (pc' := 19) rfl (by decide +kernel) ?_
  exact X_callV (y := 63) (n := 1) (st := [.long 2003399269, .ref 8]) (as := [.ref 8, .long 2003399269]) (rest := []) (ls0 := [.ref 8, .long 2003399269, .null]) (ci := 2) (show decode (mB 39) 19 = .ok (.invokevirtual 64, 3) by decide +kernel) (pc' := 22) rfl (by decide +kernel) (by decide +kernel) rfl (ls_8 hL) (by decide +kernel) rfl rfl rfl rfl rfl k
set_option maxRecDepth 4000 in
theorem b_X2_takeItem_22 {xs : Nat → Int32} {L d : Nat} {S : Nat → Shp} {I : Nat → Nat → Int32} {J : Nat → Nat → Int64} {R : Nat → Nat → Nat} {c : Nat × Nat} {Q : Option (Option Value) → MH → Prop} {sx0 : Int32}  (kt : sx0 = 0 → X xs L (d + 1) 39 31 [.ref 8] [] (S, I, J, R, c) Q) (kf : ¬ (sx0 = 0) → X xs L (d + 1) 39 25 [.ref 8] [] (S, I, J, R, c) Q) : X xs L (d + 1) 39 22 [.ref 8] [.int sx0] (S, I, J, R, c) Q := by
  exact X_if_eq (tgt := 31) (show decode (mB 39) 22 = .ok (.ifCond .eq 9, 3) by decide +kernel) rfl (pc' := 25) rfl kt kf
set_option maxRecDepth 4000 in
theorem b_X2_takeItem_25 {xs : Nat → Int32} {L d : Nat} {S : Nat → Shp} {I : Nat → Nat → Int32} {J : Nat → Nat → Int64} {R : Nat → Nat → Nat} {c : Nat × Nat} {Q : Option (Option Value) → MH → Prop}  (hL : Lay S R)  (k : X xs L d 41 0 [.ref 8, .int 1, .null] [] (S, I, J, R, c) (Kc xs L (d + 1) 39 30 [.ref 8] [] Q)) : X xs L (d + 1) 39 25 [.ref 8] [] (S, I, J, R, c) Q := by
  refine X_aload_n (q := 0) (show decode (mB 39) 25 = .ok (.aload_n 0, 1) by decide +kernel) (pc' := 26) rfl rfl rfl ?_
  refine X_iconst (v := 1) (show decode (mB 39) 26 = .ok (.iconst 1, 1) by decide +kernel) (pc' := 27) rfl rfl ?_
  exact X_callV (y := 41) (n := 1) (st := [.int 1, .ref 8]) (as := [.ref 8, .int 1]) (rest := []) (ls0 := [.ref 8, .int 1, .null]) (ci := 2) (show decode (mB 39) 27 = .ok (.invokevirtual 73, 3) by decide +kernel) (pc' := 30) rfl (by decide +kernel) (by decide +kernel) rfl (ls_8 hL) (by decide +kernel) rfl rfl rfl rfl rfl k
set_option maxRecDepth 4000 in
theorem b_X2_takeItem_30 {xs : Nat → Int32} {L d : Nat} {S : Nat → Shp} {I : Nat → Nat → Int32} {J : Nat → Nat → Int64} {R : Nat → Nat → Nat} {c : Nat × Nat} {Q : Option (Option Value) → MH → Prop} {sx0 : Int32} (hz30 : sx0 = 0 ∨ sx0 = 1) (k : Q (some (some (.int sx0))) (S, I, J, R, c)) : X xs L (d + 1) 39 30 [.ref 8] [.int sx0] (S, I, J, R, c) Q := by
  exact X_ireturn (ty := .boolean) (show decode (mB 39) 30 = .ok (.ireturn, 1) by decide +kernel) (by decide +kernel) (nz hz30) k
set_option maxRecDepth 4000 in
theorem b_X2_takeItem_31 {xs : Nat → Int32} {L d : Nat} {S : Nat → Shp} {I : Nat → Nat → Int32} {J : Nat → Nat → Int64} {R : Nat → Nat → Nat} {c : Nat × Nat} {Q : Option (Option Value) → MH → Prop}  (hL : Lay S R)  (k : X xs L d 63 0 [.ref 8, .long 465491485544, .null] [] (S, I, J, R, c) (Kc xs L (d + 1) 39 38 [.ref 8] [] Q)) : X xs L (d + 1) 39 31 [.ref 8] [] (S, I, J, R, c) Q := by
  refine X_aload_n (q := 0) (show decode (mB 39) 31 = .ok (.aload_n 0, 1) by decide +kernel) (pc' := 32) rfl rfl rfl ?_
  refine X_ldc2 (v := 465491485544) (show decode (mB 39) 32 = .ok (.ldc2_w 77, 3) by decide +kernel) (pc' := 35) rfl (by decide +kernel) ?_
  exact X_callV (y := 63) (n := 1) (st := [.long 465491485544, .ref 8]) (as := [.ref 8, .long 465491485544]) (rest := []) (ls0 := [.ref 8, .long 465491485544, .null]) (ci := 2) (show decode (mB 39) 35 = .ok (.invokevirtual 64, 3) by decide +kernel) (pc' := 38) rfl (by decide +kernel) (by decide +kernel) rfl (ls_8 hL) (by decide +kernel) rfl rfl rfl rfl rfl k
set_option maxRecDepth 4000 in
theorem b_X2_takeItem_38 {xs : Nat → Int32} {L d : Nat} {S : Nat → Shp} {I : Nat → Nat → Int32} {J : Nat → Nat → Int64} {R : Nat → Nat → Nat} {c : Nat × Nat} {Q : Option (Option Value) → MH → Prop} {sx0 : Int32}  (kt : sx0 = 0 → X xs L (d + 1) 39 53 [.ref 8] [] (S, I, J, R, c) Q) (kf : ¬ (sx0 = 0) → X xs L (d + 1) 39 41 [.ref 8] [] (S, I, J, R, c) Q) : X xs L (d + 1) 39 38 [.ref 8] [.int sx0] (S, I, J, R, c) Q := by
  exact X_if_eq (tgt := 53) (show decode (mB 39) 38 = .ok (.ifCond .eq 15, 3) by decide +kernel) rfl (pc' := 41) rfl kt kf
set_option maxRecDepth 4000 in
theorem b_X2_takeItem_41 {xs : Nat → Int32} {L d : Nat} {S : Nat → Shp} {I : Nat → Nat → Int32} {J : Nat → Nat → Int64} {R : Nat → Nat → Nat} {c : Nat × Nat} {Q : Option (Option Value) → MH → Prop}  (hL : Lay S R)  (k : X xs L d 41 0 [.ref 8, .int 2, .null] [] (S, I, J, R, c) (Kc xs L (d + 1) 39 46 [.ref 8] [] Q)) : X xs L (d + 1) 39 41 [.ref 8] [] (S, I, J, R, c) Q := by
  refine X_aload_n (q := 0) (show decode (mB 39) 41 = .ok (.aload_n 0, 1) by decide +kernel) (pc' := 42) rfl rfl rfl ?_
  refine X_iconst (v := 2) (show decode (mB 39) 42 = .ok (.iconst 2, 1) by decide +kernel) (pc' := 43) rfl rfl ?_
  exact X_callV (y := 41) (n := 1) (st := [.int 2, .ref 8]) (as := [.ref 8, .int 2]) (rest := []) (ls0 := [.ref 8, .int 2, .null]) (ci := 2) (show decode (mB 39) 43 = .ok (.invokevirtual 73, 3) by decide +kernel) (pc' := 46) rfl (by decide +kernel) (by decide +kernel) rfl (ls_8 hL) (by decide +kernel) rfl rfl rfl rfl rfl k
set_option maxRecDepth 4000 in
theorem b_X2_takeItem_46 {xs : Nat → Int32} {L d : Nat} {S : Nat → Shp} {I : Nat → Nat → Int32} {J : Nat → Nat → Int64} {R : Nat → Nat → Nat} {c : Nat × Nat} {Q : Option (Option Value) → MH → Prop} {sx0 : Int32}  (kt : sx0 = 0 → X xs L (d + 1) 39 53 [.ref 8] [] (S, I, J, R, c) Q) (kf : ¬ (sx0 = 0) → X xs L (d + 1) 39 49 [.ref 8] [] (S, I, J, R, c) Q) : X xs L (d + 1) 39 46 [.ref 8] [.int sx0] (S, I, J, R, c) Q := by
  exact X_if_eq (tgt := 53) (show decode (mB 39) 46 = .ok (.ifCond .eq 7, 3) by decide +kernel) rfl (pc' := 49) rfl kt kf
set_option maxRecDepth 4000 in
theorem b_X2_takeItem_49 {xs : Nat → Int32} {L d : Nat} {S : Nat → Shp} {I : Nat → Nat → Int32} {J : Nat → Nat → Int64} {R : Nat → Nat → Nat} {c : Nat × Nat} {Q : Option (Option Value) → MH → Prop}   (k : X xs L (d + 1) 39 54 [.ref 8] [.int 1] (S, I, J, R, c) Q) : X xs L (d + 1) 39 49 [.ref 8] [] (S, I, J, R, c) Q := by
  refine X_iconst (v := 1) (show decode (mB 39) 49 = .ok (.iconst 1, 1) by decide +kernel) (pc' := 50) rfl rfl ?_
  refine X_goto (tgt := 54) (show decode (mB 39) 50 = .ok (.goto 4, 3) by decide +kernel) rfl ?_
  exact k
set_option maxRecDepth 4000 in
theorem b_X2_takeItem_53 {xs : Nat → Int32} {L d : Nat} {S : Nat → Shp} {I : Nat → Nat → Int32} {J : Nat → Nat → Int64} {R : Nat → Nat → Nat} {c : Nat × Nat} {Q : Option (Option Value) → MH → Prop}   (k : X xs L (d + 1) 39 54 [.ref 8] [.int 0] (S, I, J, R, c) Q) : X xs L (d + 1) 39 53 [.ref 8] [] (S, I, J, R, c) Q := by
  refine X_iconst (v := 0) (show decode (mB 39) 53 = .ok (.iconst 0, 1) by decide +kernel) (pc' := 54) rfl rfl ?_
  exact k
set_option maxRecDepth 4000 in
theorem b_X2_takeItem_54 {xs : Nat → Int32} {L d : Nat} {S : Nat → Shp} {I : Nat → Nat → Int32} {J : Nat → Nat → Int64} {R : Nat → Nat → Nat} {c : Nat × Nat} {Q : Option (Option Value) → MH → Prop} {sx0 : Int32} (hz54 : sx0 = 0 ∨ sx0 = 1) (k : Q (some (some (.int sx0))) (S, I, J, R, c)) : X xs L (d + 1) 39 54 [.ref 8] [.int sx0] (S, I, J, R, c) Q := by
  exact X_ireturn (ty := .boolean) (show decode (mB 39) 54 = .ok (.ireturn, 1) by decide +kernel) (by decide +kernel) (nz hz54) k
set_option maxRecDepth 4000 in
theorem b_X2_takeInputs_0 {xs : Nat → Int32} {L d : Nat} {S : Nat → Shp} {I : Nat → Nat → Int32} {J : Nat → Nat → Int64} {R : Nat → Nat → Nat} {c : Nat × Nat} {Q : Option (Option Value) → MH → Prop}   (k : X xs L (d + 1) 40 4 [.ref 8, .int 1, .int 0] [] (S, I, J, R, c) Q) : X xs L (d + 1) 40 0 [.ref 8, .null, .null] [] (S, I, J, R, c) Q := by
  refine X_iconst (v := 1) (show decode (mB 40) 0 = .ok (.iconst 1, 1) by decide +kernel) (pc' := 1) rfl rfl ?_
  refine X_istore_n (q := 1) (ls' := [.ref 8, .int 1, .null]) (show decode (mB 40) 1 = .ok (.istore_n 1, 1) by decide +kernel) (pc' := 2) rfl rfl rfl ?_
  refine X_iconst (v := 0) (show decode (mB 40) 2 = .ok (.iconst 0, 1) by decide +kernel) (pc' := 3) rfl rfl ?_
  refine X_istore_n (q := 2) (ls' := [.ref 8, .int 1, .int 0]) (show decode (mB 40) 3 = .ok (.istore_n 2, 1) by decide +kernel) (pc' := 4) rfl rfl rfl ?_
  exact k
set_option maxRecDepth 4000 in
theorem b_X2_takeInputs_4 {xs : Nat → Int32} {L d : Nat} {S : Nat → Shp} {I : Nat → Nat → Int32} {J : Nat → Nat → Int64} {R : Nat → Nat → Nat} {c : Nat × Nat} {Q : Option (Option Value) → MH → Prop} {x1 x2 : Int32}  (kt : 40 < x2 → X xs L (d + 1) 40 37 [.ref 8, .int x1, .int x2] [] (S, I, J, R, c) Q) (kf : ¬ (40 < x2) → X xs L (d + 1) 40 10 [.ref 8, .int x1, .int x2] [] (S, I, J, R, c) Q) : X xs L (d + 1) 40 4 [.ref 8, .int x1, .int x2] [] (S, I, J, R, c) Q := by
  refine X_iload_n (q := 2) (show decode (mB 40) 4 = .ok (.iload_n 2, 1) by decide +kernel) (pc' := 5) rfl rfl rfl ?_
  refine X_bipush (v := 40) (show decode (mB 40) 5 = .ok (.bipush 40, 2) by decide +kernel) (pc' := 7) rfl (by decide +kernel) ?_
  exact X_icmp_gt (tgt := 37) (show decode (mB 40) 7 = .ok (.if_icmp .gt 30, 3) by decide +kernel) rfl (pc' := 10) rfl kt kf
set_option maxRecDepth 4000 in
theorem b_X2_takeInputs_10 {xs : Nat → Int32} {L d : Nat} {S : Nat → Shp} {I : Nat → Nat → Int32} {J : Nat → Nat → Int64} {R : Nat → Nat → Nat} {c : Nat × Nat} {Q : Option (Option Value) → MH → Prop} {x1 x2 : Int32}  (kt : x1 = 0 → X xs L (d + 1) 40 37 [.ref 8, .int x1, .int x2] [] (S, I, J, R, c) Q) (kf : ¬ (x1 = 0) → X xs L (d + 1) 40 14 [.ref 8, .int x1, .int x2] [] (S, I, J, R, c) Q) : X xs L (d + 1) 40 10 [.ref 8, .int x1, .int x2] [] (S, I, J, R, c) Q := by
  refine X_iload_n (q := 1) (show decode (mB 40) 10 = .ok (.iload_n 1, 1) by decide +kernel) (pc' := 11) rfl rfl rfl ?_
  exact X_if_eq (tgt := 37) (show decode (mB 40) 11 = .ok (.ifCond .eq 26, 3) by decide +kernel) rfl (pc' := 14) rfl kt kf
set_option maxRecDepth 4000 in
theorem b_X2_takeInputs_14 {xs : Nat → Int32} {L d : Nat} {S : Nat → Shp} {I : Nat → Nat → Int32} {J : Nat → Nat → Int64} {R : Nat → Nat → Nat} {c : Nat × Nat} {Q : Option (Option Value) → MH → Prop} {x1 x2 : Int32} (hL : Lay S R)  (k : X xs L d 42 0 [.ref 8, .int 0] [] (S, I, J, R, c) (Kc xs L (d + 1) 40 19 [.ref 8, .int x1, .int x2] [] Q)) : X xs L (d + 1) 40 14 [.ref 8, .int x1, .int x2] [] (S, I, J, R, c) Q := by
  refine X_aload_n (q := 0) (show decode (mB 40) 14 = .ok (.aload_n 0, 1) by decide +kernel) (pc' := 15) rfl rfl rfl ?_
  refine X_iconst (v := 0) (show decode (mB 40) 15 = .ok (.iconst 0, 1) by decide +kernel) (pc' := 16) rfl rfl ?_
  exact X_callV (y := 42) (n := 1) (st := [.int 0, .ref 8]) (as := [.ref 8, .int 0]) (rest := []) (ls0 := [.ref 8, .int 0]) (ci := 2) (show decode (mB 40) 16 = .ok (.invokevirtual 79, 3) by decide +kernel) (pc' := 19) rfl (by decide +kernel) (by decide +kernel) rfl (ls_8 hL) (by decide +kernel) rfl rfl rfl rfl rfl k
set_option maxRecDepth 4000 in
theorem b_X2_takeInputs_19 {xs : Nat → Int32} {L d : Nat} {S : Nat → Shp} {I : Nat → Nat → Int32} {J : Nat → Nat → Int64} {R : Nat → Nat → Nat} {c : Nat × Nat} {Q : Option (Option Value) → MH → Prop} {x1 x2 sx0 : Int32}  (kt : ¬ sx0 = 0 → X xs L (d + 1) 40 24 [.ref 8, .int x1, .int x2] [] (S, I, J, R, c) Q) (kf : ¬ (¬ sx0 = 0) → X xs L (d + 1) 40 22 [.ref 8, .int x1, .int x2] [] (S, I, J, R, c) Q) : X xs L (d + 1) 40 19 [.ref 8, .int x1, .int x2] [.int sx0] (S, I, J, R, c) Q := by
  exact X_if_ne (tgt := 24) (show decode (mB 40) 19 = .ok (.ifCond .ne 5, 3) by decide +kernel) rfl (pc' := 22) rfl kt kf
set_option maxRecDepth 4000 in
theorem b_X2_takeInputs_22 {xs : Nat → Int32} {L d : Nat} {S : Nat → Shp} {I : Nat → Nat → Int32} {J : Nat → Nat → Int64} {R : Nat → Nat → Nat} {c : Nat × Nat} {Q : Option (Option Value) → MH → Prop} {x1 x2 : Int32}  (k : Q (some (some (.int 0))) (S, I, J, R, c)) : X xs L (d + 1) 40 22 [.ref 8, .int x1, .int x2] [] (S, I, J, R, c) Q := by
  refine X_iconst (v := 0) (show decode (mB 40) 22 = .ok (.iconst 0, 1) by decide +kernel) (pc' := 23) rfl rfl ?_
  exact X_ireturn (ty := .boolean) (show decode (mB 40) 23 = .ok (.ireturn, 1) by decide +kernel) (by decide +kernel) rfl k
set_option maxRecDepth 4000 in
theorem b_X2_takeInputs_24 {xs : Nat → Int32} {L d : Nat} {S : Nat → Shp} {I : Nat → Nat → Int32} {J : Nat → Nat → Int64} {R : Nat → Nat → Nat} {c : Nat × Nat} {Q : Option (Option Value) → MH → Prop} {x1 x2 : Int32} (hL : Lay S R)  (k : X xs L d 62 0 [.ref 8, .int 44] [] (S, I, J, R, c) (Kc xs L (d + 1) 40 30 [.ref 8, .int x1, .int x2] [] Q)) : X xs L (d + 1) 40 24 [.ref 8, .int x1, .int x2] [] (S, I, J, R, c) Q := by
  refine X_aload_n (q := 0) (show decode (mB 40) 24 = .ok (.aload_n 0, 1) by decide +kernel) (pc' := 25) rfl rfl rfl ?_
  refine X_bipush (v := 44) (show decode (mB 40) 25 = .ok (.bipush 44, 2) by decide +kernel) (pc' := 27) rfl (by decide +kernel) ?_
  exact X_callV (y := 62) (n := 1) (st := [.int 44, .ref 8]) (as := [.ref 8, .int 44]) (rest := []) (ls0 := [.ref 8, .int 44]) (ci := 2) (show decode (mB 40) 27 = .ok (.invokevirtual 82, 3) by decide +kernel) (pc' := 30) rfl (by decide +kernel) (by decide +kernel) rfl (ls_8 hL) (by decide +kernel) rfl rfl rfl rfl rfl k
set_option maxRecDepth 4000 in
theorem b_X2_takeInputs_30 {xs : Nat → Int32} {L d : Nat} {S : Nat → Shp} {I : Nat → Nat → Int32} {J : Nat → Nat → Int64} {R : Nat → Nat → Nat} {c : Nat × Nat} {Q : Option (Option Value) → MH → Prop} {x1 x2 sx0 : Int32}  (k : X xs L (d + 1) 40 4 [.ref 8, .int sx0, .int (x2 + 1)] [] (S, I, J, R, c) Q) : X xs L (d + 1) 40 30 [.ref 8, .int x1, .int x2] [.int sx0] (S, I, J, R, c) Q := by
  refine X_istore_n (q := 1) (ls' := [.ref 8, .int sx0, .int x2]) (show decode (mB 40) 30 = .ok (.istore_n 1, 1) by decide +kernel) (pc' := 31) rfl rfl rfl ?_
  refine X_iinc (q := 2) (v := x2 + 1) (ls' := [.ref 8, .int sx0, .int (x2 + 1)]) (show decode (mB 40) 31 = .ok (.iinc 2 1, 3) by decide +kernel) (pc' := 34) rfl rfl rfl rfl ?_
  refine X_goto (tgt := 4) (show decode (mB 40) 34 = .ok (.goto (-30), 3) by decide +kernel) rfl ?_
  exact k
set_option maxRecDepth 4000 in
theorem b_X2_takeInputs_37 {xs : Nat → Int32} {L d : Nat} {S : Nat → Shp} {I : Nat → Nat → Int32} {J : Nat → Nat → Int64} {R : Nat → Nat → Nat} {c : Nat × Nat} {Q : Option (Option Value) → MH → Prop} {x1 x2 : Int32} (hL : Lay S R)  (k : X xs L d 62 0 [.ref 8, .int 59] [] (S, I, J, R, c) (Kc xs L (d + 1) 40 43 [.ref 8, .int x1, .int x2] [] Q)) : X xs L (d + 1) 40 37 [.ref 8, .int x1, .int x2] [] (S, I, J, R, c) Q := by
  refine X_aload_n (q := 0) (show decode (mB 40) 37 = .ok (.aload_n 0, 1) by decide +kernel) (pc' := 38) rfl rfl rfl ?_
  refine X_bipush (v := 59) (show decode (mB 40) 38 = .ok (.bipush 59, 2) by decide +kernel) (pc' := 40) rfl (by decide +kernel) ?_
  exact X_callV (y := 62) (n := 1) (st := [.int 59, .ref 8]) (as := [.ref 8, .int 59]) (rest := []) (ls0 := [.ref 8, .int 59]) (ci := 2) (show decode (mB 40) 40 = .ok (.invokevirtual 82, 3) by decide +kernel) (pc' := 43) rfl (by decide +kernel) (by decide +kernel) rfl (ls_8 hL) (by decide +kernel) rfl rfl rfl rfl rfl k
set_option maxRecDepth 4000 in
theorem b_X2_takeInputs_43 {xs : Nat → Int32} {L d : Nat} {S : Nat → Shp} {I : Nat → Nat → Int32} {J : Nat → Nat → Int64} {R : Nat → Nat → Nat} {c : Nat × Nat} {Q : Option (Option Value) → MH → Prop} {x1 x2 sx0 : Int32} (hz43 : sx0 = 0 ∨ sx0 = 1) (k : Q (some (some (.int sx0))) (S, I, J, R, c)) : X xs L (d + 1) 40 43 [.ref 8, .int x1, .int x2] [.int sx0] (S, I, J, R, c) Q := by
  exact X_ireturn (ty := .boolean) (show decode (mB 40) 43 = .ok (.ireturn, 1) by decide +kernel) (by decide +kernel) (nz hz43) k
set_option maxRecDepth 4000 in
theorem b_X2_takeMade_0 {xs : Nat → Int32} {L d : Nat} {S : Nat → Shp} {I : Nat → Nat → Int32} {J : Nat → Nat → Int64} {R : Nat → Nat → Nat} {c : Nat × Nat} {Q : Option (Option Value) → MH → Prop} {x1 : Int32} (hL : Lay S R)  (k : X xs L d 42 0 [.ref 8, .int x1] [] (S, I, J, R, c) (Kc xs L (d + 1) 41 5 [.ref 8, .int x1, .null] [] Q)) : X xs L (d + 1) 41 0 [.ref 8, .int x1, .null] [] (S, I, J, R, c) Q := by
  refine X_aload_n (q := 0) (show decode (mB 41) 0 = .ok (.aload_n 0, 1) by decide +kernel) (pc' := 1) rfl rfl rfl ?_
  refine X_iload_n (q := 1) (show decode (mB 41) 1 = .ok (.iload_n 1, 1) by decide +kernel) (pc' := 2) rfl rfl rfl ?_
  exact X_callV (y := 42) (n := 1) (st := [.int x1, .ref 8]) (as := [.ref 8, .int x1]) (rest := []) (ls0 := [.ref 8, .int x1]) (ci := 2) (show decode (mB 41) 2 = .ok (.invokevirtual 79, 3) by decide +kernel) (pc' := 5) rfl (by decide +kernel) (by decide +kernel) rfl (ls_8 hL) (by decide +kernel) rfl rfl rfl rfl rfl k
set_option maxRecDepth 4000 in
theorem b_X2_takeMade_5 {xs : Nat → Int32} {L d : Nat} {S : Nat → Shp} {I : Nat → Nat → Int32} {J : Nat → Nat → Int64} {R : Nat → Nat → Nat} {c : Nat × Nat} {Q : Option (Option Value) → MH → Prop} {x1 sx0 : Int32}  (kt : sx0 = 0 → X xs L (d + 1) 41 17 [.ref 8, .int x1, .null] [] (S, I, J, R, c) Q) (kf : ¬ (sx0 = 0) → X xs L (d + 1) 41 8 [.ref 8, .int x1, .null] [] (S, I, J, R, c) Q) : X xs L (d + 1) 41 5 [.ref 8, .int x1, .null] [.int sx0] (S, I, J, R, c) Q := by
  exact X_if_eq (tgt := 17) (show decode (mB 41) 5 = .ok (.ifCond .eq 12, 3) by decide +kernel) rfl (pc' := 8) rfl kt kf
set_option maxRecDepth 4000 in
theorem b_X2_takeMade_8 {xs : Nat → Int32} {L d : Nat} {S : Nat → Shp} {I : Nat → Nat → Int32} {J : Nat → Nat → Int64} {R : Nat → Nat → Nat} {c : Nat × Nat} {Q : Option (Option Value) → MH → Prop} {x1 : Int32} (hL : Lay S R)  (k : X xs L d 62 0 [.ref 8, .int 61] [] (S, I, J, R, c) (Kc xs L (d + 1) 41 14 [.ref 8, .int x1, .null] [] Q)) : X xs L (d + 1) 41 8 [.ref 8, .int x1, .null] [] (S, I, J, R, c) Q := by
  refine X_aload_n (q := 0) (show decode (mB 41) 8 = .ok (.aload_n 0, 1) by decide +kernel) (pc' := 9) rfl rfl rfl ?_
  refine X_bipush (v := 61) (show decode (mB 41) 9 = .ok (.bipush 61, 2) by decide +kernel) (pc' := 11) rfl (by decide +kernel) ?_
  exact X_callV (y := 62) (n := 1) (st := [.int 61, .ref 8]) (as := [.ref 8, .int 61]) (rest := []) (ls0 := [.ref 8, .int 61]) (ci := 2) (show decode (mB 41) 11 = .ok (.invokevirtual 82, 3) by decide +kernel) (pc' := 14) rfl (by decide +kernel) (by decide +kernel) rfl (ls_8 hL) (by decide +kernel) rfl rfl rfl rfl rfl k
set_option maxRecDepth 4000 in
theorem b_X2_takeMade_14 {xs : Nat → Int32} {L d : Nat} {S : Nat → Shp} {I : Nat → Nat → Int32} {J : Nat → Nat → Int64} {R : Nat → Nat → Nat} {c : Nat × Nat} {Q : Option (Option Value) → MH → Prop} {x1 sx0 : Int32}  (kt : ¬ sx0 = 0 → X xs L (d + 1) 41 19 [.ref 8, .int x1, .null] [] (S, I, J, R, c) Q) (kf : ¬ (¬ sx0 = 0) → X xs L (d + 1) 41 17 [.ref 8, .int x1, .null] [] (S, I, J, R, c) Q) : X xs L (d + 1) 41 14 [.ref 8, .int x1, .null] [.int sx0] (S, I, J, R, c) Q := by
  exact X_if_ne (tgt := 19) (show decode (mB 41) 14 = .ok (.ifCond .ne 5, 3) by decide +kernel) rfl (pc' := 17) rfl kt kf
set_option maxRecDepth 4000 in
theorem b_X2_takeMade_17 {xs : Nat → Int32} {L d : Nat} {S : Nat → Shp} {I : Nat → Nat → Int32} {J : Nat → Nat → Int64} {R : Nat → Nat → Nat} {c : Nat × Nat} {Q : Option (Option Value) → MH → Prop} {x1 : Int32}  (k : Q (some (some (.int 0))) (S, I, J, R, c)) : X xs L (d + 1) 41 17 [.ref 8, .int x1, .null] [] (S, I, J, R, c) Q := by
  refine X_iconst (v := 0) (show decode (mB 41) 17 = .ok (.iconst 0, 1) by decide +kernel) (pc' := 18) rfl rfl ?_
  exact X_ireturn (ty := .boolean) (show decode (mB 41) 18 = .ok (.ireturn, 1) by decide +kernel) (by decide +kernel) rfl k
set_option maxRecDepth 4000 in
theorem b_X2_takeMade_19 {xs : Nat → Int32} {L d : Nat} {S : Nat → Shp} {I : Nat → Nat → Int32} {J : Nat → Nat → Int64} {R : Nat → Nat → Nat} {c : Nat × Nat} {Q : Option (Option Value) → MH → Prop} {x1 : Int32} {q_8_6 : Nat} (hL : Lay S R) (hq_8_6 : R 8 6 = q_8_6) (h_q_8_6 : LyCi S R q_8_6) (k : X xs L d 64 0 [.ref 8, .null, .null] [] (S, I, J, R, c) (Kc xs L (d + 1) 41 33 [.ref 8, .int x1, .int ((I q_8_6 0) - 1)] [] Q)) : X xs L (d + 1) 41 19 [.ref 8, .int x1, .null] [] (S, I, J, R, c) Q := by
  refine X_aload_n (q := 0) (show decode (mB 41) 19 = .ok (.aload_n 0, 1) by decide +kernel) (pc' := 20) rfl rfl rfl ?_
  refine X_getR (ci := 2) (f := 6) (q := q_8_6) (show decode (mB 41) 20 = .ok (.getfield 17, 3) by decide +kernel) (pc' := 23) rfl (ls_8 hL) (by decide +kernel) rfl hq_8_6 ?_
  refine X_getI (ci := 1) (f := 0) (x := I q_8_6 0) (show decode (mB 41) 23 = .ok (.getfield 21, 3) by decide +kernel) (pc' := 26) rfl h_q_8_6.s0 (by decide +kernel) rfl rfl ?_
  refine X_iconst (v := 1) (show decode (mB 41) 26 = .ok (.iconst 1, 1) by decide +kernel) (pc' := 27) rfl rfl ?_
  refine X_isub (show decode (mB 41) 27 = .ok (.isub, 1) by decide +kernel) (pc' := 28) rfl ?_
  refine X_istore_n (q := 2) (ls' := [.ref 8, .int x1, .int ((I q_8_6 0) - 1)]) (show decode (mB 41) 28 = .ok (.istore_n 2, 1) by decide +kernel) (pc' := 29) rfl rfl rfl ?_
  refine X_aload_n (q := 0) (show decode (mB 41) 29 = .ok (.aload_n 0, 1) by decide +kernel) (pc' := 30) rfl rfl rfl ?_
  exact X_callV (y := 64) (n := 0) (st := [.ref 8]) (as := [.ref 8]) (rest := []) (ls0 := [.ref 8, .null, .null]) (ci := 2) (show decode (mB 41) 30 = .ok (.invokevirtual 85, 3) by decide +kernel) (pc' := 33) rfl (by decide +kernel) (by decide +kernel) rfl (ls_8 hL) (by decide +kernel) rfl rfl rfl rfl rfl k
set_option maxRecDepth 4000 in
theorem b_X2_takeMade_33 {xs : Nat → Int32} {L d : Nat} {S : Nat → Shp} {I : Nat → Nat → Int32} {J : Nat → Nat → Int64} {R : Nat → Nat → Nat} {c : Nat × Nat} {Q : Option (Option Value) → MH → Prop} {x1 x2 sx0 : Int32}  (kt : ¬ sx0 = 0 → X xs L (d + 1) 41 38 [.ref 8, .int x1, .int x2] [] (S, I, J, R, c) Q) (kf : ¬ (¬ sx0 = 0) → X xs L (d + 1) 41 36 [.ref 8, .int x1, .int x2] [] (S, I, J, R, c) Q) : X xs L (d + 1) 41 33 [.ref 8, .int x1, .int x2] [.int sx0] (S, I, J, R, c) Q := by
  exact X_if_ne (tgt := 38) (show decode (mB 41) 33 = .ok (.ifCond .ne 5, 3) by decide +kernel) rfl (pc' := 36) rfl kt kf
set_option maxRecDepth 4000 in
theorem b_X2_takeMade_36 {xs : Nat → Int32} {L d : Nat} {S : Nat → Shp} {I : Nat → Nat → Int32} {J : Nat → Nat → Int64} {R : Nat → Nat → Nat} {c : Nat × Nat} {Q : Option (Option Value) → MH → Prop} {x1 x2 : Int32}  (k : Q (some (some (.int 0))) (S, I, J, R, c)) : X xs L (d + 1) 41 36 [.ref 8, .int x1, .int x2] [] (S, I, J, R, c) Q := by
  refine X_iconst (v := 0) (show decode (mB 41) 36 = .ok (.iconst 0, 1) by decide +kernel) (pc' := 37) rfl rfl ?_
  exact X_ireturn (ty := .boolean) (show decode (mB 41) 37 = .ok (.ireturn, 1) by decide +kernel) (by decide +kernel) rfl k
set_option maxRecDepth 4000 in
theorem b_X2_takeMade_38 {xs : Nat → Int32} {L d : Nat} {S : Nat → Shp} {I : Nat → Nat → Int32} {J : Nat → Nat → Int64} {R : Nat → Nat → Nat} {c : Nat × Nat} {Q : Option (Option Value) → MH → Prop} {x1 x2 : Int32} {q_8_6 q_8_1 : Nat} (hL : Lay S R) (hq_8_6 : R 8 6 = q_8_6) (h_q_8_6 : LyCi S R q_8_6) (hq_8_1 : R 8 1 = q_8_1) (h_q_8_1 : LyCd S R q_8_1) (hb53 : inb x2 40 = true) (k : X xs L d 62 0 [.ref 8, .int 59] [] (S, (u2 I (q_8_6 + 4) x2.toNatClampNeg (I q_8_1 1)), J, R, c) (Kc xs L (d + 1) 41 60 [.ref 8, .int x1, .int x2] [] Q)) : X xs L (d + 1) 41 38 [.ref 8, .int x1, .int x2] [] (S, I, J, R, c) Q := by
  refine X_aload_n (q := 0) (show decode (mB 41) 38 = .ok (.aload_n 0, 1) by decide +kernel) (pc' := 39) rfl rfl rfl ?_
  refine X_getR (ci := 2) (f := 6) (q := q_8_6) (show decode (mB 41) 39 = .ok (.getfield 17, 3) by decide +kernel) (pc' := 42) rfl (ls_8 hL) (by decide +kernel) rfl hq_8_6 ?_
  refine X_getR (ci := 1) (f := 4) (q := (q_8_6 + 4)) (show decode (mB 41) 42 = .ok (.getfield 88, 3) by decide +kernel) (pc' := 45) rfl h_q_8_6.s0 (by decide +kernel) rfl h_q_8_6.r0_4 ?_
  refine X_iload_n (q := 2) (show decode (mB 41) 45 = .ok (.iload_n 2, 1) by decide +kernel) (pc' := 46) rfl rfl rfl ?_
  refine X_aload_n (q := 0) (show decode (mB 41) 46 = .ok (.aload_n 0, 1) by decide +kernel) (pc' := 47) rfl rfl rfl ?_
  refine X_getR (ci := 2) (f := 1) (q := q_8_1) (show decode (mB 41) 47 = .ok (.getfield 91, 3) by decide +kernel) (pc' := 50) rfl (ls_8 hL) (by decide +kernel) rfl hq_8_1 ?_
  refine X_getI (ci := 5) (f := 1) (x := I q_8_1 1) (show decode (mB 41) 50 = .ok (.getfield 92, 3) by decide +kernel) (pc' := 53) rfl h_q_8_1.s0 (by decide +kernel) rfl rfl ?_
  refine X_iastore (show decode (mB 41) 53 = .ok (.iastore, 1) by decide +kernel) (pc' := 54) rfl h_q_8_6.s4 hb53 ?_
  refine X_aload_n (q := 0) (show decode (mB 41) 54 = .ok (.aload_n 0, 1) by decide +kernel) (pc' := 55) rfl rfl rfl ?_
  refine X_bipush (v := 59) (show decode (mB 41) 55 = .ok (.bipush 59, 2) by decide +kernel) (pc' := 57) rfl (by decide +kernel) ?_
  exact X_callV (y := 62) (n := 1) (st := [.int 59, .ref 8]) (as := [.ref 8, .int 59]) (rest := []) (ls0 := [.ref 8, .int 59]) (ci := 2) (show decode (mB 41) 57 = .ok (.invokevirtual 82, 3) by decide +kernel) (pc' := 60) rfl (by decide +kernel) (by decide +kernel) rfl (ls_8 hL) (by decide +kernel) rfl rfl rfl rfl rfl k
set_option maxRecDepth 4000 in
theorem b_X2_takeMade_60 {xs : Nat → Int32} {L d : Nat} {S : Nat → Shp} {I : Nat → Nat → Int32} {J : Nat → Nat → Int64} {R : Nat → Nat → Nat} {c : Nat × Nat} {Q : Option (Option Value) → MH → Prop} {x1 x2 sx0 : Int32} (hz60 : sx0 = 0 ∨ sx0 = 1) (k : Q (some (some (.int sx0))) (S, I, J, R, c)) : X xs L (d + 1) 41 60 [.ref 8, .int x1, .int x2] [.int sx0] (S, I, J, R, c) Q := by
  exact X_ireturn (ty := .boolean) (show decode (mB 41) 60 = .ok (.ireturn, 1) by decide +kernel) (by decide +kernel) (nz hz60) k
set_option maxRecDepth 4000 in
theorem b_X2_takeDeclared_0 {xs : Nat → Int32} {L d : Nat} {S : Nat → Shp} {I : Nat → Nat → Int32} {J : Nat → Nat → Int64} {R : Nat → Nat → Nat} {c : Nat × Nat} {Q : Option (Option Value) → MH → Prop} {x1 : Int32} (hL : Lay S R)  (k : X xs L d 93 0 [.ref 4] [] (S, I, J, R, c) (Kc xs L (d + 1) 42 7 [.ref 8, .int x1] [] Q)) : X xs L (d + 1) 42 0 [.ref 8, .int x1] [] (S, I, J, R, c) Q := by
  refine X_aload_n (q := 0) (show decode (mB 42) 0 = .ok (.aload_n 0, 1) by decide +kernel) (pc' := 1) rfl rfl rfl ?_
  refine X_getR (ci := 2) (f := 0) (q := 4) (show decode (mB 42) 1 = .ok (.getfield 35, 3) by decide +kernel) (pc' := 4) rfl (ls_8 hL) (by decide +kernel) rfl (lr_8_0 hL) ?_
  exact X_callV (y := 93) (n := 0) (st := [.ref 4]) (as := [.ref 4]) (rest := []) (ls0 := [.ref 4]) (ci := 8) (show decode (mB 42) 4 = .ok (.invokevirtual 39, 3) by decide +kernel) (pc' := 7) rfl (by decide +kernel) (by decide +kernel) rfl (ls_4 hL) (by decide +kernel) rfl rfl rfl rfl rfl k
set_option maxRecDepth 4000 in
theorem b_X2_takeDeclared_7 {xs : Nat → Int32} {L d : Nat} {S : Nat → Shp} {I : Nat → Nat → Int32} {J : Nat → Nat → Int64} {R : Nat → Nat → Nat} {c : Nat × Nat} {Q : Option (Option Value) → MH → Prop} {x1 sx0 : Int32}  (kt : ¬ sx0 = 2 → X xs L (d + 1) 42 29 [.ref 8, .int x1] [] (S, I, J, R, c) Q) (kf : ¬ (¬ sx0 = 2) → X xs L (d + 1) 42 11 [.ref 8, .int x1] [] (S, I, J, R, c) Q) : X xs L (d + 1) 42 7 [.ref 8, .int x1] [.int sx0] (S, I, J, R, c) Q := by
  refine X_iconst (v := 2) (show decode (mB 42) 7 = .ok (.iconst 2, 1) by decide +kernel) (pc' := 8) rfl rfl ?_
  exact X_icmp_ne (tgt := 29) (show decode (mB 42) 8 = .ok (.if_icmp .ne 21, 3) by decide +kernel) rfl (pc' := 11) rfl kt kf
set_option maxRecDepth 4000 in
theorem b_X2_takeDeclared_11 {xs : Nat → Int32} {L d : Nat} {S : Nat → Shp} {I : Nat → Nat → Int32} {J : Nat → Nat → Int64} {R : Nat → Nat → Nat} {c : Nat × Nat} {Q : Option (Option Value) → MH → Prop} {x1 : Int32} {q_8_6 : Nat} (hL : Lay S R) (hq_8_6 : R 8 6 = q_8_6) (k : X xs L d 95 0 [.ref 4] [] (S, I, J, R, c) (Kc xs L (d + 1) 42 22 [.ref 8, .int x1] [.ref q_8_6] Q)) : X xs L (d + 1) 42 11 [.ref 8, .int x1] [] (S, I, J, R, c) Q := by
  refine X_aload_n (q := 0) (show decode (mB 42) 11 = .ok (.aload_n 0, 1) by decide +kernel) (pc' := 12) rfl rfl rfl ?_
  refine X_getR (ci := 2) (f := 6) (q := q_8_6) (show decode (mB 42) 12 = .ok (.getfield 17, 3) by decide +kernel) (pc' := 15) rfl (ls_8 hL) (by decide +kernel) rfl hq_8_6 ?_
  refine X_aload_n (q := 0) (show decode (mB 42) 15 = .ok (.aload_n 0, 1) by decide +kernel) (pc' := 16) rfl rfl rfl ?_
  refine X_getR (ci := 2) (f := 0) (q := 4) (show decode (mB 42) 16 = .ok (.getfield 35, 3) by decide +kernel) (pc' := 19) rfl (ls_8 hL) (by decide +kernel) rfl (lr_8_0 hL) ?_
  exact X_callV (y := 95) (n := 0) (st := [.ref 4, .ref q_8_6]) (as := [.ref 4]) (rest := [.ref q_8_6]) (ls0 := [.ref 4]) (ci := 8) (show decode (mB 42) 19 = .ok (.invokevirtual 95, 3) by decide +kernel) (pc' := 22) rfl (by decide +kernel) (by decide +kernel) rfl (ls_4 hL) (by decide +kernel) rfl rfl rfl rfl rfl k
set_option maxRecDepth 4000 in
theorem b_X2_takeDeclared_22 {xs : Nat → Int32} {L d : Nat} {S : Nat → Shp} {I : Nat → Nat → Int32} {J : Nat → Nat → Int64} {R : Nat → Nat → Nat} {c : Nat × Nat} {Q : Option (Option Value) → MH → Prop} {x1 : Int32} {sr0 : Nat} {sy1 : Int64} (h_sr0 : LyCi S R sr0) (k : X xs L d 30 0 [.ref sr0, .long sy1, .null, .int x1] [] (S, I, J, R, c) (Kc xs L (d + 1) 42 26 [.ref 8, .int x1] [] Q)) : X xs L (d + 1) 42 22 [.ref 8, .int x1] [.long sy1, .ref sr0] (S, I, J, R, c) Q := by
  refine X_iload_n (q := 1) (show decode (mB 42) 22 = .ok (.iload_n 1, 1) by decide +kernel) (pc' := 23) rfl rfl rfl ?_
  exact X_callV (y := 30) (n := 2) (st := [.int x1, .long sy1, .ref sr0]) (as := [.ref sr0, .long sy1, .int x1]) (rest := []) (ls0 := [.ref sr0, .long sy1, .null, .int x1]) (ci := 1) (show decode (mB 42) 23 = .ok (.invokevirtual 99, 3) by decide +kernel) (pc' := 26) rfl (by decide +kernel) (by decide +kernel) rfl h_sr0.s0 (by decide +kernel) rfl rfl rfl rfl rfl k
set_option maxRecDepth 4000 in
theorem b_X2_takeDeclared_26 {xs : Nat → Int32} {L d : Nat} {S : Nat → Shp} {I : Nat → Nat → Int32} {J : Nat → Nat → Int64} {R : Nat → Nat → Nat} {c : Nat × Nat} {Q : Option (Option Value) → MH → Prop} {x1 sx0 : Int32}  (kt : ¬ sx0 = 0 → X xs L (d + 1) 42 31 [.ref 8, .int x1] [] (S, I, J, R, c) Q) (kf : ¬ (¬ sx0 = 0) → X xs L (d + 1) 42 29 [.ref 8, .int x1] [] (S, I, J, R, c) Q) : X xs L (d + 1) 42 26 [.ref 8, .int x1] [.int sx0] (S, I, J, R, c) Q := by
  exact X_if_ne (tgt := 31) (show decode (mB 42) 26 = .ok (.ifCond .ne 5, 3) by decide +kernel) rfl (pc' := 29) rfl kt kf
set_option maxRecDepth 4000 in
theorem b_X2_takeDeclared_29 {xs : Nat → Int32} {L d : Nat} {S : Nat → Shp} {I : Nat → Nat → Int32} {J : Nat → Nat → Int64} {R : Nat → Nat → Nat} {c : Nat × Nat} {Q : Option (Option Value) → MH → Prop} {x1 : Int32}  (k : Q (some (some (.int 0))) (S, I, J, R, c)) : X xs L (d + 1) 42 29 [.ref 8, .int x1] [] (S, I, J, R, c) Q := by
  refine X_iconst (v := 0) (show decode (mB 42) 29 = .ok (.iconst 0, 1) by decide +kernel) (pc' := 30) rfl rfl ?_
  exact X_ireturn (ty := .boolean) (show decode (mB 42) 30 = .ok (.ireturn, 1) by decide +kernel) (by decide +kernel) rfl k
set_option maxRecDepth 4000 in
theorem b_X2_takeDeclared_31 {xs : Nat → Int32} {L d : Nat} {S : Nat → Shp} {I : Nat → Nat → Int32} {J : Nat → Nat → Int64} {R : Nat → Nat → Nat} {c : Nat × Nat} {Q : Option (Option Value) → MH → Prop} {x1 : Int32} {q_8_6 : Nat} (hL : Lay S R) (hq_8_6 : R 8 6 = q_8_6) (h_q_8_6 : LyCi S R q_8_6) (k : X xs L d 94 0 [.ref 4] [] (S, I, J, R, c) (Kc xs L (d + 1) 42 51 [.ref 8, .int x1] [.int ((I q_8_6 0) - 1), .ref 10] Q)) : X xs L (d + 1) 42 31 [.ref 8, .int x1] [] (S, I, J, R, c) Q := by
  refine X_aload_n (q := 0) (show decode (mB 42) 31 = .ok (.aload_n 0, 1) by decide +kernel) (pc' := 32) rfl rfl rfl ?_
  refine X_getR (ci := 2) (f := 7) (q := 10) (show decode (mB 42) 32 = .ok (.getfield 11, 3) by decide +kernel) (pc' := 35) rfl (ls_8 hL) (by decide +kernel) rfl (lr_8_7 hL) ?_
  refine X_aload_n (q := 0) (show decode (mB 42) 35 = .ok (.aload_n 0, 1) by decide +kernel) (pc' := 36) rfl rfl rfl ?_
  refine X_getR (ci := 2) (f := 6) (q := q_8_6) (show decode (mB 42) 36 = .ok (.getfield 17, 3) by decide +kernel) (pc' := 39) rfl (ls_8 hL) (by decide +kernel) rfl hq_8_6 ?_
  refine X_getI (ci := 1) (f := 0) (x := I q_8_6 0) (show decode (mB 42) 39 = .ok (.getfield 21, 3) by decide +kernel) (pc' := 42) rfl h_q_8_6.s0 (by decide +kernel) rfl rfl ?_
  refine X_iconst (v := 1) (show decode (mB 42) 42 = .ok (.iconst 1, 1) by decide +kernel) (pc' := 43) rfl rfl ?_
  refine X_isub (show decode (mB 42) 43 = .ok (.isub, 1) by decide +kernel) (pc' := 44) rfl ?_
  refine X_aload_n (q := 0) (show decode (mB 42) 44 = .ok (.aload_n 0, 1) by decide +kernel) (pc' := 45) rfl rfl rfl ?_
  refine X_getR (ci := 2) (f := 0) (q := 4) (show decode (mB 42) 45 = .ok (.getfield 35, 3) by decide +kernel) (pc' := 48) rfl (ls_8 hL) (by decide +kernel) rfl (lr_8_0 hL) ?_
  exact X_callV (y := 94) (n := 0) (st := [.ref 4, .int ((I q_8_6 0) - 1), .ref 10]) (as := [.ref 4]) (rest := [.int ((I q_8_6 0) - 1), .ref 10]) (ls0 := [.ref 4]) (ci := 8) (show decode (mB 42) 48 = .ok (.invokevirtual 49, 3) by decide +kernel) (pc' := 51) rfl (by decide +kernel) (by decide +kernel) rfl (ls_4 hL) (by decide +kernel) rfl rfl rfl rfl rfl k
set_option maxRecDepth 4000 in
theorem b_X2_takeDeclared_51 {xs : Nat → Int32} {L d : Nat} {S : Nat → Shp} {I : Nat → Nat → Int32} {J : Nat → Nat → Int64} {R : Nat → Nat → Nat} {c : Nat × Nat} {Q : Option (Option Value) → MH → Prop} {x1 sx1 sx2 : Int32} (hL : Lay S R) (hb51 : inb sx1 40 = true) (k : X xs L d 100 0 [.ref 4] [] (S, (u2 I 10 sx1.toNatClampNeg sx2), J, R, c) (Kc xs L (d + 1) 42 59 [.ref 8, .int x1] [] Q)) : X xs L (d + 1) 42 51 [.ref 8, .int x1] [.int sx2, .int sx1, .ref 10] (S, I, J, R, c) Q := by
  refine X_iastore (show decode (mB 42) 51 = .ok (.iastore, 1) by decide +kernel) (pc' := 52) rfl (ls_10 hL) hb51 ?_
  refine X_aload_n (q := 0) (show decode (mB 42) 52 = .ok (.aload_n 0, 1) by decide +kernel) (pc' := 53) rfl rfl rfl ?_
  refine X_getR (ci := 2) (f := 0) (q := 4) (show decode (mB 42) 53 = .ok (.getfield 35, 3) by decide +kernel) (pc' := 56) rfl (ls_8 hL) (by decide +kernel) rfl (lr_8_0 hL) ?_
  exact X_callV (y := 100) (n := 0) (st := [.ref 4]) (as := [.ref 4]) (rest := []) (ls0 := [.ref 4]) (ci := 8) (show decode (mB 42) 56 = .ok (.invokevirtual 103, 3) by decide +kernel) (pc' := 59) rfl (by decide +kernel) (by decide +kernel) rfl (ls_4 hL) (by decide +kernel) rfl rfl rfl rfl rfl k
set_option maxRecDepth 4000 in
theorem b_X2_takeDeclared_59 {xs : Nat → Int32} {L d : Nat} {S : Nat → Shp} {I : Nat → Nat → Int32} {J : Nat → Nat → Int64} {R : Nat → Nat → Nat} {c : Nat × Nat} {Q : Option (Option Value) → MH → Prop} {x1 : Int32}  (k : Q (some (some (.int 1))) (S, I, J, R, c)) : X xs L (d + 1) 42 59 [.ref 8, .int x1] [] (S, I, J, R, c) Q := by
  refine X_iconst (v := 1) (show decode (mB 42) 59 = .ok (.iconst 1, 1) by decide +kernel) (pc' := 60) rfl rfl ?_
  exact X_ireturn (ty := .boolean) (show decode (mB 42) 60 = .ok (.ireturn, 1) by decide +kernel) (by decide +kernel) rfl k
set_option maxRecDepth 4000 in
theorem b_X2_takeLeaf_0 {xs : Nat → Int32} {L d : Nat} {S : Nat → Shp} {I : Nat → Nat → Int32} {J : Nat → Nat → Int64} {R : Nat → Nat → Nat} {c : Nat × Nat} {Q : Option (Option Value) → MH → Prop}  (hL : Lay S R)  (k : X xs L d 93 0 [.ref 4] [] (S, I, J, R, c) (Kc xs L (d + 1) 43 7 [.ref 8] [] Q)) : X xs L (d + 1) 43 0 [.ref 8] [] (S, I, J, R, c) Q := by
  refine X_aload_n (q := 0) (show decode (mB 43) 0 = .ok (.aload_n 0, 1) by decide +kernel) (pc' := 1) rfl rfl rfl ?_
  refine X_getR (ci := 2) (f := 0) (q := 4) (show decode (mB 43) 1 = .ok (.getfield 35, 3) by decide +kernel) (pc' := 4) rfl (ls_8 hL) (by decide +kernel) rfl (lr_8_0 hL) ?_
  exact X_callV (y := 93) (n := 0) (st := [.ref 4]) (as := [.ref 4]) (rest := []) (ls0 := [.ref 4]) (ci := 8) (show decode (mB 43) 4 = .ok (.invokevirtual 39, 3) by decide +kernel) (pc' := 7) rfl (by decide +kernel) (by decide +kernel) rfl (ls_4 hL) (by decide +kernel) rfl rfl rfl rfl rfl k
set_option maxRecDepth 4000 in
theorem b_X2_takeLeaf_7 {xs : Nat → Int32} {L d : Nat} {S : Nat → Shp} {I : Nat → Nat → Int32} {J : Nat → Nat → Int64} {R : Nat → Nat → Nat} {c : Nat × Nat} {Q : Option (Option Value) → MH → Prop} {sx0 : Int32}  (kt : sx0 = 2 → X xs L (d + 1) 43 13 [.ref 8] [] (S, I, J, R, c) Q) (kf : ¬ (sx0 = 2) → X xs L (d + 1) 43 11 [.ref 8] [] (S, I, J, R, c) Q) : X xs L (d + 1) 43 7 [.ref 8] [.int sx0] (S, I, J, R, c) Q := by
  refine X_iconst (v := 2) (show decode (mB 43) 7 = .ok (.iconst 2, 1) by decide +kernel) (pc' := 8) rfl rfl ?_
  exact X_icmp_eq (tgt := 13) (show decode (mB 43) 8 = .ok (.if_icmp .eq 5, 3) by decide +kernel) rfl (pc' := 11) rfl kt kf
set_option maxRecDepth 4000 in
theorem b_X2_takeLeaf_11 {xs : Nat → Int32} {L d : Nat} {S : Nat → Shp} {I : Nat → Nat → Int32} {J : Nat → Nat → Int64} {R : Nat → Nat → Nat} {c : Nat × Nat} {Q : Option (Option Value) → MH → Prop}   (k : Q (some (some (.int 0))) (S, I, J, R, c)) : X xs L (d + 1) 43 11 [.ref 8] [] (S, I, J, R, c) Q := by
  refine X_iconst (v := 0) (show decode (mB 43) 11 = .ok (.iconst 0, 1) by decide +kernel) (pc' := 12) rfl rfl ?_
  exact X_ireturn (ty := .boolean) (show decode (mB 43) 12 = .ok (.ireturn, 1) by decide +kernel) (by decide +kernel) rfl k
set_option maxRecDepth 4000 in
theorem b_X2_takeLeaf_13 {xs : Nat → Int32} {L d : Nat} {S : Nat → Shp} {I : Nat → Nat → Int32} {J : Nat → Nat → Int64} {R : Nat → Nat → Nat} {c : Nat × Nat} {Q : Option (Option Value) → MH → Prop} {q_8_1 : Nat} (hL : Lay S R) (hq_8_1 : R 8 1 = q_8_1) (k : X xs L d 96 0 [.ref 4] [] (S, I, J, R, c) (Kc xs L (d + 1) 43 24 [.ref 8] [.ref q_8_1] Q)) : X xs L (d + 1) 43 13 [.ref 8] [] (S, I, J, R, c) Q := by
  refine X_aload_n (q := 0) (show decode (mB 43) 13 = .ok (.aload_n 0, 1) by decide +kernel) (pc' := 14) rfl rfl rfl ?_
  refine X_getR (ci := 2) (f := 1) (q := q_8_1) (show decode (mB 43) 14 = .ok (.getfield 91, 3) by decide +kernel) (pc' := 17) rfl (ls_8 hL) (by decide +kernel) rfl hq_8_1 ?_
  refine X_aload_n (q := 0) (show decode (mB 43) 17 = .ok (.aload_n 0, 1) by decide +kernel) (pc' := 18) rfl rfl rfl ?_
  refine X_getR (ci := 2) (f := 0) (q := 4) (show decode (mB 43) 18 = .ok (.getfield 35, 3) by decide +kernel) (pc' := 21) rfl (ls_8 hL) (by decide +kernel) rfl (lr_8_0 hL) ?_
  exact X_callV (y := 96) (n := 0) (st := [.ref 4, .ref q_8_1]) (as := [.ref 4]) (rest := [.ref q_8_1]) (ls0 := [.ref 4]) (ci := 8) (show decode (mB 43) 21 = .ok (.invokevirtual 106, 3) by decide +kernel) (pc' := 24) rfl (by decide +kernel) (by decide +kernel) rfl (ls_4 hL) (by decide +kernel) rfl rfl rfl rfl rfl k
set_option maxRecDepth 4000 in
theorem b_X2_takeLeaf_24 {xs : Nat → Int32} {L d : Nat} {S : Nat → Shp} {I : Nat → Nat → Int32} {J : Nat → Nat → Int64} {R : Nat → Nat → Nat} {c : Nat × Nat} {Q : Option (Option Value) → MH → Prop} {sr0 : Nat} {sx1 : Int32} (h_sr0 : LyCd S R sr0) (k : X xs L d 57 0 [.ref sr0, .int sx1] [] (S, I, J, R, c) (Kc xs L (d + 1) 43 27 [.ref 8] [] Q)) : X xs L (d + 1) 43 24 [.ref 8] [.int sx1, .ref sr0] (S, I, J, R, c) Q := by
  exact X_callV (y := 57) (n := 1) (st := [.int sx1, .ref sr0]) (as := [.ref sr0, .int sx1]) (rest := []) (ls0 := [.ref sr0, .int sx1]) (ci := 5) (show decode (mB 43) 24 = .ok (.invokevirtual 109, 3) by decide +kernel) (pc' := 27) rfl (by decide +kernel) (by decide +kernel) rfl h_sr0.s0 (by decide +kernel) rfl rfl rfl rfl rfl k
set_option maxRecDepth 4000 in
theorem b_X2_takeLeaf_27 {xs : Nat → Int32} {L d : Nat} {S : Nat → Shp} {I : Nat → Nat → Int32} {J : Nat → Nat → Int64} {R : Nat → Nat → Nat} {c : Nat × Nat} {Q : Option (Option Value) → MH → Prop}  (hL : Lay S R)  (k : X xs L d 100 0 [.ref 4] [] (S, I, J, R, c) (Kc xs L (d + 1) 43 34 [.ref 8] [] Q)) : X xs L (d + 1) 43 27 [.ref 8] [] (S, I, J, R, c) Q := by
  refine X_aload_n (q := 0) (show decode (mB 43) 27 = .ok (.aload_n 0, 1) by decide +kernel) (pc' := 28) rfl rfl rfl ?_
  refine X_getR (ci := 2) (f := 0) (q := 4) (show decode (mB 43) 28 = .ok (.getfield 35, 3) by decide +kernel) (pc' := 31) rfl (ls_8 hL) (by decide +kernel) rfl (lr_8_0 hL) ?_
  exact X_callV (y := 100) (n := 0) (st := [.ref 4]) (as := [.ref 4]) (rest := []) (ls0 := [.ref 4]) (ci := 8) (show decode (mB 43) 31 = .ok (.invokevirtual 103, 3) by decide +kernel) (pc' := 34) rfl (by decide +kernel) (by decide +kernel) rfl (ls_4 hL) (by decide +kernel) rfl rfl rfl rfl rfl k
set_option maxRecDepth 4000 in
theorem b_X2_takeLeaf_34 {xs : Nat → Int32} {L d : Nat} {S : Nat → Shp} {I : Nat → Nat → Int32} {J : Nat → Nat → Int64} {R : Nat → Nat → Nat} {c : Nat × Nat} {Q : Option (Option Value) → MH → Prop}   (k : Q (some (some (.int 1))) (S, I, J, R, c)) : X xs L (d + 1) 43 34 [.ref 8] [] (S, I, J, R, c) Q := by
  refine X_iconst (v := 1) (show decode (mB 43) 34 = .ok (.iconst 1, 1) by decide +kernel) (pc' := 35) rfl rfl ?_
  exact X_ireturn (ty := .boolean) (show decode (mB 43) 35 = .ok (.ireturn, 1) by decide +kernel) (by decide +kernel) rfl k
set_option maxRecDepth 4000 in
theorem b_X2_putNodesForNames_0 {xs : Nat → Int32} {L d : Nat} {S : Nat → Shp} {I : Nat → Nat → Int32} {J : Nat → Nat → Int64} {R : Nat → Nat → Nat} {c : Nat × Nat} {Q : Option (Option Value) → MH → Prop}   (k : X xs L (d + 1) 44 2 [.ref 8, .int 0, .null, .null] [] (S, I, J, R, c) Q) : X xs L (d + 1) 44 0 [.ref 8, .null, .null, .null] [] (S, I, J, R, c) Q := by
  refine X_iconst (v := 0) (show decode (mB 44) 0 = .ok (.iconst 0, 1) by decide +kernel) (pc' := 1) rfl rfl ?_
  refine X_istore_n (q := 1) (ls' := [.ref 8, .int 0, .null, .null]) (show decode (mB 44) 1 = .ok (.istore_n 1, 1) by decide +kernel) (pc' := 2) rfl rfl rfl ?_
  exact k
set_option maxRecDepth 4000 in
theorem b_X2_putNodesForNames_2 {xs : Nat → Int32} {L d : Nat} {S : Nat → Shp} {I : Nat → Nat → Int32} {J : Nat → Nat → Int64} {R : Nat → Nat → Nat} {c : Nat × Nat} {Q : Option (Option Value) → MH → Prop} {x1 : Int32} {v2 v3 : Value} {q_8_1 : Nat} (hL : Lay S R) (hq_8_1 : R 8 1 = q_8_1) (h_q_8_1 : LyCd S R q_8_1) (kt : (I q_8_1 1) ≤ x1 → X xs L (d + 1) 44 72 [.ref 8, .int x1, v2, v3] [] (S, I, J, R, c) Q) (kf : ¬ ((I q_8_1 1) ≤ x1) → X xs L (d + 1) 44 13 [.ref 8, .int x1, v2, v3] [] (S, I, J, R, c) Q) : X xs L (d + 1) 44 2 [.ref 8, .int x1, v2, v3] [] (S, I, J, R, c) Q := by
  refine X_iload_n (q := 1) (show decode (mB 44) 2 = .ok (.iload_n 1, 1) by decide +kernel) (pc' := 3) rfl rfl rfl ?_
  refine X_aload_n (q := 0) (show decode (mB 44) 3 = .ok (.aload_n 0, 1) by decide +kernel) (pc' := 4) rfl rfl rfl ?_
  refine X_getR (ci := 2) (f := 1) (q := q_8_1) (show decode (mB 44) 4 = .ok (.getfield 91, 3) by decide +kernel) (pc' := 7) rfl (ls_8 hL) (by decide +kernel) rfl hq_8_1 ?_
  refine X_getI (ci := 5) (f := 1) (x := I q_8_1 1) (show decode (mB 44) 7 = .ok (.getfield 92, 3) by decide +kernel) (pc' := 10) rfl h_q_8_1.s0 (by decide +kernel) rfl rfl ?_
  exact X_icmp_ge (tgt := 72) (show decode (mB 44) 10 = .ok (.if_icmp .ge 62, 3) by decide +kernel) rfl (pc' := 13) rfl kt kf
set_option maxRecDepth 4000 in
theorem b_X2_putNodesForNames_13 {xs : Nat → Int32} {L d : Nat} {S : Nat → Shp} {I : Nat → Nat → Int32} {J : Nat → Nat → Int64} {R : Nat → Nat → Nat} {c : Nat × Nat} {Q : Option (Option Value) → MH → Prop} {x1 : Int32} {v2 v3 : Value} {q_8_1 : Nat} (hL : Lay S R) (hq_8_1 : R 8 1 = q_8_1) (h_q_8_1 : LyCd S R q_8_1) (k : X xs L d 58 0 [.ref q_8_1, .int x1] [] (S, I, J, R, c) (Kc xs L (d + 1) 44 21 [.ref 8, .int x1, v2, v3] [] Q)) : X xs L (d + 1) 44 13 [.ref 8, .int x1, v2, v3] [] (S, I, J, R, c) Q := by
  refine X_aload_n (q := 0) (show decode (mB 44) 13 = .ok (.aload_n 0, 1) by decide +kernel) (pc' := 14) rfl rfl rfl ?_
  refine X_getR (ci := 2) (f := 1) (q := q_8_1) (show decode (mB 44) 14 = .ok (.getfield 91, 3) by decide +kernel) (pc' := 17) rfl (ls_8 hL) (by decide +kernel) rfl hq_8_1 ?_
  refine X_iload_n (q := 1) (show decode (mB 44) 17 = .ok (.iload_n 1, 1) by decide +kernel) (pc' := 18) rfl rfl rfl ?_
  exact X_callV (y := 58) (n := 1) (st := [.int x1, .ref q_8_1]) (as := [.ref q_8_1, .int x1]) (rest := []) (ls0 := [.ref q_8_1, .int x1]) (ci := 5) (show decode (mB 44) 18 = .ok (.invokevirtual 113, 3) by decide +kernel) (pc' := 21) rfl (by decide +kernel) (by decide +kernel) rfl h_q_8_1.s0 (by decide +kernel) rfl rfl rfl rfl rfl k
set_option maxRecDepth 4000 in
theorem b_X2_putNodesForNames_21 {xs : Nat → Int32} {L d : Nat} {S : Nat → Shp} {I : Nat → Nat → Int32} {J : Nat → Nat → Int64} {R : Nat → Nat → Nat} {c : Nat × Nat} {Q : Option (Option Value) → MH → Prop} {x1 sx0 : Int32} {v2 v3 : Value}  (kt : sx0 < 0 → X xs L (d + 1) 44 66 [.ref 8, .int x1, .int sx0, v3] [] (S, I, J, R, c) Q) (kf : ¬ (sx0 < 0) → X xs L (d + 1) 44 26 [.ref 8, .int x1, .int sx0, v3] [] (S, I, J, R, c) Q) : X xs L (d + 1) 44 21 [.ref 8, .int x1, v2, v3] [.int sx0] (S, I, J, R, c) Q := by
  refine X_istore_n (q := 2) (ls' := [.ref 8, .int x1, .int sx0, v3]) (show decode (mB 44) 21 = .ok (.istore_n 2, 1) by decide +kernel) (pc' := 22) rfl rfl rfl ?_
  refine X_iload_n (q := 2) (show decode (mB 44) 22 = .ok (.iload_n 2, 1) by decide +kernel) (pc' := 23) rfl rfl rfl ?_
  exact X_if_lt (tgt := 66) (show decode (mB 44) 23 = .ok (.ifCond .lt 43, 3) by decide +kernel) rfl (pc' := 26) rfl kt kf
set_option maxRecDepth 4000 in
theorem b_X2_putNodesForNames_26 {xs : Nat → Int32} {L d : Nat} {S : Nat → Shp} {I : Nat → Nat → Int32} {J : Nat → Nat → Int64} {R : Nat → Nat → Nat} {c : Nat × Nat} {Q : Option (Option Value) → MH → Prop} {x1 x2 : Int32} {v3 : Value} {q_8_6 : Nat} (hL : Lay S R) (hq_8_6 : R 8 6 = q_8_6) (k : X xs L d 98 0 [.ref 4, .int x2] [] (S, I, J, R, c) (Kc xs L (d + 1) 44 38 [.ref 8, .int x1, .int x2, v3] [.ref q_8_6] Q)) : X xs L (d + 1) 44 26 [.ref 8, .int x1, .int x2, v3] [] (S, I, J, R, c) Q := by
  refine X_aload_n (q := 0) (show decode (mB 44) 26 = .ok (.aload_n 0, 1) by decide +kernel) (pc' := 27) rfl rfl rfl ?_
  refine X_getR (ci := 2) (f := 6) (q := q_8_6) (show decode (mB 44) 27 = .ok (.getfield 17, 3) by decide +kernel) (pc' := 30) rfl (ls_8 hL) (by decide +kernel) rfl hq_8_6 ?_
  refine X_aload_n (q := 0) (show decode (mB 44) 30 = .ok (.aload_n 0, 1) by decide +kernel) (pc' := 31) rfl rfl rfl ?_
  refine X_getR (ci := 2) (f := 0) (q := 4) (show decode (mB 44) 31 = .ok (.getfield 35, 3) by decide +kernel) (pc' := 34) rfl (ls_8 hL) (by decide +kernel) rfl (lr_8_0 hL) ?_
  refine X_iload_n (q := 2) (show decode (mB 44) 34 = .ok (.iload_n 2, 1) by decide +kernel) (pc' := 35) rfl rfl rfl ?_
  exact X_callV (y := 98) (n := 1) (st := [.int x2, .ref 4, .ref q_8_6]) (as := [.ref 4, .int x2]) (rest := [.ref q_8_6]) (ls0 := [.ref 4, .int x2]) (ci := 8) (show decode (mB 44) 35 = .ok (.invokevirtual 117, 3) by decide +kernel) (pc' := 38) rfl (by decide +kernel) (by decide +kernel) rfl (ls_4 hL) (by decide +kernel) rfl rfl rfl rfl rfl k
set_option maxRecDepth 4000 in
theorem b_X2_putNodesForNames_38 {xs : Nat → Int32} {L d : Nat} {S : Nat → Shp} {I : Nat → Nat → Int32} {J : Nat → Nat → Int64} {R : Nat → Nat → Nat} {c : Nat × Nat} {Q : Option (Option Value) → MH → Prop} {x1 x2 : Int32} {v3 : Value} {sr0 : Nat} {sy1 : Int64} (h_sr0 : LyCi S R sr0) (k : X xs L d 28 0 [.ref sr0, .long sy1, .null, .null] [] (S, I, J, R, c) (Kc xs L (d + 1) 44 41 [.ref 8, .int x1, .int x2, v3] [] Q)) : X xs L (d + 1) 44 38 [.ref 8, .int x1, .int x2, v3] [.long sy1, .ref sr0] (S, I, J, R, c) Q := by
  exact X_callV (y := 28) (n := 1) (st := [.long sy1, .ref sr0]) (as := [.ref sr0, .long sy1]) (rest := []) (ls0 := [.ref sr0, .long sy1, .null, .null]) (ci := 1) (show decode (mB 44) 38 = .ok (.invokevirtual 121, 3) by decide +kernel) (pc' := 41) rfl (by decide +kernel) (by decide +kernel) rfl h_sr0.s0 (by decide +kernel) rfl rfl rfl rfl rfl k
set_option maxRecDepth 4000 in
theorem b_X2_putNodesForNames_41 {xs : Nat → Int32} {L d : Nat} {S : Nat → Shp} {I : Nat → Nat → Int32} {J : Nat → Nat → Int64} {R : Nat → Nat → Nat} {c : Nat × Nat} {Q : Option (Option Value) → MH → Prop} {x1 x2 sx0 : Int32} {v3 : Value}  (kt : ¬ sx0 = (-2) → X xs L (d + 1) 44 57 [.ref 8, .int x1, .int x2, .int sx0] [] (S, I, J, R, c) Q) (kf : ¬ (¬ sx0 = (-2)) → X xs L (d + 1) 44 48 [.ref 8, .int x1, .int x2, .int sx0] [] (S, I, J, R, c) Q) : X xs L (d + 1) 44 41 [.ref 8, .int x1, .int x2, v3] [.int sx0] (S, I, J, R, c) Q := by
  refine X_istore_n (q := 3) (ls' := [.ref 8, .int x1, .int x2, .int sx0]) (show decode (mB 44) 41 = .ok (.istore_n 3, 1) by decide +kernel) (pc' := 42) rfl rfl rfl ?_
  refine X_iload_n (q := 3) (show decode (mB 44) 42 = .ok (.iload_n 3, 1) by decide +kernel) (pc' := 43) rfl rfl rfl ?_
  refine X_bipush (v := (-2)) (show decode (mB 44) 43 = .ok (.bipush (-2), 2) by decide +kernel) (pc' := 45) rfl (by decide +kernel) ?_
  exact X_icmp_ne (tgt := 57) (show decode (mB 44) 45 = .ok (.if_icmp .ne 12, 3) by decide +kernel) rfl (pc' := 48) rfl kt kf
set_option maxRecDepth 4000 in
theorem b_X2_putNodesForNames_48 {xs : Nat → Int32} {L d : Nat} {S : Nat → Shp} {I : Nat → Nat → Int32} {J : Nat → Nat → Int64} {R : Nat → Nat → Nat} {c : Nat × Nat} {Q : Option (Option Value) → MH → Prop} {x1 x2 x3 : Int32} (hL : Lay S R)  (k : X xs L d 97 0 [.ref 4, .int x2] [] (S, I, J, R, c) (Kc xs L (d + 1) 44 56 [.ref 8, .int x1, .int x2, .int x3] [] Q)) : X xs L (d + 1) 44 48 [.ref 8, .int x1, .int x2, .int x3] [] (S, I, J, R, c) Q := by
  refine X_aload_n (q := 0) (show decode (mB 44) 48 = .ok (.aload_n 0, 1) by decide +kernel) (pc' := 49) rfl rfl rfl ?_
  refine X_getR (ci := 2) (f := 0) (q := 4) (show decode (mB 44) 49 = .ok (.getfield 35, 3) by decide +kernel) (pc' := 52) rfl (ls_8 hL) (by decide +kernel) rfl (lr_8_0 hL) ?_
  refine X_iload_n (q := 2) (show decode (mB 44) 52 = .ok (.iload_n 2, 1) by decide +kernel) (pc' := 53) rfl rfl rfl ?_
  exact X_callV (y := 97) (n := 1) (st := [.int x2, .ref 4]) (as := [.ref 4, .int x2]) (rest := []) (ls0 := [.ref 4, .int x2]) (ci := 8) (show decode (mB 44) 53 = .ok (.invokevirtual 125, 3) by decide +kernel) (pc' := 56) rfl (by decide +kernel) (by decide +kernel) rfl (ls_4 hL) (by decide +kernel) rfl rfl rfl rfl rfl k
set_option maxRecDepth 4000 in
theorem b_X2_putNodesForNames_56 {xs : Nat → Int32} {L d : Nat} {S : Nat → Shp} {I : Nat → Nat → Int32} {J : Nat → Nat → Int64} {R : Nat → Nat → Nat} {c : Nat × Nat} {Q : Option (Option Value) → MH → Prop} {x1 x2 x3 sx0 : Int32}  (k : Q (some (some (.int sx0))) (S, I, J, R, c)) : X xs L (d + 1) 44 56 [.ref 8, .int x1, .int x2, .int x3] [.int sx0] (S, I, J, R, c) Q := by
  exact X_ireturn (ty := .int) (show decode (mB 44) 56 = .ok (.ireturn, 1) by decide +kernel) (by decide +kernel) rfl k
set_option maxRecDepth 4000 in
theorem b_X2_putNodesForNames_57 {xs : Nat → Int32} {L d : Nat} {S : Nat → Shp} {I : Nat → Nat → Int32} {J : Nat → Nat → Int64} {R : Nat → Nat → Nat} {c : Nat × Nat} {Q : Option (Option Value) → MH → Prop} {x1 x2 x3 : Int32} {q_8_1 : Nat} (hL : Lay S R) (hq_8_1 : R 8 1 = q_8_1) (h_q_8_1 : LyCd S R q_8_1) (k : X xs L d 59 0 [.ref q_8_1, .int x1, .int x3] [] (S, I, J, R, c) (Kc xs L (d + 1) 44 66 [.ref 8, .int x1, .int x2, .int x3] [] Q)) : X xs L (d + 1) 44 57 [.ref 8, .int x1, .int x2, .int x3] [] (S, I, J, R, c) Q := by
  refine X_aload_n (q := 0) (show decode (mB 44) 57 = .ok (.aload_n 0, 1) by decide +kernel) (pc' := 58) rfl rfl rfl ?_
  refine X_getR (ci := 2) (f := 1) (q := q_8_1) (show decode (mB 44) 58 = .ok (.getfield 91, 3) by decide +kernel) (pc' := 61) rfl (ls_8 hL) (by decide +kernel) rfl hq_8_1 ?_
  refine X_iload_n (q := 1) (show decode (mB 44) 61 = .ok (.iload_n 1, 1) by decide +kernel) (pc' := 62) rfl rfl rfl ?_
  refine X_iload_n (q := 3) (show decode (mB 44) 62 = .ok (.iload_n 3, 1) by decide +kernel) (pc' := 63) rfl rfl rfl ?_
  exact X_callV (y := 59) (n := 2) (st := [.int x3, .int x1, .ref q_8_1]) (as := [.ref q_8_1, .int x1, .int x3]) (rest := []) (ls0 := [.ref q_8_1, .int x1, .int x3]) (ci := 5) (show decode (mB 44) 63 = .ok (.invokevirtual 128, 3) by decide +kernel) (pc' := 66) rfl (by decide +kernel) (by decide +kernel) rfl h_q_8_1.s0 (by decide +kernel) rfl rfl rfl rfl rfl k
set_option maxRecDepth 4000 in
theorem b_X2_putNodesForNames_66 {xs : Nat → Int32} {L d : Nat} {S : Nat → Shp} {I : Nat → Nat → Int32} {J : Nat → Nat → Int64} {R : Nat → Nat → Nat} {c : Nat × Nat} {Q : Option (Option Value) → MH → Prop} {x1 x2 : Int32} {v3 : Value}  (k : X xs L (d + 1) 44 2 [.ref 8, .int (x1 + 1), .int x2, v3] [] (S, I, J, R, c) Q) : X xs L (d + 1) 44 66 [.ref 8, .int x1, .int x2, v3] [] (S, I, J, R, c) Q := by
  refine X_iinc (q := 1) (v := x1 + 1) (ls' := [.ref 8, .int (x1 + 1), .int x2, v3]) (show decode (mB 44) 66 = .ok (.iinc 1 1, 3) by decide +kernel) (pc' := 69) rfl rfl rfl rfl ?_
  refine X_goto (tgt := 2) (show decode (mB 44) 69 = .ok (.goto (-67), 3) by decide +kernel) rfl ?_
  exact k
set_option maxRecDepth 4000 in
theorem b_X2_putNodesForNames_72 {xs : Nat → Int32} {L d : Nat} {S : Nat → Shp} {I : Nat → Nat → Int32} {J : Nat → Nat → Int64} {R : Nat → Nat → Nat} {c : Nat × Nat} {Q : Option (Option Value) → MH → Prop} {x1 : Int32} {v2 v3 : Value}  (k : Q (some (some (.int (-2)))) (S, I, J, R, c)) : X xs L (d + 1) 44 72 [.ref 8, .int x1, v2, v3] [] (S, I, J, R, c) Q := by
  refine X_bipush (v := (-2)) (show decode (mB 44) 72 = .ok (.bipush (-2), 2) by decide +kernel) (pc' := 74) rfl (by decide +kernel) ?_
  exact X_ireturn (ty := .int) (show decode (mB 44) 74 = .ok (.ireturn, 1) by decide +kernel) (by decide +kernel) rfl k
set_option maxRecDepth 4000 in
theorem b_X4_read_0 {xs : Nat → Int32} {L d : Nat} {S : Nat → Shp} {I : Nat → Nat → Int32} {J : Nat → Nat → Int64} {R : Nat → Nat → Nat} {c : Nat × Nat} {Q : Option (Option Value) → MH → Prop} {r1 r2 : Nat} (hL : Lay S R) (h_r1 : LyCm S R r1) (k : X xs L d 46 0 [.ref r1] [] (S, I, J, (u2 (u2 R 11 6 r1) 11 7 r2), c) (Kc xs L (d + 1) 50 17 [.ref 11, .ref r1, .ref r2, .null] [] Q)) : X xs L (d + 1) 50 0 [.ref 11, .ref r1, .ref r2, .null] [] (S, I, J, R, c) Q := by
  refine X_aload_n (q := 0) (show decode (mB 50) 0 = .ok (.aload_n 0, 1) by decide +kernel) (pc' := 1) rfl rfl rfl ?_
  refine X_aload_n (q := 1) (show decode (mB 50) 1 = .ok (.aload_n 1, 1) by decide +kernel) (pc' := 2) rfl rfl rfl ?_
  refine X_putR (ci := 4) (f := 6) (show decode (mB 50) 2 = .ok (.putfield 9, 3) by decide +kernel) (pc' := 5) rfl (ls_11 hL) (by decide +kernel) (by decide +kernel) rfl ?_
  refine X_aload_n (q := 0) (show decode (mB 50) 5 = .ok (.aload_n 0, 1) by decide +kernel) (pc' := 6) rfl rfl rfl ?_
  refine X_aload_n (q := 2) (show decode (mB 50) 6 = .ok (.aload_n 2, 1) by decide +kernel) (pc' := 7) rfl rfl rfl ?_
  refine X_putR (ci := 4) (f := 7) (show decode (mB 50) 7 = .ok (.putfield 15, 3) by decide +kernel) (pc' := 10) rfl (ls_11 hL) (by decide +kernel) (by decide +kernel) rfl ?_
  refine X_aload_n (q := 0) (show decode (mB 50) 10 = .ok (.aload_n 0, 1) by decide +kernel) (pc' := 11) rfl rfl rfl ?_
  refine X_getR (ci := 4) (f := 6) (q := r1) (show decode (mB 50) 11 = .ok (.getfield 9, 3) by decide +kernel) (pc' := 14) rfl (ls_11 hL) (by decide +kernel) rfl (by simp [u2, u1]) ?_
  exact X_callV (y := 46) (n := 0) (st := [.ref r1]) (as := [.ref r1]) (rest := []) (ls0 := [.ref r1]) (ci := 3) (show decode (mB 50) 14 = .ok (.invokevirtual 19, 3) by decide +kernel) (pc' := 17) rfl (by decide +kernel) (by decide +kernel) rfl h_r1.s0 (by decide +kernel) rfl rfl rfl rfl rfl k
set_option maxRecDepth 4000 in
theorem b_X4_read_17 {xs : Nat → Int32} {L d : Nat} {S : Nat → Shp} {I : Nat → Nat → Int32} {J : Nat → Nat → Int64} {R : Nat → Nat → Nat} {c : Nat × Nat} {Q : Option (Option Value) → MH → Prop} {r1 r2 q_11_6 : Nat} (hL : Lay S R) (hq_11_6 : R 11 6 = q_11_6) (h_q_11_6 : LyCm S R q_11_6) (k : X xs L d 61 0 [.ref 11, .ref (q_11_6 + 8)] [] (S, I, J, R, c) (Kc xs L (d + 1) 50 28 [.ref 11, .ref r1, .ref r2, .null] [] Q)) : X xs L (d + 1) 50 17 [.ref 11, .ref r1, .ref r2, .null] [] (S, I, J, R, c) Q := by
  refine X_aload_n (q := 0) (show decode (mB 50) 17 = .ok (.aload_n 0, 1) by decide +kernel) (pc' := 18) rfl rfl rfl ?_
  refine X_aload_n (q := 0) (show decode (mB 50) 18 = .ok (.aload_n 0, 1) by decide +kernel) (pc' := 19) rfl rfl rfl ?_
  refine X_getR (ci := 4) (f := 6) (q := q_11_6) (show decode (mB 50) 19 = .ok (.getfield 9, 3) by decide +kernel) (pc' := 22) rfl (ls_11 hL) (by decide +kernel) rfl hq_11_6 ?_
  refine X_getR (ci := 3) (f := 11) (q := (q_11_6 + 8)) (show decode (mB 50) 22 = .ok (.getfield 25, 3) by decide +kernel) (pc' := 25) rfl h_q_11_6.s0 (by decide +kernel) rfl h_q_11_6.r0_11 ?_
  exact X_callV (y := 61) (n := 1) (st := [.ref (q_11_6 + 8), .ref 11]) (as := [.ref 11, .ref (q_11_6 + 8)]) (rest := []) (ls0 := [.ref 11, .ref (q_11_6 + 8)]) (ci := 4) (show decode (mB 50) 25 = .ok (.invokevirtual 29, 3) by decide +kernel) (pc' := 28) rfl (by decide +kernel) (by decide +kernel) rfl (ls_11 hL) (by decide +kernel) rfl rfl rfl rfl rfl k
set_option maxRecDepth 4000 in
theorem b_X4_read_28 {xs : Nat → Int32} {L d : Nat} {S : Nat → Shp} {I : Nat → Nat → Int32} {J : Nat → Nat → Int64} {R : Nat → Nat → Nat} {c : Nat × Nat} {Q : Option (Option Value) → MH → Prop} {r1 r2 : Nat} (hL : Lay S R)  (k : X xs L d 63 0 [.ref 11, .long 444150998382, .null] [] (S, I, J, R, c) (Kc xs L (d + 1) 50 35 [.ref 11, .ref r1, .ref r2, .null] [] Q)) : X xs L (d + 1) 50 28 [.ref 11, .ref r1, .ref r2, .null] [] (S, I, J, R, c) Q := by
  refine X_aload_n (q := 0) (show decode (mB 50) 28 = .ok (.aload_n 0, 1) by decide +kernel) (pc' := 29) rfl rfl rfl ?_
  refine X_ldc2 (v := 444150998382) (show decode (mB 50) 29 = .ok (.ldc2_w 35, 3) by decide +kernel) (pc' := 32) rfl (by decide +kernel) ?_
  exact X_callV (y := 63) (n := 1) (st := [.long 444150998382, .ref 11]) (as := [.ref 11, .long 444150998382]) (rest := []) (ls0 := [.ref 11, .long 444150998382, .null]) (ci := 4) (show decode (mB 50) 32 = .ok (.invokevirtual 37, 3) by decide +kernel) (pc' := 35) rfl (by decide +kernel) (by decide +kernel) rfl (ls_11 hL) (by decide +kernel) rfl rfl rfl rfl rfl k
set_option maxRecDepth 4000 in
theorem b_X4_read_35 {xs : Nat → Int32} {L d : Nat} {S : Nat → Shp} {I : Nat → Nat → Int32} {J : Nat → Nat → Int64} {R : Nat → Nat → Nat} {c : Nat × Nat} {Q : Option (Option Value) → MH → Prop} {r1 r2 : Nat} {sx0 : Int32}  (kt : sx0 = 0 → X xs L (d + 1) 50 49 [.ref 11, .ref r1, .ref r2, .null] [] (S, I, J, R, c) Q) (kf : ¬ (sx0 = 0) → X xs L (d + 1) 50 38 [.ref 11, .ref r1, .ref r2, .null] [] (S, I, J, R, c) Q) : X xs L (d + 1) 50 35 [.ref 11, .ref r1, .ref r2, .null] [.int sx0] (S, I, J, R, c) Q := by
  exact X_if_eq (tgt := 49) (show decode (mB 50) 35 = .ok (.ifCond .eq 14, 3) by decide +kernel) rfl (pc' := 38) rfl kt kf
set_option maxRecDepth 4000 in
theorem b_X4_read_38 {xs : Nat → Int32} {L d : Nat} {S : Nat → Shp} {I : Nat → Nat → Int32} {J : Nat → Nat → Int64} {R : Nat → Nat → Nat} {c : Nat × Nat} {Q : Option (Option Value) → MH → Prop} {r1 r2 : Nat} (hL : Lay S R)  (k : X xs L d 51 0 [.ref 11, .null] [] (S, I, J, R, c) (Kc xs L (d + 1) 50 42 [.ref 11, .ref r1, .ref r2, .null] [] Q)) : X xs L (d + 1) 50 38 [.ref 11, .ref r1, .ref r2, .null] [] (S, I, J, R, c) Q := by
  refine X_aload_n (q := 0) (show decode (mB 50) 38 = .ok (.aload_n 0, 1) by decide +kernel) (pc' := 39) rfl rfl rfl ?_
  exact X_callV (y := 51) (n := 0) (st := [.ref 11]) (as := [.ref 11]) (rest := []) (ls0 := [.ref 11, .null]) (ci := 4) (show decode (mB 50) 39 = .ok (.invokevirtual 41, 3) by decide +kernel) (pc' := 42) rfl (by decide +kernel) (by decide +kernel) rfl (ls_11 hL) (by decide +kernel) rfl rfl rfl rfl rfl k
set_option maxRecDepth 4000 in
theorem b_X4_read_42 {xs : Nat → Int32} {L d : Nat} {S : Nat → Shp} {I : Nat → Nat → Int32} {J : Nat → Nat → Int64} {R : Nat → Nat → Nat} {c : Nat × Nat} {Q : Option (Option Value) → MH → Prop} {r1 r2 : Nat} {sx0 : Int32}  (kt : sx0 = 0 → X xs L (d + 1) 50 49 [.ref 11, .ref r1, .ref r2, .null] [] (S, I, J, R, c) Q) (kf : ¬ (sx0 = 0) → X xs L (d + 1) 50 45 [.ref 11, .ref r1, .ref r2, .null] [] (S, I, J, R, c) Q) : X xs L (d + 1) 50 42 [.ref 11, .ref r1, .ref r2, .null] [.int sx0] (S, I, J, R, c) Q := by
  exact X_if_eq (tgt := 49) (show decode (mB 50) 42 = .ok (.ifCond .eq 7, 3) by decide +kernel) rfl (pc' := 45) rfl kt kf
set_option maxRecDepth 4000 in
theorem b_X4_read_45 {xs : Nat → Int32} {L d : Nat} {S : Nat → Shp} {I : Nat → Nat → Int32} {J : Nat → Nat → Int64} {R : Nat → Nat → Nat} {c : Nat × Nat} {Q : Option (Option Value) → MH → Prop} {r1 r2 : Nat}  (k : X xs L (d + 1) 50 50 [.ref 11, .ref r1, .ref r2, .null] [.int 1] (S, I, J, R, c) Q) : X xs L (d + 1) 50 45 [.ref 11, .ref r1, .ref r2, .null] [] (S, I, J, R, c) Q := by
  refine X_iconst (v := 1) (show decode (mB 50) 45 = .ok (.iconst 1, 1) by decide +kernel) (pc' := 46) rfl rfl ?_
  refine X_goto (tgt := 50) (show decode (mB 50) 46 = .ok (.goto 4, 3) by decide +kernel) rfl ?_
  exact k
set_option maxRecDepth 4000 in
theorem b_X4_read_49 {xs : Nat → Int32} {L d : Nat} {S : Nat → Shp} {I : Nat → Nat → Int32} {J : Nat → Nat → Int64} {R : Nat → Nat → Nat} {c : Nat × Nat} {Q : Option (Option Value) → MH → Prop} {r1 r2 : Nat}  (k : X xs L (d + 1) 50 50 [.ref 11, .ref r1, .ref r2, .null] [.int 0] (S, I, J, R, c) Q) : X xs L (d + 1) 50 49 [.ref 11, .ref r1, .ref r2, .null] [] (S, I, J, R, c) Q := by
  refine X_iconst (v := 0) (show decode (mB 50) 49 = .ok (.iconst 0, 1) by decide +kernel) (pc' := 50) rfl rfl ?_
  exact k
set_option maxRecDepth 4000 in
theorem b_X4_read_50 {xs : Nat → Int32} {L d : Nat} {S : Nat → Shp} {I : Nat → Nat → Int32} {J : Nat → Nat → Int64} {R : Nat → Nat → Nat} {c : Nat × Nat} {Q : Option (Option Value) → MH → Prop} {r1 r2 q_11_6 : Nat} {sx0 : Int32} (hL : Lay S R) (hq_11_6 : R 11 6 = q_11_6) (h_q_11_6 : LyCm S R q_11_6) (kt : sx0 = 0 → X xs L (d + 1) 50 90 [.ref 11, .ref r1, .ref r2, .int sx0] [] (S, (u2 I q_11_6 2 (I q_11_6 3)), J, R, c) Q) (kf : ¬ (sx0 = 0) → X xs L (d + 1) 50 69 [.ref 11, .ref r1, .ref r2, .int sx0] [] (S, (u2 I q_11_6 2 (I q_11_6 3)), J, R, c) Q) : X xs L (d + 1) 50 50 [.ref 11, .ref r1, .ref r2, .null] [.int sx0] (S, I, J, R, c) Q := by
  refine X_istore_n (q := 3) (ls' := [.ref 11, .ref r1, .ref r2, .int sx0]) (show decode (mB 50) 50 = .ok (.istore_n 3, 1) by decide +kernel) (pc' := 51) rfl rfl rfl ?_
  refine X_aload_n (q := 0) (show decode (mB 50) 51 = .ok (.aload_n 0, 1) by decide +kernel) (pc' := 52) rfl rfl rfl ?_
  refine X_getR (ci := 4) (f := 6) (q := q_11_6) (show decode (mB 50) 52 = .ok (.getfield 9, 3) by decide +kernel) (pc' := 55) rfl (ls_11 hL) (by decide +kernel) rfl hq_11_6 ?_
  refine X_aload_n (q := 0) (show decode (mB 50) 55 = .ok (.aload_n 0, 1) by decide +kernel) (pc' := 56) rfl rfl rfl ?_
  refine X_getR (ci := 4) (f := 6) (q := q_11_6) (show decode (mB 50) 56 = .ok (.getfield 9, 3) by decide +kernel) (pc' := 59) rfl (ls_11 hL) (by decide +kernel) rfl hq_11_6 ?_
  refine X_getI (ci := 3) (f := 3) (x := I q_11_6 3) (show decode (mB 50) 59 = .ok (.getfield 45, 3) by decide +kernel) (pc' := 62) rfl h_q_11_6.s0 (by decide +kernel) rfl rfl ?_
  refine X_putI (ci := 3) (f := 2) (show decode (mB 50) 62 = .ok (.putfield 49, 3) by decide +kernel) (pc' := 65) rfl h_q_11_6.s0 (by decide +kernel) (by decide +kernel) rfl ?_
  refine X_iload_n (q := 3) (show decode (mB 50) 65 = .ok (.iload_n 3, 1) by decide +kernel) (pc' := 66) rfl rfl rfl ?_
  exact X_if_eq (tgt := 90) (show decode (mB 50) 66 = .ok (.ifCond .eq 24, 3) by decide +kernel) rfl (pc' := 69) rfl kt kf
set_option maxRecDepth 4000 in
theorem b_X4_read_69 {xs : Nat → Int32} {L d : Nat} {S : Nat → Shp} {I : Nat → Nat → Int32} {J : Nat → Nat → Int64} {R : Nat → Nat → Nat} {c : Nat × Nat} {Q : Option (Option Value) → MH → Prop} {r1 r2 : Nat} {x3 : Int32} (hL : Lay S R)  (k : X xs L d 63 0 [.ref 11, .long 1952998766, .null] [] (S, I, J, R, c) (Kc xs L (d + 1) 50 76 [.ref 11, .ref r1, .ref r2, .int x3] [] Q)) : X xs L (d + 1) 50 69 [.ref 11, .ref r1, .ref r2, .int x3] [] (S, I, J, R, c) Q := by
  refine X_aload_n (q := 0) (show decode (mB 50) 69 = .ok (.aload_n 0, 1) by decide +kernel) (pc' := 70) rfl rfl rfl ?_
  refine X_ldc2 (v := 1952998766) (show decode (mB 50) 70 = .ok (.ldc2_w 52, 3) by decide +kernel) (pc' := 73) rfl (by decide +kernel) ?_
  exact X_callV (y := 63) (n := 1) (st := [.long 1952998766, .ref 11]) (as := [.ref 11, .long 1952998766]) (rest := []) (ls0 := [.ref 11, .long 1952998766, .null]) (ci := 4) (show decode (mB 50) 73 = .ok (.invokevirtual 37, 3) by decide +kernel) (pc' := 76) rfl (by decide +kernel) (by decide +kernel) rfl (ls_11 hL) (by decide +kernel) rfl rfl rfl rfl rfl k
set_option maxRecDepth 4000 in
theorem b_X4_read_76 {xs : Nat → Int32} {L d : Nat} {S : Nat → Shp} {I : Nat → Nat → Int32} {J : Nat → Nat → Int64} {R : Nat → Nat → Nat} {c : Nat × Nat} {Q : Option (Option Value) → MH → Prop} {r1 r2 : Nat} {x3 sx0 : Int32}  (kt : sx0 = 0 → X xs L (d + 1) 50 90 [.ref 11, .ref r1, .ref r2, .int x3] [] (S, I, J, R, c) Q) (kf : ¬ (sx0 = 0) → X xs L (d + 1) 50 79 [.ref 11, .ref r1, .ref r2, .int x3] [] (S, I, J, R, c) Q) : X xs L (d + 1) 50 76 [.ref 11, .ref r1, .ref r2, .int x3] [.int sx0] (S, I, J, R, c) Q := by
  exact X_if_eq (tgt := 90) (show decode (mB 50) 76 = .ok (.ifCond .eq 14, 3) by decide +kernel) rfl (pc' := 79) rfl kt kf
set_option maxRecDepth 4000 in
theorem b_X4_read_79 {xs : Nat → Int32} {L d : Nat} {S : Nat → Shp} {I : Nat → Nat → Int32} {J : Nat → Nat → Int64} {R : Nat → Nat → Nat} {c : Nat × Nat} {Q : Option (Option Value) → MH → Prop} {r1 r2 : Nat} {x3 : Int32} (hL : Lay S R)  (k : X xs L d 51 0 [.ref 11, .null] [] (S, I, J, R, c) (Kc xs L (d + 1) 50 83 [.ref 11, .ref r1, .ref r2, .int x3] [] Q)) : X xs L (d + 1) 50 79 [.ref 11, .ref r1, .ref r2, .int x3] [] (S, I, J, R, c) Q := by
  refine X_aload_n (q := 0) (show decode (mB 50) 79 = .ok (.aload_n 0, 1) by decide +kernel) (pc' := 80) rfl rfl rfl ?_
  exact X_callV (y := 51) (n := 0) (st := [.ref 11]) (as := [.ref 11]) (rest := []) (ls0 := [.ref 11, .null]) (ci := 4) (show decode (mB 50) 80 = .ok (.invokevirtual 41, 3) by decide +kernel) (pc' := 83) rfl (by decide +kernel) (by decide +kernel) rfl (ls_11 hL) (by decide +kernel) rfl rfl rfl rfl rfl k
set_option maxRecDepth 4000 in
theorem b_X4_read_83 {xs : Nat → Int32} {L d : Nat} {S : Nat → Shp} {I : Nat → Nat → Int32} {J : Nat → Nat → Int64} {R : Nat → Nat → Nat} {c : Nat × Nat} {Q : Option (Option Value) → MH → Prop} {r1 r2 : Nat} {x3 sx0 : Int32}  (kt : sx0 = 0 → X xs L (d + 1) 50 90 [.ref 11, .ref r1, .ref r2, .int x3] [] (S, I, J, R, c) Q) (kf : ¬ (sx0 = 0) → X xs L (d + 1) 50 86 [.ref 11, .ref r1, .ref r2, .int x3] [] (S, I, J, R, c) Q) : X xs L (d + 1) 50 83 [.ref 11, .ref r1, .ref r2, .int x3] [.int sx0] (S, I, J, R, c) Q := by
  exact X_if_eq (tgt := 90) (show decode (mB 50) 83 = .ok (.ifCond .eq 7, 3) by decide +kernel) rfl (pc' := 86) rfl kt kf
set_option maxRecDepth 4000 in
theorem b_X4_read_86 {xs : Nat → Int32} {L d : Nat} {S : Nat → Shp} {I : Nat → Nat → Int32} {J : Nat → Nat → Int64} {R : Nat → Nat → Nat} {c : Nat × Nat} {Q : Option (Option Value) → MH → Prop} {r1 r2 : Nat} {x3 : Int32}  (k : X xs L (d + 1) 50 91 [.ref 11, .ref r1, .ref r2, .int x3] [.int 1] (S, I, J, R, c) Q) : X xs L (d + 1) 50 86 [.ref 11, .ref r1, .ref r2, .int x3] [] (S, I, J, R, c) Q := by
  refine X_iconst (v := 1) (show decode (mB 50) 86 = .ok (.iconst 1, 1) by decide +kernel) (pc' := 87) rfl rfl ?_
  refine X_goto (tgt := 91) (show decode (mB 50) 87 = .ok (.goto 4, 3) by decide +kernel) rfl ?_
  exact k
set_option maxRecDepth 4000 in
theorem b_X4_read_90 {xs : Nat → Int32} {L d : Nat} {S : Nat → Shp} {I : Nat → Nat → Int32} {J : Nat → Nat → Int64} {R : Nat → Nat → Nat} {c : Nat × Nat} {Q : Option (Option Value) → MH → Prop} {r1 r2 : Nat} {x3 : Int32}  (k : X xs L (d + 1) 50 91 [.ref 11, .ref r1, .ref r2, .int x3] [.int 0] (S, I, J, R, c) Q) : X xs L (d + 1) 50 90 [.ref 11, .ref r1, .ref r2, .int x3] [] (S, I, J, R, c) Q := by
  refine X_iconst (v := 0) (show decode (mB 50) 90 = .ok (.iconst 0, 1) by decide +kernel) (pc' := 91) rfl rfl ?_
  exact k
set_option maxRecDepth 4000 in
theorem b_X4_read_91 {xs : Nat → Int32} {L d : Nat} {S : Nat → Shp} {I : Nat → Nat → Int32} {J : Nat → Nat → Int64} {R : Nat → Nat → Nat} {c : Nat × Nat} {Q : Option (Option Value) → MH → Prop} {r1 r2 : Nat} {x3 sx0 : Int32}  (kt : sx0 = 0 → X xs L (d + 1) 50 119 [.ref 11, .ref r1, .ref r2, .int sx0] [] (S, I, J, R, c) Q) (kf : ¬ (sx0 = 0) → X xs L (d + 1) 50 96 [.ref 11, .ref r1, .ref r2, .int sx0] [] (S, I, J, R, c) Q) : X xs L (d + 1) 50 91 [.ref 11, .ref r1, .ref r2, .int x3] [.int sx0] (S, I, J, R, c) Q := by
  refine X_istore_n (q := 3) (ls' := [.ref 11, .ref r1, .ref r2, .int sx0]) (show decode (mB 50) 91 = .ok (.istore_n 3, 1) by decide +kernel) (pc' := 92) rfl rfl rfl ?_
  refine X_iload_n (q := 3) (show decode (mB 50) 92 = .ok (.iload_n 3, 1) by decide +kernel) (pc' := 93) rfl rfl rfl ?_
  exact X_if_eq (tgt := 119) (show decode (mB 50) 93 = .ok (.ifCond .eq 26, 3) by decide +kernel) rfl (pc' := 96) rfl kt kf
set_option maxRecDepth 4000 in
theorem b_X4_read_96 {xs : Nat → Int32} {L d : Nat} {S : Nat → Shp} {I : Nat → Nat → Int32} {J : Nat → Nat → Int64} {R : Nat → Nat → Nat} {c : Nat × Nat} {Q : Option (Option Value) → MH → Prop} {r1 r2 : Nat} {x3 : Int32} (hL : Lay S R)  (k : X xs L d 62 0 [.ref 11, .int 46] [] (S, I, J, R, c) (Kc xs L (d + 1) 50 102 [.ref 11, .ref r1, .ref r2, .int x3] [] Q)) : X xs L (d + 1) 50 96 [.ref 11, .ref r1, .ref r2, .int x3] [] (S, I, J, R, c) Q := by
  refine X_aload_n (q := 0) (show decode (mB 50) 96 = .ok (.aload_n 0, 1) by decide +kernel) (pc' := 97) rfl rfl rfl ?_
  refine X_bipush (v := 46) (show decode (mB 50) 97 = .ok (.bipush 46, 2) by decide +kernel) (pc' := 99) rfl (by decide +kernel) ?_
  exact X_callV (y := 62) (n := 1) (st := [.int 46, .ref 11]) (as := [.ref 11, .int 46]) (rest := []) (ls0 := [.ref 11, .int 46]) (ci := 4) (show decode (mB 50) 99 = .ok (.invokevirtual 54, 3) by decide +kernel) (pc' := 102) rfl (by decide +kernel) (by decide +kernel) rfl (ls_11 hL) (by decide +kernel) rfl rfl rfl rfl rfl k
set_option maxRecDepth 4000 in
theorem b_X4_read_102 {xs : Nat → Int32} {L d : Nat} {S : Nat → Shp} {I : Nat → Nat → Int32} {J : Nat → Nat → Int64} {R : Nat → Nat → Nat} {c : Nat × Nat} {Q : Option (Option Value) → MH → Prop} {r1 r2 : Nat} {x3 sx0 : Int32}  (kt : sx0 = 0 → X xs L (d + 1) 50 119 [.ref 11, .ref r1, .ref r2, .int x3] [] (S, I, J, R, c) Q) (kf : ¬ (sx0 = 0) → X xs L (d + 1) 50 105 [.ref 11, .ref r1, .ref r2, .int x3] [] (S, I, J, R, c) Q) : X xs L (d + 1) 50 102 [.ref 11, .ref r1, .ref r2, .int x3] [.int sx0] (S, I, J, R, c) Q := by
  exact X_if_eq (tgt := 119) (show decode (mB 50) 102 = .ok (.ifCond .eq 17, 3) by decide +kernel) rfl (pc' := 105) rfl kt kf
set_option maxRecDepth 4000 in
theorem b_X4_read_105 {xs : Nat → Int32} {L d : Nat} {S : Nat → Shp} {I : Nat → Nat → Int32} {J : Nat → Nat → Int64} {R : Nat → Nat → Nat} {c : Nat × Nat} {Q : Option (Option Value) → MH → Prop} {r1 r2 : Nat} {x3 : Int32} (hL : Lay S R)  (k : X xs L d 93 0 [.ref 4] [] (S, I, J, R, c) (Kc xs L (d + 1) 50 112 [.ref 11, .ref r1, .ref r2, .int x3] [] Q)) : X xs L (d + 1) 50 105 [.ref 11, .ref r1, .ref r2, .int x3] [] (S, I, J, R, c) Q := by
  refine X_aload_n (q := 0) (show decode (mB 50) 105 = .ok (.aload_n 0, 1) by decide +kernel) (pc' := 106) rfl rfl rfl ?_
  refine X_getR (ci := 4) (f := 0) (q := 4) (show decode (mB 50) 106 = .ok (.getfield 58, 3) by decide +kernel) (pc' := 109) rfl (ls_11 hL) (by decide +kernel) rfl (lr_11_0 hL) ?_
  exact X_callV (y := 93) (n := 0) (st := [.ref 4]) (as := [.ref 4]) (rest := []) (ls0 := [.ref 4]) (ci := 8) (show decode (mB 50) 109 = .ok (.invokevirtual 62, 3) by decide +kernel) (pc' := 112) rfl (by decide +kernel) (by decide +kernel) rfl (ls_4 hL) (by decide +kernel) rfl rfl rfl rfl rfl k
set_option maxRecDepth 4000 in
theorem b_X4_read_112 {xs : Nat → Int32} {L d : Nat} {S : Nat → Shp} {I : Nat → Nat → Int32} {J : Nat → Nat → Int64} {R : Nat → Nat → Nat} {c : Nat × Nat} {Q : Option (Option Value) → MH → Prop} {r1 r2 : Nat} {x3 sx0 : Int32}  (kt : ¬ sx0 = 0 → X xs L (d + 1) 50 119 [.ref 11, .ref r1, .ref r2, .int x3] [] (S, I, J, R, c) Q) (kf : ¬ (¬ sx0 = 0) → X xs L (d + 1) 50 115 [.ref 11, .ref r1, .ref r2, .int x3] [] (S, I, J, R, c) Q) : X xs L (d + 1) 50 112 [.ref 11, .ref r1, .ref r2, .int x3] [.int sx0] (S, I, J, R, c) Q := by
  exact X_if_ne (tgt := 119) (show decode (mB 50) 112 = .ok (.ifCond .ne 7, 3) by decide +kernel) rfl (pc' := 115) rfl kt kf
set_option maxRecDepth 4000 in
theorem b_X4_read_115 {xs : Nat → Int32} {L d : Nat} {S : Nat → Shp} {I : Nat → Nat → Int32} {J : Nat → Nat → Int64} {R : Nat → Nat → Nat} {c : Nat × Nat} {Q : Option (Option Value) → MH → Prop} {r1 r2 : Nat} {x3 : Int32}  (k : X xs L (d + 1) 50 120 [.ref 11, .ref r1, .ref r2, .int x3] [.int 1] (S, I, J, R, c) Q) : X xs L (d + 1) 50 115 [.ref 11, .ref r1, .ref r2, .int x3] [] (S, I, J, R, c) Q := by
  refine X_iconst (v := 1) (show decode (mB 50) 115 = .ok (.iconst 1, 1) by decide +kernel) (pc' := 116) rfl rfl ?_
  refine X_goto (tgt := 120) (show decode (mB 50) 116 = .ok (.goto 4, 3) by decide +kernel) rfl ?_
  exact k
set_option maxRecDepth 4000 in
theorem b_X4_read_119 {xs : Nat → Int32} {L d : Nat} {S : Nat → Shp} {I : Nat → Nat → Int32} {J : Nat → Nat → Int64} {R : Nat → Nat → Nat} {c : Nat × Nat} {Q : Option (Option Value) → MH → Prop} {r1 r2 : Nat} {x3 : Int32}  (k : X xs L (d + 1) 50 120 [.ref 11, .ref r1, .ref r2, .int x3] [.int 0] (S, I, J, R, c) Q) : X xs L (d + 1) 50 119 [.ref 11, .ref r1, .ref r2, .int x3] [] (S, I, J, R, c) Q := by
  refine X_iconst (v := 0) (show decode (mB 50) 119 = .ok (.iconst 0, 1) by decide +kernel) (pc' := 120) rfl rfl ?_
  exact k
set_option maxRecDepth 4000 in
theorem b_X4_read_120 {xs : Nat → Int32} {L d : Nat} {S : Nat → Shp} {I : Nat → Nat → Int32} {J : Nat → Nat → Int64} {R : Nat → Nat → Nat} {c : Nat × Nat} {Q : Option (Option Value) → MH → Prop} {r1 r2 : Nat} {x3 sx0 : Int32}  (kt : sx0 = 0 → X xs L (d + 1) 50 130 [.ref 11, .ref r1, .ref r2, .int sx0] [] (S, I, J, R, c) Q) (kf : ¬ (sx0 = 0) → X xs L (d + 1) 50 125 [.ref 11, .ref r1, .ref r2, .int sx0] [] (S, I, J, R, c) Q) : X xs L (d + 1) 50 120 [.ref 11, .ref r1, .ref r2, .int x3] [.int sx0] (S, I, J, R, c) Q := by
  refine X_istore_n (q := 3) (ls' := [.ref 11, .ref r1, .ref r2, .int sx0]) (show decode (mB 50) 120 = .ok (.istore_n 3, 1) by decide +kernel) (pc' := 121) rfl rfl rfl ?_
  refine X_iload_n (q := 3) (show decode (mB 50) 121 = .ok (.iload_n 3, 1) by decide +kernel) (pc' := 122) rfl rfl rfl ?_
  exact X_if_eq (tgt := 130) (show decode (mB 50) 122 = .ok (.ifCond .eq 8, 3) by decide +kernel) rfl (pc' := 125) rfl kt kf
set_option maxRecDepth 4000 in
theorem b_X4_read_125 {xs : Nat → Int32} {L d : Nat} {S : Nat → Shp} {I : Nat → Nat → Int32} {J : Nat → Nat → Int64} {R : Nat → Nat → Nat} {c : Nat × Nat} {Q : Option (Option Value) → MH → Prop} {r1 r2 : Nat} {x3 : Int32}  (k : X xs L (d + 1) 50 137 [.ref 11, .ref r1, .ref r2, .int x3] [.int (-2)] (S, I, J, R, c) Q) : X xs L (d + 1) 50 125 [.ref 11, .ref r1, .ref r2, .int x3] [] (S, I, J, R, c) Q := by
  refine X_bipush (v := (-2)) (show decode (mB 50) 125 = .ok (.bipush (-2), 2) by decide +kernel) (pc' := 127) rfl (by decide +kernel) ?_
  refine X_goto (tgt := 137) (show decode (mB 50) 127 = .ok (.goto 10, 3) by decide +kernel) rfl ?_
  exact k
set_option maxRecDepth 4000 in
theorem b_X4_read_130 {xs : Nat → Int32} {L d : Nat} {S : Nat → Shp} {I : Nat → Nat → Int32} {J : Nat → Nat → Int64} {R : Nat → Nat → Nat} {c : Nat × Nat} {Q : Option (Option Value) → MH → Prop} {r1 r2 : Nat} {x3 : Int32} (hL : Lay S R)  (k : X xs L d 94 0 [.ref 4] [] (S, I, J, R, c) (Kc xs L (d + 1) 50 137 [.ref 11, .ref r1, .ref r2, .int x3] [] Q)) : X xs L (d + 1) 50 130 [.ref 11, .ref r1, .ref r2, .int x3] [] (S, I, J, R, c) Q := by
  refine X_aload_n (q := 0) (show decode (mB 50) 130 = .ok (.aload_n 0, 1) by decide +kernel) (pc' := 131) rfl rfl rfl ?_
  refine X_getR (ci := 4) (f := 0) (q := 4) (show decode (mB 50) 131 = .ok (.getfield 58, 3) by decide +kernel) (pc' := 134) rfl (ls_11 hL) (by decide +kernel) rfl (lr_11_0 hL) ?_
  exact X_callV (y := 94) (n := 0) (st := [.ref 4]) (as := [.ref 4]) (rest := []) (ls0 := [.ref 4]) (ci := 8) (show decode (mB 50) 134 = .ok (.invokevirtual 66, 3) by decide +kernel) (pc' := 137) rfl (by decide +kernel) (by decide +kernel) rfl (ls_4 hL) (by decide +kernel) rfl rfl rfl rfl rfl k
set_option maxRecDepth 4000 in
theorem b_X4_read_137 {xs : Nat → Int32} {L d : Nat} {S : Nat → Shp} {I : Nat → Nat → Int32} {J : Nat → Nat → Int64} {R : Nat → Nat → Nat} {c : Nat × Nat} {Q : Option (Option Value) → MH → Prop} {r1 r2 : Nat} {x3 sx0 : Int32}  (k : Q (some (some (.int sx0))) (S, I, J, R, c)) : X xs L (d + 1) 50 137 [.ref 11, .ref r1, .ref r2, .int x3] [.int sx0] (S, I, J, R, c) Q := by
  exact X_ireturn (ty := .int) (show decode (mB 50) 137 = .ok (.ireturn, 1) by decide +kernel) (by decide +kernel) rfl k
set_option maxRecDepth 4000 in
theorem b_X4_takeClauses_0 {xs : Nat → Int32} {L d : Nat} {S : Nat → Shp} {I : Nat → Nat → Int32} {J : Nat → Nat → Int64} {R : Nat → Nat → Nat} {c : Nat × Nat} {Q : Option (Option Value) → MH → Prop}   (k : X xs L (d + 1) 51 2 [.ref 11, .int 0] [] (S, I, J, R, c) Q) : X xs L (d + 1) 51 0 [.ref 11, .null] [] (S, I, J, R, c) Q := by
  refine X_iconst (v := 0) (show decode (mB 51) 0 = .ok (.iconst 0, 1) by decide +kernel) (pc' := 1) rfl rfl ?_
  refine X_istore_n (q := 1) (ls' := [.ref 11, .int 0]) (show decode (mB 51) 1 = .ok (.istore_n 1, 1) by decide +kernel) (pc' := 2) rfl rfl rfl ?_
  exact k
set_option maxRecDepth 4000 in
theorem b_X4_takeClauses_2 {xs : Nat → Int32} {L d : Nat} {S : Nat → Shp} {I : Nat → Nat → Int32} {J : Nat → Nat → Int64} {R : Nat → Nat → Nat} {c : Nat × Nat} {Q : Option (Option Value) → MH → Prop} {x1 : Int32}  (kt : 24 ≤ x1 → X xs L (d + 1) 51 34 [.ref 11, .int x1] [] (S, I, J, R, c) Q) (kf : ¬ (24 ≤ x1) → X xs L (d + 1) 51 8 [.ref 11, .int x1] [] (S, I, J, R, c) Q) : X xs L (d + 1) 51 2 [.ref 11, .int x1] [] (S, I, J, R, c) Q := by
  refine X_iload_n (q := 1) (show decode (mB 51) 2 = .ok (.iload_n 1, 1) by decide +kernel) (pc' := 3) rfl rfl rfl ?_
  refine X_bipush (v := 24) (show decode (mB 51) 3 = .ok (.bipush 24, 2) by decide +kernel) (pc' := 5) rfl (by decide +kernel) ?_
  exact X_icmp_ge (tgt := 34) (show decode (mB 51) 5 = .ok (.if_icmp .ge 29, 3) by decide +kernel) rfl (pc' := 8) rfl kt kf
set_option maxRecDepth 4000 in
theorem b_X4_takeClauses_8 {xs : Nat → Int32} {L d : Nat} {S : Nat → Shp} {I : Nat → Nat → Int32} {J : Nat → Nat → Int64} {R : Nat → Nat → Nat} {c : Nat × Nat} {Q : Option (Option Value) → MH → Prop} {x1 : Int32} (hL : Lay S R)  (k : X xs L d 52 0 [.ref 11, .null, .null] [] (S, I, J, R, c) (Kc xs L (d + 1) 51 12 [.ref 11, .int x1] [] Q)) : X xs L (d + 1) 51 8 [.ref 11, .int x1] [] (S, I, J, R, c) Q := by
  refine X_aload_n (q := 0) (show decode (mB 51) 8 = .ok (.aload_n 0, 1) by decide +kernel) (pc' := 9) rfl rfl rfl ?_
  exact X_callV (y := 52) (n := 0) (st := [.ref 11]) (as := [.ref 11]) (rest := []) (ls0 := [.ref 11, .null, .null]) (ci := 4) (show decode (mB 51) 9 = .ok (.invokevirtual 69, 3) by decide +kernel) (pc' := 12) rfl (by decide +kernel) (by decide +kernel) rfl (ls_11 hL) (by decide +kernel) rfl rfl rfl rfl rfl k
set_option maxRecDepth 4000 in
theorem b_X4_takeClauses_12 {xs : Nat → Int32} {L d : Nat} {S : Nat → Shp} {I : Nat → Nat → Int32} {J : Nat → Nat → Int64} {R : Nat → Nat → Nat} {c : Nat × Nat} {Q : Option (Option Value) → MH → Prop} {x1 sx0 : Int32}  (kt : ¬ sx0 = 0 → X xs L (d + 1) 51 17 [.ref 11, .int x1] [] (S, I, J, R, c) Q) (kf : ¬ (¬ sx0 = 0) → X xs L (d + 1) 51 15 [.ref 11, .int x1] [] (S, I, J, R, c) Q) : X xs L (d + 1) 51 12 [.ref 11, .int x1] [.int sx0] (S, I, J, R, c) Q := by
  exact X_if_ne (tgt := 17) (show decode (mB 51) 12 = .ok (.ifCond .ne 5, 3) by decide +kernel) rfl (pc' := 15) rfl kt kf
set_option maxRecDepth 4000 in
theorem b_X4_takeClauses_15 {xs : Nat → Int32} {L d : Nat} {S : Nat → Shp} {I : Nat → Nat → Int32} {J : Nat → Nat → Int64} {R : Nat → Nat → Nat} {c : Nat × Nat} {Q : Option (Option Value) → MH → Prop} {x1 : Int32}  (k : Q (some (some (.int 0))) (S, I, J, R, c)) : X xs L (d + 1) 51 15 [.ref 11, .int x1] [] (S, I, J, R, c) Q := by
  refine X_iconst (v := 0) (show decode (mB 51) 15 = .ok (.iconst 0, 1) by decide +kernel) (pc' := 16) rfl rfl ?_
  exact X_ireturn (ty := .boolean) (show decode (mB 51) 16 = .ok (.ireturn, 1) by decide +kernel) (by decide +kernel) rfl k
set_option maxRecDepth 4000 in
theorem b_X4_takeClauses_17 {xs : Nat → Int32} {L d : Nat} {S : Nat → Shp} {I : Nat → Nat → Int32} {J : Nat → Nat → Int64} {R : Nat → Nat → Nat} {c : Nat × Nat} {Q : Option (Option Value) → MH → Prop} {x1 : Int32} (hL : Lay S R)  (k : X xs L d 62 0 [.ref 11, .int 44] [] (S, I, J, R, c) (Kc xs L (d + 1) 51 23 [.ref 11, .int x1] [] Q)) : X xs L (d + 1) 51 17 [.ref 11, .int x1] [] (S, I, J, R, c) Q := by
  refine X_aload_n (q := 0) (show decode (mB 51) 17 = .ok (.aload_n 0, 1) by decide +kernel) (pc' := 18) rfl rfl rfl ?_
  refine X_bipush (v := 44) (show decode (mB 51) 18 = .ok (.bipush 44, 2) by decide +kernel) (pc' := 20) rfl (by decide +kernel) ?_
  exact X_callV (y := 62) (n := 1) (st := [.int 44, .ref 11]) (as := [.ref 11, .int 44]) (rest := []) (ls0 := [.ref 11, .int 44]) (ci := 4) (show decode (mB 51) 20 = .ok (.invokevirtual 54, 3) by decide +kernel) (pc' := 23) rfl (by decide +kernel) (by decide +kernel) rfl (ls_11 hL) (by decide +kernel) rfl rfl rfl rfl rfl k
set_option maxRecDepth 4000 in
theorem b_X4_takeClauses_23 {xs : Nat → Int32} {L d : Nat} {S : Nat → Shp} {I : Nat → Nat → Int32} {J : Nat → Nat → Int64} {R : Nat → Nat → Nat} {c : Nat × Nat} {Q : Option (Option Value) → MH → Prop} {x1 sx0 : Int32}  (kt : ¬ sx0 = 0 → X xs L (d + 1) 51 28 [.ref 11, .int x1] [] (S, I, J, R, c) Q) (kf : ¬ (¬ sx0 = 0) → X xs L (d + 1) 51 26 [.ref 11, .int x1] [] (S, I, J, R, c) Q) : X xs L (d + 1) 51 23 [.ref 11, .int x1] [.int sx0] (S, I, J, R, c) Q := by
  exact X_if_ne (tgt := 28) (show decode (mB 51) 23 = .ok (.ifCond .ne 5, 3) by decide +kernel) rfl (pc' := 26) rfl kt kf
set_option maxRecDepth 4000 in
theorem b_X4_takeClauses_26 {xs : Nat → Int32} {L d : Nat} {S : Nat → Shp} {I : Nat → Nat → Int32} {J : Nat → Nat → Int64} {R : Nat → Nat → Nat} {c : Nat × Nat} {Q : Option (Option Value) → MH → Prop} {x1 : Int32}  (k : Q (some (some (.int 1))) (S, I, J, R, c)) : X xs L (d + 1) 51 26 [.ref 11, .int x1] [] (S, I, J, R, c) Q := by
  refine X_iconst (v := 1) (show decode (mB 51) 26 = .ok (.iconst 1, 1) by decide +kernel) (pc' := 27) rfl rfl ?_
  exact X_ireturn (ty := .boolean) (show decode (mB 51) 27 = .ok (.ireturn, 1) by decide +kernel) (by decide +kernel) rfl k
set_option maxRecDepth 4000 in
theorem b_X4_takeClauses_28 {xs : Nat → Int32} {L d : Nat} {S : Nat → Shp} {I : Nat → Nat → Int32} {J : Nat → Nat → Int64} {R : Nat → Nat → Nat} {c : Nat × Nat} {Q : Option (Option Value) → MH → Prop} {x1 : Int32}  (k : X xs L (d + 1) 51 2 [.ref 11, .int (x1 + 1)] [] (S, I, J, R, c) Q) : X xs L (d + 1) 51 28 [.ref 11, .int x1] [] (S, I, J, R, c) Q := by
  refine X_iinc (q := 1) (v := x1 + 1) (ls' := [.ref 11, .int (x1 + 1)]) (show decode (mB 51) 28 = .ok (.iinc 1 1, 3) by decide +kernel) (pc' := 31) rfl rfl rfl rfl ?_
  refine X_goto (tgt := 2) (show decode (mB 51) 31 = .ok (.goto (-29), 3) by decide +kernel) rfl ?_
  exact k
set_option maxRecDepth 4000 in
theorem b_X4_takeClauses_34 {xs : Nat → Int32} {L d : Nat} {S : Nat → Shp} {I : Nat → Nat → Int32} {J : Nat → Nat → Int64} {R : Nat → Nat → Nat} {c : Nat × Nat} {Q : Option (Option Value) → MH → Prop} {x1 : Int32}  (k : Q (some (some (.int 0))) (S, I, J, R, c)) : X xs L (d + 1) 51 34 [.ref 11, .int x1] [] (S, I, J, R, c) Q := by
  refine X_iconst (v := 0) (show decode (mB 51) 34 = .ok (.iconst 0, 1) by decide +kernel) (pc' := 35) rfl rfl ?_
  exact X_ireturn (ty := .boolean) (show decode (mB 51) 35 = .ok (.ireturn, 1) by decide +kernel) (by decide +kernel) rfl k
set_option maxRecDepth 4000 in
theorem b_X4_takeClause_0 {xs : Nat → Int32} {L d : Nat} {S : Nat → Shp} {I : Nat → Nat → Int32} {J : Nat → Nat → Int64} {R : Nat → Nat → Nat} {c : Nat × Nat} {Q : Option (Option Value) → MH → Prop}  (hL : Lay S R)  (k : X xs L d 93 0 [.ref 4] [] (S, I, J, R, c) (Kc xs L (d + 1) 52 7 [.ref 11, .null, .null] [] Q)) : X xs L (d + 1) 52 0 [.ref 11, .null, .null] [] (S, I, J, R, c) Q := by
  refine X_aload_n (q := 0) (show decode (mB 52) 0 = .ok (.aload_n 0, 1) by decide +kernel) (pc' := 1) rfl rfl rfl ?_
  refine X_getR (ci := 4) (f := 0) (q := 4) (show decode (mB 52) 1 = .ok (.getfield 58, 3) by decide +kernel) (pc' := 4) rfl (ls_11 hL) (by decide +kernel) rfl (lr_11_0 hL) ?_
  exact X_callV (y := 93) (n := 0) (st := [.ref 4]) (as := [.ref 4]) (rest := []) (ls0 := [.ref 4]) (ci := 8) (show decode (mB 52) 4 = .ok (.invokevirtual 62, 3) by decide +kernel) (pc' := 7) rfl (by decide +kernel) (by decide +kernel) rfl (ls_4 hL) (by decide +kernel) rfl rfl rfl rfl rfl k
set_option maxRecDepth 4000 in
theorem b_X4_takeClause_7 {xs : Nat → Int32} {L d : Nat} {S : Nat → Shp} {I : Nat → Nat → Int32} {J : Nat → Nat → Int64} {R : Nat → Nat → Nat} {c : Nat × Nat} {Q : Option (Option Value) → MH → Prop} {sx0 : Int32}  (kt : ¬ sx0 = 2 → X xs L (d + 1) 52 28 [.ref 11, .null, .null] [] (S, I, J, R, c) Q) (kf : ¬ (¬ sx0 = 2) → X xs L (d + 1) 52 11 [.ref 11, .null, .null] [] (S, I, J, R, c) Q) : X xs L (d + 1) 52 7 [.ref 11, .null, .null] [.int sx0] (S, I, J, R, c) Q := by
  refine X_iconst (v := 2) (show decode (mB 52) 7 = .ok (.iconst 2, 1) by decide +kernel) (pc' := 8) rfl rfl ?_
  exact X_icmp_ne (tgt := 28) (show decode (mB 52) 8 = .ok (.if_icmp .ne 20, 3) by decide +kernel) rfl (pc' := 11) rfl kt kf
set_option maxRecDepth 4000 in
theorem b_X4_takeClause_11 {xs : Nat → Int32} {L d : Nat} {S : Nat → Shp} {I : Nat → Nat → Int32} {J : Nat → Nat → Int64} {R : Nat → Nat → Nat} {c : Nat × Nat} {Q : Option (Option Value) → MH → Prop} {q_11_7 : Nat} (hL : Lay S R) (hq_11_7 : R 11 7 = q_11_7) (k : X xs L d 95 0 [.ref 4] [] (S, I, J, R, c) (Kc xs L (d + 1) 52 22 [.ref 11, .null, .null] [.ref q_11_7] Q)) : X xs L (d + 1) 52 11 [.ref 11, .null, .null] [] (S, I, J, R, c) Q := by
  refine X_aload_n (q := 0) (show decode (mB 52) 11 = .ok (.aload_n 0, 1) by decide +kernel) (pc' := 12) rfl rfl rfl ?_
  refine X_getR (ci := 4) (f := 7) (q := q_11_7) (show decode (mB 52) 12 = .ok (.getfield 15, 3) by decide +kernel) (pc' := 15) rfl (ls_11 hL) (by decide +kernel) rfl hq_11_7 ?_
  refine X_aload_n (q := 0) (show decode (mB 52) 15 = .ok (.aload_n 0, 1) by decide +kernel) (pc' := 16) rfl rfl rfl ?_
  refine X_getR (ci := 4) (f := 0) (q := 4) (show decode (mB 52) 16 = .ok (.getfield 58, 3) by decide +kernel) (pc' := 19) rfl (ls_11 hL) (by decide +kernel) rfl (lr_11_0 hL) ?_
  exact X_callV (y := 95) (n := 0) (st := [.ref 4, .ref q_11_7]) (as := [.ref 4]) (rest := [.ref q_11_7]) (ls0 := [.ref 4]) (ci := 8) (show decode (mB 52) 19 = .ok (.invokevirtual 72, 3) by decide +kernel) (pc' := 22) rfl (by decide +kernel) (by decide +kernel) rfl (ls_4 hL) (by decide +kernel) rfl rfl rfl rfl rfl k
set_option maxRecDepth 4000 in
theorem b_X4_takeClause_22 {xs : Nat → Int32} {L d : Nat} {S : Nat → Shp} {I : Nat → Nat → Int32} {J : Nat → Nat → Int64} {R : Nat → Nat → Nat} {c : Nat × Nat} {Q : Option (Option Value) → MH → Prop} {sr0 : Nat} {sy1 : Int64} (h_sr0 : LyCi S R sr0) (k : X xs L d 28 0 [.ref sr0, .long sy1, .null, .null] [] (S, I, J, R, c) (Kc xs L (d + 1) 52 25 [.ref 11, .null, .null] [] Q)) : X xs L (d + 1) 52 22 [.ref 11, .null, .null] [.long sy1, .ref sr0] (S, I, J, R, c) Q := by
  exact X_callV (y := 28) (n := 1) (st := [.long sy1, .ref sr0]) (as := [.ref sr0, .long sy1]) (rest := []) (ls0 := [.ref sr0, .long sy1, .null, .null]) (ci := 1) (show decode (mB 52) 22 = .ok (.invokevirtual 76, 3) by decide +kernel) (pc' := 25) rfl (by decide +kernel) (by decide +kernel) rfl h_sr0.s0 (by decide +kernel) rfl rfl rfl rfl rfl k
set_option maxRecDepth 4000 in
theorem b_X4_takeClause_25 {xs : Nat → Int32} {L d : Nat} {S : Nat → Shp} {I : Nat → Nat → Int32} {J : Nat → Nat → Int64} {R : Nat → Nat → Nat} {c : Nat × Nat} {Q : Option (Option Value) → MH → Prop} {sx0 : Int32}  (k : X xs L (d + 1) 52 30 [.ref 11, .null, .null] [.int sx0] (S, I, J, R, c) Q) : X xs L (d + 1) 52 25 [.ref 11, .null, .null] [.int sx0] (S, I, J, R, c) Q := by
  refine X_goto (tgt := 30) (show decode (mB 52) 25 = .ok (.goto 5, 3) by decide +kernel) rfl ?_
  exact k
set_option maxRecDepth 4000 in
theorem b_X4_takeClause_28 {xs : Nat → Int32} {L d : Nat} {S : Nat → Shp} {I : Nat → Nat → Int32} {J : Nat → Nat → Int64} {R : Nat → Nat → Nat} {c : Nat × Nat} {Q : Option (Option Value) → MH → Prop}   (k : X xs L (d + 1) 52 30 [.ref 11, .null, .null] [.int (-2)] (S, I, J, R, c) Q) : X xs L (d + 1) 52 28 [.ref 11, .null, .null] [] (S, I, J, R, c) Q := by
  refine X_bipush (v := (-2)) (show decode (mB 52) 28 = .ok (.bipush (-2), 2) by decide +kernel) (pc' := 30) rfl (by decide +kernel) ?_
  exact k
set_option maxRecDepth 4000 in
theorem b_X4_takeClause_30 {xs : Nat → Int32} {L d : Nat} {S : Nat → Shp} {I : Nat → Nat → Int32} {J : Nat → Nat → Int64} {R : Nat → Nat → Nat} {c : Nat × Nat} {Q : Option (Option Value) → MH → Prop} {sx0 : Int32}  (kt : ¬ sx0 = (-2) → X xs L (d + 1) 52 39 [.ref 11, .int sx0, .null] [] (S, I, J, R, c) Q) (kf : ¬ (¬ sx0 = (-2)) → X xs L (d + 1) 52 37 [.ref 11, .int sx0, .null] [] (S, I, J, R, c) Q) : X xs L (d + 1) 52 30 [.ref 11, .null, .null] [.int sx0] (S, I, J, R, c) Q := by
  refine X_istore_n (q := 1) (ls' := [.ref 11, .int sx0, .null]) (show decode (mB 52) 30 = .ok (.istore_n 1, 1) by decide +kernel) (pc' := 31) rfl rfl rfl ?_
  refine X_iload_n (q := 1) (show decode (mB 52) 31 = .ok (.iload_n 1, 1) by decide +kernel) (pc' := 32) rfl rfl rfl ?_
  refine X_bipush (v := (-2)) (show decode (mB 52) 32 = .ok (.bipush (-2), 2) by decide +kernel) (pc' := 34) rfl (by decide +kernel) ?_
  exact X_icmp_ne (tgt := 39) (show decode (mB 52) 34 = .ok (.if_icmp .ne 5, 3) by decide +kernel) rfl (pc' := 37) rfl kt kf
set_option maxRecDepth 4000 in
theorem b_X4_takeClause_37 {xs : Nat → Int32} {L d : Nat} {S : Nat → Shp} {I : Nat → Nat → Int32} {J : Nat → Nat → Int64} {R : Nat → Nat → Nat} {c : Nat × Nat} {Q : Option (Option Value) → MH → Prop} {x1 : Int32}  (k : Q (some (some (.int 0))) (S, I, J, R, c)) : X xs L (d + 1) 52 37 [.ref 11, .int x1, .null] [] (S, I, J, R, c) Q := by
  refine X_iconst (v := 0) (show decode (mB 52) 37 = .ok (.iconst 0, 1) by decide +kernel) (pc' := 38) rfl rfl ?_
  exact X_ireturn (ty := .boolean) (show decode (mB 52) 38 = .ok (.ireturn, 1) by decide +kernel) (by decide +kernel) rfl k
set_option maxRecDepth 4000 in
theorem b_X4_takeClause_39 {xs : Nat → Int32} {L d : Nat} {S : Nat → Shp} {I : Nat → Nat → Int32} {J : Nat → Nat → Int64} {R : Nat → Nat → Nat} {c : Nat × Nat} {Q : Option (Option Value) → MH → Prop} {x1 : Int32} (hL : Lay S R)  (k : X xs L d 100 0 [.ref 4] [] (S, I, J, R, c) (Kc xs L (d + 1) 52 46 [.ref 11, .int x1, .null] [] Q)) : X xs L (d + 1) 52 39 [.ref 11, .int x1, .null] [] (S, I, J, R, c) Q := by
  refine X_aload_n (q := 0) (show decode (mB 52) 39 = .ok (.aload_n 0, 1) by decide +kernel) (pc' := 40) rfl rfl rfl ?_
  refine X_getR (ci := 4) (f := 0) (q := 4) (show decode (mB 52) 40 = .ok (.getfield 58, 3) by decide +kernel) (pc' := 43) rfl (ls_11 hL) (by decide +kernel) rfl (lr_11_0 hL) ?_
  exact X_callV (y := 100) (n := 0) (st := [.ref 4]) (as := [.ref 4]) (rest := []) (ls0 := [.ref 4]) (ci := 8) (show decode (mB 52) 43 = .ok (.invokevirtual 82, 3) by decide +kernel) (pc' := 46) rfl (by decide +kernel) (by decide +kernel) rfl (ls_4 hL) (by decide +kernel) rfl rfl rfl rfl rfl k
set_option maxRecDepth 4000 in
theorem b_X4_takeClause_46 {xs : Nat → Int32} {L d : Nat} {S : Nat → Shp} {I : Nat → Nat → Int32} {J : Nat → Nat → Int64} {R : Nat → Nat → Nat} {c : Nat × Nat} {Q : Option (Option Value) → MH → Prop} {x1 : Int32} {q_11_6 q_11_1 : Nat} (hL : Lay S R) (hq_11_6 : R 11 6 = q_11_6) (h_q_11_6 : LyCm S R q_11_6) (hb76 : inb (I q_11_6 3) 48 = true) (hq_11_1 : R 11 1 = q_11_1) (h_q_11_1 : LyCd S R q_11_1) (hn_q_11_1_q_11_6p2 : q_11_1 ≠ (q_11_6 + 2)) (hn_q_11_1_q_11_6 : q_11_1 ≠ q_11_6) (hb92 : inb (I q_11_6 3) 48 = true) (k : X xs L d 63 0 [.ref 11, .long 26995, .null] [] (S, (u2 (u2 (u2 I q_11_6 3 ((I q_11_6 3) + 1)) (q_11_6 + 2) ((I q_11_6 3).toNatClampNeg) x1) (q_11_6 + 5) ((I q_11_6 3).toNatClampNeg) (I q_11_1 1)), J, R, c) (Kc xs L (d + 1) 52 100 [.ref 11, .int x1, .int (I q_11_6 3)] [] Q)) : X xs L (d + 1) 52 46 [.ref 11, .int x1, .null] [] (S, I, J, R, c) Q := by
  refine X_aload_n (q := 0) (show decode (mB 52) 46 = .ok (.aload_n 0, 1) by decide +kernel) (pc' := 47) rfl rfl rfl ?_
  refine X_getR (ci := 4) (f := 6) (q := q_11_6) (show decode (mB 52) 47 = .ok (.getfield 9, 3) by decide +kernel) (pc' := 50) rfl (ls_11 hL) (by decide +kernel) rfl hq_11_6 ?_
  refine X_getI (ci := 3) (f := 3) (x := I q_11_6 3) (show decode (mB 52) 50 = .ok (.getfield 45, 3) by decide +kernel) (pc' := 53) rfl h_q_11_6.s0 (by decide +kernel) rfl rfl ?_
  refine X_istore_n (q := 2) (ls' := [.ref 11, .int x1, .int (I q_11_6 3)]) (show decode (mB 52) 53 = .ok (.istore_n 2, 1) by decide +kernel) (pc' := 54) rfl rfl rfl ?_
  refine X_aload_n (q := 0) (show decode (mB 52) 54 = .ok (.aload_n 0, 1) by decide +kernel) (pc' := 55) rfl rfl rfl ?_
  refine X_getR (ci := 4) (f := 6) (q := q_11_6) (show decode (mB 52) 55 = .ok (.getfield 9, 3) by decide +kernel) (pc' := 58) rfl (ls_11 hL) (by decide +kernel) rfl hq_11_6 ?_
  refine X_dup (show decode (mB 52) 58 = .ok (.dup, 1) by decide +kernel) (pc' := 59) rfl rfl ?_
  refine X_getI (ci := 3) (f := 3) (x := I q_11_6 3) (show decode (mB 52) 59 = .ok (.getfield 45, 3) by decide +kernel) (pc' := 62) rfl h_q_11_6.s0 (by decide +kernel) rfl rfl ?_
  refine X_iconst (v := 1) (show decode (mB 52) 62 = .ok (.iconst 1, 1) by decide +kernel) (pc' := 63) rfl rfl ?_
  refine X_iadd (show decode (mB 52) 63 = .ok (.iadd, 1) by decide +kernel) (pc' := 64) rfl ?_
  refine X_putI (ci := 3) (f := 3) (show decode (mB 52) 64 = .ok (.putfield 45, 3) by decide +kernel) (pc' := 67) rfl h_q_11_6.s0 (by decide +kernel) (by decide +kernel) rfl ?_
  refine X_aload_n (q := 0) (show decode (mB 52) 67 = .ok (.aload_n 0, 1) by decide +kernel) (pc' := 68) rfl rfl rfl ?_
  refine X_getR (ci := 4) (f := 6) (q := q_11_6) (show decode (mB 52) 68 = .ok (.getfield 9, 3) by decide +kernel) (pc' := 71) rfl (ls_11 hL) (by decide +kernel) rfl hq_11_6 ?_
  refine X_getR (ci := 3) (f := 5) (q := (q_11_6 + 2)) (show decode (mB 52) 71 = .ok (.getfield 85, 3) by decide +kernel) (pc' := 74) rfl h_q_11_6.s0 (by decide +kernel) rfl h_q_11_6.r0_5 ?_
  refine X_iload_n (q := 2) (show decode (mB 52) 74 = .ok (.iload_n 2, 1) by decide +kernel) (pc' := 75) rfl rfl rfl ?_
  refine X_iload_n (q := 1) (show decode (mB 52) 75 = .ok (.iload_n 1, 1) by decide +kernel) (pc' := 76) rfl rfl rfl ?_
  refine X_iastore (show decode (mB 52) 76 = .ok (.iastore, 1) by decide +kernel) (pc' := 77) rfl h_q_11_6.s2 hb76 ?_
  refine X_aload_n (q := 0) (show decode (mB 52) 77 = .ok (.aload_n 0, 1) by decide +kernel) (pc' := 78) rfl rfl rfl ?_
  refine X_getR (ci := 4) (f := 6) (q := q_11_6) (show decode (mB 52) 78 = .ok (.getfield 9, 3) by decide +kernel) (pc' := 81) rfl (ls_11 hL) (by decide +kernel) rfl hq_11_6 ?_
  refine X_getR (ci := 3) (f := 8) (q := (q_11_6 + 5)) (show decode (mB 52) 81 = .ok (.getfield 89, 3) by decide +kernel) (pc' := 84) rfl h_q_11_6.s0 (by decide +kernel) rfl h_q_11_6.r0_8 ?_
  refine X_iload_n (q := 2) (show decode (mB 52) 84 = .ok (.iload_n 2, 1) by decide +kernel) (pc' := 85) rfl rfl rfl ?_
  refine X_aload_n (q := 0) (show decode (mB 52) 85 = .ok (.aload_n 0, 1) by decide +kernel) (pc' := 86) rfl rfl rfl ?_
  refine X_getR (ci := 4) (f := 1) (q := q_11_1) (show decode (mB 52) 86 = .ok (.getfield 92, 3) by decide +kernel) (pc' := 89) rfl (ls_11 hL) (by decide +kernel) rfl hq_11_1 ?_
  refine X_getI (ci := 5) (f := 1) (x := I q_11_1 1) (show decode (mB 52) 89 = .ok (.getfield 93, 3) by decide +kernel) (pc' := 92) rfl h_q_11_1.s0 (by decide +kernel) rfl (by simp [u2, u1, hn_q_11_1_q_11_6p2, hn_q_11_1_q_11_6]) ?_
  refine X_iastore (show decode (mB 52) 92 = .ok (.iastore, 1) by decide +kernel) (pc' := 93) rfl h_q_11_6.s5 hb92 ?_
  refine X_aload_n (q := 0) (show decode (mB 52) 93 = .ok (.aload_n 0, 1) by decide +kernel) (pc' := 94) rfl rfl rfl ?_
  refine X_ldc2 (v := 26995) (show decode (mB 52) 94 = .ok (.ldc2_w 98, 3) by decide +kernel) (pc' := 97) rfl (by decide +kernel) ?_
  exact X_callV (y := 63) (n := 1) (st := [.long 26995, .ref 11]) (as := [.ref 11, .long 26995]) (rest := []) (ls0 := [.ref 11, .long 26995, .null]) (ci := 4) (show decode (mB 52) 97 = .ok (.invokevirtual 37, 3) by decide +kernel) (pc' := 100) rfl (by decide +kernel) (by decide +kernel) rfl (ls_11 hL) (by decide +kernel) rfl rfl rfl rfl rfl k
set_option maxRecDepth 4000 in
theorem b_X4_takeClause_100 {xs : Nat → Int32} {L d : Nat} {S : Nat → Shp} {I : Nat → Nat → Int32} {J : Nat → Nat → Int64} {R : Nat → Nat → Nat} {c : Nat × Nat} {Q : Option (Option Value) → MH → Prop} {x1 x2 sx0 : Int32}  (kt : sx0 = 0 → X xs L (d + 1) 52 110 [.ref 11, .int x1, .int x2] [] (S, I, J, R, c) Q) (kf : ¬ (sx0 = 0) → X xs L (d + 1) 52 103 [.ref 11, .int x1, .int x2] [] (S, I, J, R, c) Q) : X xs L (d + 1) 52 100 [.ref 11, .int x1, .int x2] [.int sx0] (S, I, J, R, c) Q := by
  exact X_if_eq (tgt := 110) (show decode (mB 52) 100 = .ok (.ifCond .eq 10, 3) by decide +kernel) rfl (pc' := 103) rfl kt kf
set_option maxRecDepth 4000 in
theorem b_X4_takeClause_103 {xs : Nat → Int32} {L d : Nat} {S : Nat → Shp} {I : Nat → Nat → Int32} {J : Nat → Nat → Int64} {R : Nat → Nat → Nat} {c : Nat × Nat} {Q : Option (Option Value) → MH → Prop} {x1 x2 : Int32} (hL : Lay S R)  (k : X xs L d 64 0 [.ref 11, .null, .null] [] (S, I, J, R, c) (Kc xs L (d + 1) 52 107 [.ref 11, .int x1, .int x2] [] Q)) : X xs L (d + 1) 52 103 [.ref 11, .int x1, .int x2] [] (S, I, J, R, c) Q := by
  refine X_aload_n (q := 0) (show decode (mB 52) 103 = .ok (.aload_n 0, 1) by decide +kernel) (pc' := 104) rfl rfl rfl ?_
  exact X_callV (y := 64) (n := 0) (st := [.ref 11]) (as := [.ref 11]) (rest := []) (ls0 := [.ref 11, .null, .null]) (ci := 4) (show decode (mB 52) 104 = .ok (.invokevirtual 100, 3) by decide +kernel) (pc' := 107) rfl (by decide +kernel) (by decide +kernel) rfl (ls_11 hL) (by decide +kernel) rfl rfl rfl rfl rfl k
set_option maxRecDepth 4000 in
theorem b_X4_takeClause_107 {xs : Nat → Int32} {L d : Nat} {S : Nat → Shp} {I : Nat → Nat → Int32} {J : Nat → Nat → Int64} {R : Nat → Nat → Nat} {c : Nat × Nat} {Q : Option (Option Value) → MH → Prop} {x1 x2 sx0 : Int32}  (kt : ¬ sx0 = 0 → X xs L (d + 1) 52 112 [.ref 11, .int x1, .int x2] [] (S, I, J, R, c) Q) (kf : ¬ (¬ sx0 = 0) → X xs L (d + 1) 52 110 [.ref 11, .int x1, .int x2] [] (S, I, J, R, c) Q) : X xs L (d + 1) 52 107 [.ref 11, .int x1, .int x2] [.int sx0] (S, I, J, R, c) Q := by
  exact X_if_ne (tgt := 112) (show decode (mB 52) 107 = .ok (.ifCond .ne 5, 3) by decide +kernel) rfl (pc' := 110) rfl kt kf
set_option maxRecDepth 4000 in
theorem b_X4_takeClause_110 {xs : Nat → Int32} {L d : Nat} {S : Nat → Shp} {I : Nat → Nat → Int32} {J : Nat → Nat → Int64} {R : Nat → Nat → Nat} {c : Nat × Nat} {Q : Option (Option Value) → MH → Prop} {x1 x2 : Int32}  (k : Q (some (some (.int 0))) (S, I, J, R, c)) : X xs L (d + 1) 52 110 [.ref 11, .int x1, .int x2] [] (S, I, J, R, c) Q := by
  refine X_iconst (v := 0) (show decode (mB 52) 110 = .ok (.iconst 0, 1) by decide +kernel) (pc' := 111) rfl rfl ?_
  exact X_ireturn (ty := .boolean) (show decode (mB 52) 111 = .ok (.ireturn, 1) by decide +kernel) (by decide +kernel) rfl k
set_option maxRecDepth 4000 in
theorem b_X4_takeClause_112 {xs : Nat → Int32} {L d : Nat} {S : Nat → Shp} {I : Nat → Nat → Int32} {J : Nat → Nat → Int64} {R : Nat → Nat → Nat} {c : Nat × Nat} {Q : Option (Option Value) → MH → Prop} {x1 x2 : Int32} {q_11_6 q_11_1 : Nat} (hL : Lay S R) (hq_11_6 : R 11 6 = q_11_6) (h_q_11_6 : LyCm S R q_11_6) (hq_11_1 : R 11 1 = q_11_1) (h_q_11_1 : LyCd S R q_11_1) (hb127 : inb x2 48 = true) (k : X xs L d 63 0 [.ref 11, .long 26982, .null] [] (S, (u2 I (q_11_6 + 6) x2.toNatClampNeg (I q_11_1 1)), J, R, c) (Kc xs L (d + 1) 52 135 [.ref 11, .int x1, .int x2] [] Q)) : X xs L (d + 1) 52 112 [.ref 11, .int x1, .int x2] [] (S, I, J, R, c) Q := by
  refine X_aload_n (q := 0) (show decode (mB 52) 112 = .ok (.aload_n 0, 1) by decide +kernel) (pc' := 113) rfl rfl rfl ?_
  refine X_getR (ci := 4) (f := 6) (q := q_11_6) (show decode (mB 52) 113 = .ok (.getfield 9, 3) by decide +kernel) (pc' := 116) rfl (ls_11 hL) (by decide +kernel) rfl hq_11_6 ?_
  refine X_getR (ci := 3) (f := 9) (q := (q_11_6 + 6)) (show decode (mB 52) 116 = .ok (.getfield 103, 3) by decide +kernel) (pc' := 119) rfl h_q_11_6.s0 (by decide +kernel) rfl h_q_11_6.r0_9 ?_
  refine X_iload_n (q := 2) (show decode (mB 52) 119 = .ok (.iload_n 2, 1) by decide +kernel) (pc' := 120) rfl rfl rfl ?_
  refine X_aload_n (q := 0) (show decode (mB 52) 120 = .ok (.aload_n 0, 1) by decide +kernel) (pc' := 121) rfl rfl rfl ?_
  refine X_getR (ci := 4) (f := 1) (q := q_11_1) (show decode (mB 52) 121 = .ok (.getfield 92, 3) by decide +kernel) (pc' := 124) rfl (ls_11 hL) (by decide +kernel) rfl hq_11_1 ?_
  refine X_getI (ci := 5) (f := 1) (x := I q_11_1 1) (show decode (mB 52) 124 = .ok (.getfield 93, 3) by decide +kernel) (pc' := 127) rfl h_q_11_1.s0 (by decide +kernel) rfl rfl ?_
  refine X_iastore (show decode (mB 52) 127 = .ok (.iastore, 1) by decide +kernel) (pc' := 128) rfl h_q_11_6.s6 hb127 ?_
  refine X_aload_n (q := 0) (show decode (mB 52) 128 = .ok (.aload_n 0, 1) by decide +kernel) (pc' := 129) rfl rfl rfl ?_
  refine X_ldc2 (v := 26982) (show decode (mB 52) 129 = .ok (.ldc2_w 106, 3) by decide +kernel) (pc' := 132) rfl (by decide +kernel) ?_
  exact X_callV (y := 63) (n := 1) (st := [.long 26982, .ref 11]) (as := [.ref 11, .long 26982]) (rest := []) (ls0 := [.ref 11, .long 26982, .null]) (ci := 4) (show decode (mB 52) 132 = .ok (.invokevirtual 37, 3) by decide +kernel) (pc' := 135) rfl (by decide +kernel) (by decide +kernel) rfl (ls_11 hL) (by decide +kernel) rfl rfl rfl rfl rfl k
set_option maxRecDepth 4000 in
theorem b_X4_takeClause_135 {xs : Nat → Int32} {L d : Nat} {S : Nat → Shp} {I : Nat → Nat → Int32} {J : Nat → Nat → Int64} {R : Nat → Nat → Nat} {c : Nat × Nat} {Q : Option (Option Value) → MH → Prop} {x1 x2 sx0 : Int32}  (kt : sx0 = 0 → X xs L (d + 1) 52 147 [.ref 11, .int x1, .int x2] [] (S, I, J, R, c) Q) (kf : ¬ (sx0 = 0) → X xs L (d + 1) 52 138 [.ref 11, .int x1, .int x2] [] (S, I, J, R, c) Q) : X xs L (d + 1) 52 135 [.ref 11, .int x1, .int x2] [.int sx0] (S, I, J, R, c) Q := by
  exact X_if_eq (tgt := 147) (show decode (mB 52) 135 = .ok (.ifCond .eq 12, 3) by decide +kernel) rfl (pc' := 138) rfl kt kf
set_option maxRecDepth 4000 in
theorem b_X4_takeClause_138 {xs : Nat → Int32} {L d : Nat} {S : Nat → Shp} {I : Nat → Nat → Int32} {J : Nat → Nat → Int64} {R : Nat → Nat → Nat} {c : Nat × Nat} {Q : Option (Option Value) → MH → Prop} {x1 x2 : Int32} (hL : Lay S R)  (k : X xs L d 64 0 [.ref 11, .null, .null] [] (S, I, J, R, c) (Kc xs L (d + 1) 52 142 [.ref 11, .int x1, .int x2] [] Q)) : X xs L (d + 1) 52 138 [.ref 11, .int x1, .int x2] [] (S, I, J, R, c) Q := by
  refine X_aload_n (q := 0) (show decode (mB 52) 138 = .ok (.aload_n 0, 1) by decide +kernel) (pc' := 139) rfl rfl rfl ?_
  exact X_callV (y := 64) (n := 0) (st := [.ref 11]) (as := [.ref 11]) (rest := []) (ls0 := [.ref 11, .null, .null]) (ci := 4) (show decode (mB 52) 139 = .ok (.invokevirtual 100, 3) by decide +kernel) (pc' := 142) rfl (by decide +kernel) (by decide +kernel) rfl (ls_11 hL) (by decide +kernel) rfl rfl rfl rfl rfl k
set_option maxRecDepth 4000 in
theorem b_X4_takeClause_142 {xs : Nat → Int32} {L d : Nat} {S : Nat → Shp} {I : Nat → Nat → Int32} {J : Nat → Nat → Int64} {R : Nat → Nat → Nat} {c : Nat × Nat} {Q : Option (Option Value) → MH → Prop} {x1 x2 sx0 : Int32}  (kt : ¬ sx0 = 0 → X xs L (d + 1) 52 147 [.ref 11, .int x1, .int x2] [] (S, I, J, R, c) Q) (kf : ¬ (¬ sx0 = 0) → X xs L (d + 1) 52 145 [.ref 11, .int x1, .int x2] [] (S, I, J, R, c) Q) : X xs L (d + 1) 52 142 [.ref 11, .int x1, .int x2] [.int sx0] (S, I, J, R, c) Q := by
  exact X_if_ne (tgt := 147) (show decode (mB 52) 142 = .ok (.ifCond .ne 5, 3) by decide +kernel) rfl (pc' := 145) rfl kt kf
set_option maxRecDepth 4000 in
theorem b_X4_takeClause_145 {xs : Nat → Int32} {L d : Nat} {S : Nat → Shp} {I : Nat → Nat → Int32} {J : Nat → Nat → Int64} {R : Nat → Nat → Nat} {c : Nat × Nat} {Q : Option (Option Value) → MH → Prop} {x1 x2 : Int32}  (k : Q (some (some (.int 0))) (S, I, J, R, c)) : X xs L (d + 1) 52 145 [.ref 11, .int x1, .int x2] [] (S, I, J, R, c) Q := by
  refine X_iconst (v := 0) (show decode (mB 52) 145 = .ok (.iconst 0, 1) by decide +kernel) (pc' := 146) rfl rfl ?_
  exact X_ireturn (ty := .boolean) (show decode (mB 52) 146 = .ok (.ireturn, 1) by decide +kernel) (by decide +kernel) rfl k
set_option maxRecDepth 4000 in
theorem b_X4_takeClause_147 {xs : Nat → Int32} {L d : Nat} {S : Nat → Shp} {I : Nat → Nat → Int32} {J : Nat → Nat → Int64} {R : Nat → Nat → Nat} {c : Nat × Nat} {Q : Option (Option Value) → MH → Prop} {x1 x2 : Int32} {q_11_6 q_11_1 : Nat} (hL : Lay S R) (hq_11_6 : R 11 6 = q_11_6) (h_q_11_6 : LyCm S R q_11_6) (hq_11_1 : R 11 1 = q_11_1) (h_q_11_1 : LyCd S R q_11_1) (hb162 : inb x2 48 = true) (k : X xs L d 53 0 [.ref 11, .int x2, .null, .null] [] (S, (u2 I (q_11_6 + 7) x2.toNatClampNeg (I q_11_1 1)), J, R, c) (Kc xs L (d + 1) 52 168 [.ref 11, .int x1, .int x2] [] Q)) : X xs L (d + 1) 52 147 [.ref 11, .int x1, .int x2] [] (S, I, J, R, c) Q := by
  refine X_aload_n (q := 0) (show decode (mB 52) 147 = .ok (.aload_n 0, 1) by decide +kernel) (pc' := 148) rfl rfl rfl ?_
  refine X_getR (ci := 4) (f := 6) (q := q_11_6) (show decode (mB 52) 148 = .ok (.getfield 9, 3) by decide +kernel) (pc' := 151) rfl (ls_11 hL) (by decide +kernel) rfl hq_11_6 ?_
  refine X_getR (ci := 3) (f := 10) (q := (q_11_6 + 7)) (show decode (mB 52) 151 = .ok (.getfield 108, 3) by decide +kernel) (pc' := 154) rfl h_q_11_6.s0 (by decide +kernel) rfl h_q_11_6.r0_10 ?_
  refine X_iload_n (q := 2) (show decode (mB 52) 154 = .ok (.iload_n 2, 1) by decide +kernel) (pc' := 155) rfl rfl rfl ?_
  refine X_aload_n (q := 0) (show decode (mB 52) 155 = .ok (.aload_n 0, 1) by decide +kernel) (pc' := 156) rfl rfl rfl ?_
  refine X_getR (ci := 4) (f := 1) (q := q_11_1) (show decode (mB 52) 156 = .ok (.getfield 92, 3) by decide +kernel) (pc' := 159) rfl (ls_11 hL) (by decide +kernel) rfl hq_11_1 ?_
  refine X_getI (ci := 5) (f := 1) (x := I q_11_1 1) (show decode (mB 52) 159 = .ok (.getfield 93, 3) by decide +kernel) (pc' := 162) rfl h_q_11_1.s0 (by decide +kernel) rfl rfl ?_
  refine X_iastore (show decode (mB 52) 162 = .ok (.iastore, 1) by decide +kernel) (pc' := 163) rfl h_q_11_6.s7 hb162 ?_
  refine X_aload_n (q := 0) (show decode (mB 52) 163 = .ok (.aload_n 0, 1) by decide +kernel) (pc' := 164) rfl rfl rfl ?_
  refine X_iload_n (q := 2) (show decode (mB 52) 164 = .ok (.iload_n 2, 1) by decide +kernel) (pc' := 165) rfl rfl rfl ?_
  exact X_callV (y := 53) (n := 1) (st := [.int x2, .ref 11]) (as := [.ref 11, .int x2]) (rest := []) (ls0 := [.ref 11, .int x2, .null, .null]) (ci := 4) (show decode (mB 52) 165 = .ok (.invokevirtual 111, 3) by decide +kernel) (pc' := 168) rfl (by decide +kernel) (by decide +kernel) rfl (ls_11 hL) (by decide +kernel) rfl rfl rfl rfl rfl k
set_option maxRecDepth 4000 in
theorem b_X4_takeClause_168 {xs : Nat → Int32} {L d : Nat} {S : Nat → Shp} {I : Nat → Nat → Int32} {J : Nat → Nat → Int64} {R : Nat → Nat → Nat} {c : Nat × Nat} {Q : Option (Option Value) → MH → Prop} {x1 x2 sx0 : Int32} (hz168 : sx0 = 0 ∨ sx0 = 1) (k : Q (some (some (.int sx0))) (S, I, J, R, c)) : X xs L (d + 1) 52 168 [.ref 11, .int x1, .int x2] [.int sx0] (S, I, J, R, c) Q := by
  exact X_ireturn (ty := .boolean) (show decode (mB 52) 168 = .ok (.ireturn, 1) by decide +kernel) (by decide +kernel) (nz hz168) k
set_option maxRecDepth 4000 in
theorem b_X4_takeTimes_0 {xs : Nat → Int32} {L d : Nat} {S : Nat → Shp} {I : Nat → Nat → Int32} {J : Nat → Nat → Int64} {R : Nat → Nat → Nat} {c : Nat × Nat} {Q : Option (Option Value) → MH → Prop} {x1 : Int32} (hL : Lay S R)  (k : X xs L d 63 0 [.ref 11, .long 24948, .null] [] (S, I, J, R, c) (Kc xs L (d + 1) 53 7 [.ref 11, .int x1, .null, .null] [] Q)) : X xs L (d + 1) 53 0 [.ref 11, .int x1, .null, .null] [] (S, I, J, R, c) Q := by
  refine X_aload_n (q := 0) (show decode (mB 53) 0 = .ok (.aload_n 0, 1) by decide +kernel) (pc' := 1) rfl rfl rfl ?_
  refine X_ldc2 (v := 24948) (show decode (mB 53) 1 = .ok (.ldc2_w 114, 3) by decide +kernel) (pc' := 4) rfl (by decide +kernel) ?_
  exact X_callV (y := 63) (n := 1) (st := [.long 24948, .ref 11]) (as := [.ref 11, .long 24948]) (rest := []) (ls0 := [.ref 11, .long 24948, .null]) (ci := 4) (show decode (mB 53) 4 = .ok (.invokevirtual 37, 3) by decide +kernel) (pc' := 7) rfl (by decide +kernel) (by decide +kernel) rfl (ls_11 hL) (by decide +kernel) rfl rfl rfl rfl rfl k
set_option maxRecDepth 4000 in
theorem b_X4_takeTimes_7 {xs : Nat → Int32} {L d : Nat} {S : Nat → Shp} {I : Nat → Nat → Int32} {J : Nat → Nat → Int64} {R : Nat → Nat → Nat} {c : Nat × Nat} {Q : Option (Option Value) → MH → Prop} {x1 sx0 : Int32}  (kt : ¬ sx0 = 0 → X xs L (d + 1) 53 22 [.ref 11, .int x1, .null, .null] [] (S, I, J, R, c) Q) (kf : ¬ (¬ sx0 = 0) → X xs L (d + 1) 53 10 [.ref 11, .int x1, .null, .null] [] (S, I, J, R, c) Q) : X xs L (d + 1) 53 7 [.ref 11, .int x1, .null, .null] [.int sx0] (S, I, J, R, c) Q := by
  exact X_if_ne (tgt := 22) (show decode (mB 53) 7 = .ok (.ifCond .ne 15, 3) by decide +kernel) rfl (pc' := 10) rfl kt kf
set_option maxRecDepth 4000 in
theorem b_X4_takeTimes_10 {xs : Nat → Int32} {L d : Nat} {S : Nat → Shp} {I : Nat → Nat → Int32} {J : Nat → Nat → Int64} {R : Nat → Nat → Nat} {c : Nat × Nat} {Q : Option (Option Value) → MH → Prop} {x1 : Int32} {q_11_6 : Nat} (hL : Lay S R) (hq_11_6 : R 11 6 = q_11_6) (h_q_11_6 : LyCm S R q_11_6) (k : X xs L d 48 0 [.ref q_11_6, .int x1, .int 0, .int 0] [] (S, I, J, R, c) (Kc xs L (d + 1) 53 20 [.ref 11, .int x1, .null, .null] [] Q)) : X xs L (d + 1) 53 10 [.ref 11, .int x1, .null, .null] [] (S, I, J, R, c) Q := by
  refine X_aload_n (q := 0) (show decode (mB 53) 10 = .ok (.aload_n 0, 1) by decide +kernel) (pc' := 11) rfl rfl rfl ?_
  refine X_getR (ci := 4) (f := 6) (q := q_11_6) (show decode (mB 53) 11 = .ok (.getfield 9, 3) by decide +kernel) (pc' := 14) rfl (ls_11 hL) (by decide +kernel) rfl hq_11_6 ?_
  refine X_iload_n (q := 1) (show decode (mB 53) 14 = .ok (.iload_n 1, 1) by decide +kernel) (pc' := 15) rfl rfl rfl ?_
  refine X_iconst (v := 0) (show decode (mB 53) 15 = .ok (.iconst 0, 1) by decide +kernel) (pc' := 16) rfl rfl ?_
  refine X_iconst (v := 0) (show decode (mB 53) 16 = .ok (.iconst 0, 1) by decide +kernel) (pc' := 17) rfl rfl ?_
  exact X_callV (y := 48) (n := 3) (st := [.int 0, .int 0, .int x1, .ref q_11_6]) (as := [.ref q_11_6, .int x1, .int 0, .int 0]) (rest := []) (ls0 := [.ref q_11_6, .int x1, .int 0, .int 0]) (ci := 3) (show decode (mB 53) 17 = .ok (.invokevirtual 116, 3) by decide +kernel) (pc' := 20) rfl (by decide +kernel) (by decide +kernel) rfl h_q_11_6.s0 (by decide +kernel) rfl rfl rfl rfl rfl k
set_option maxRecDepth 4000 in
theorem b_X4_takeTimes_20 {xs : Nat → Int32} {L d : Nat} {S : Nat → Shp} {I : Nat → Nat → Int32} {J : Nat → Nat → Int64} {R : Nat → Nat → Nat} {c : Nat × Nat} {Q : Option (Option Value) → MH → Prop} {x1 : Int32}  (k : Q (some (some (.int 1))) (S, I, J, R, c)) : X xs L (d + 1) 53 20 [.ref 11, .int x1, .null, .null] [] (S, I, J, R, c) Q := by
  refine X_iconst (v := 1) (show decode (mB 53) 20 = .ok (.iconst 1, 1) by decide +kernel) (pc' := 21) rfl rfl ?_
  exact X_ireturn (ty := .boolean) (show decode (mB 53) 21 = .ok (.ireturn, 1) by decide +kernel) (by decide +kernel) rfl k
set_option maxRecDepth 4000 in
theorem b_X4_takeTimes_22 {xs : Nat → Int32} {L d : Nat} {S : Nat → Shp} {I : Nat → Nat → Int32} {J : Nat → Nat → Int64} {R : Nat → Nat → Nat} {c : Nat × Nat} {Q : Option (Option Value) → MH → Prop} {x1 : Int32} (hL : Lay S R)  (k : X xs L d 54 0 [.ref 11, .int 0, .null] [] (S, I, J, R, c) (Kc xs L (d + 1) 53 27 [.ref 11, .int x1, .null, .null] [] Q)) : X xs L (d + 1) 53 22 [.ref 11, .int x1, .null, .null] [] (S, I, J, R, c) Q := by
  refine X_aload_n (q := 0) (show decode (mB 53) 22 = .ok (.aload_n 0, 1) by decide +kernel) (pc' := 23) rfl rfl rfl ?_
  refine X_iconst (v := 0) (show decode (mB 53) 23 = .ok (.iconst 0, 1) by decide +kernel) (pc' := 24) rfl rfl ?_
  exact X_callV (y := 54) (n := 1) (st := [.int 0, .ref 11]) (as := [.ref 11, .int 0]) (rest := []) (ls0 := [.ref 11, .int 0, .null]) (ci := 4) (show decode (mB 53) 24 = .ok (.invokevirtual 120, 3) by decide +kernel) (pc' := 27) rfl (by decide +kernel) (by decide +kernel) rfl (ls_11 hL) (by decide +kernel) rfl rfl rfl rfl rfl k
set_option maxRecDepth 4000 in
theorem b_X4_takeTimes_27 {xs : Nat → Int32} {L d : Nat} {S : Nat → Shp} {I : Nat → Nat → Int32} {J : Nat → Nat → Int64} {R : Nat → Nat → Nat} {c : Nat × Nat} {Q : Option (Option Value) → MH → Prop} {x1 sx0 : Int32}  (kt : ¬ sx0 = (-2) → X xs L (d + 1) 53 36 [.ref 11, .int x1, .int sx0, .null] [] (S, I, J, R, c) Q) (kf : ¬ (¬ sx0 = (-2)) → X xs L (d + 1) 53 34 [.ref 11, .int x1, .int sx0, .null] [] (S, I, J, R, c) Q) : X xs L (d + 1) 53 27 [.ref 11, .int x1, .null, .null] [.int sx0] (S, I, J, R, c) Q := by
  refine X_istore_n (q := 2) (ls' := [.ref 11, .int x1, .int sx0, .null]) (show decode (mB 53) 27 = .ok (.istore_n 2, 1) by decide +kernel) (pc' := 28) rfl rfl rfl ?_
  refine X_iload_n (q := 2) (show decode (mB 53) 28 = .ok (.iload_n 2, 1) by decide +kernel) (pc' := 29) rfl rfl rfl ?_
  refine X_bipush (v := (-2)) (show decode (mB 53) 29 = .ok (.bipush (-2), 2) by decide +kernel) (pc' := 31) rfl (by decide +kernel) ?_
  exact X_icmp_ne (tgt := 36) (show decode (mB 53) 31 = .ok (.if_icmp .ne 5, 3) by decide +kernel) rfl (pc' := 34) rfl kt kf
set_option maxRecDepth 4000 in
theorem b_X4_takeTimes_34 {xs : Nat → Int32} {L d : Nat} {S : Nat → Shp} {I : Nat → Nat → Int32} {J : Nat → Nat → Int64} {R : Nat → Nat → Nat} {c : Nat × Nat} {Q : Option (Option Value) → MH → Prop} {x1 x2 : Int32}  (k : Q (some (some (.int 0))) (S, I, J, R, c)) : X xs L (d + 1) 53 34 [.ref 11, .int x1, .int x2, .null] [] (S, I, J, R, c) Q := by
  refine X_iconst (v := 0) (show decode (mB 53) 34 = .ok (.iconst 0, 1) by decide +kernel) (pc' := 35) rfl rfl ?_
  exact X_ireturn (ty := .boolean) (show decode (mB 53) 35 = .ok (.ireturn, 1) by decide +kernel) (by decide +kernel) rfl k
set_option maxRecDepth 4000 in
theorem b_X4_takeTimes_36 {xs : Nat → Int32} {L d : Nat} {S : Nat → Shp} {I : Nat → Nat → Int32} {J : Nat → Nat → Int64} {R : Nat → Nat → Nat} {c : Nat × Nat} {Q : Option (Option Value) → MH → Prop} {x1 x2 : Int32} (hL : Lay S R)  (k : X xs L d 63 0 [.ref 11, .long 29807, .null] [] (S, I, J, R, c) (Kc xs L (d + 1) 53 43 [.ref 11, .int x1, .int x2, .null] [] Q)) : X xs L (d + 1) 53 36 [.ref 11, .int x1, .int x2, .null] [] (S, I, J, R, c) Q := by
  refine X_aload_n (q := 0) (show decode (mB 53) 36 = .ok (.aload_n 0, 1) by decide +kernel) (pc' := 37) rfl rfl rfl ?_
  refine X_ldc2 (v := 29807) (show decode (mB 53) 37 = .ok (.ldc2_w 124, 3) by decide +kernel) (pc' := 40) rfl (by decide +kernel) ?_
  exact X_callV (y := 63) (n := 1) (st := [.long 29807, .ref 11]) (as := [.ref 11, .long 29807]) (rest := []) (ls0 := [.ref 11, .long 29807, .null]) (ci := 4) (show decode (mB 53) 40 = .ok (.invokevirtual 37, 3) by decide +kernel) (pc' := 43) rfl (by decide +kernel) (by decide +kernel) rfl (ls_11 hL) (by decide +kernel) rfl rfl rfl rfl rfl k
set_option maxRecDepth 4000 in
theorem b_X4_takeTimes_43 {xs : Nat → Int32} {L d : Nat} {S : Nat → Shp} {I : Nat → Nat → Int32} {J : Nat → Nat → Int64} {R : Nat → Nat → Nat} {c : Nat × Nat} {Q : Option (Option Value) → MH → Prop} {x1 x2 sx0 : Int32}  (kt : sx0 = 0 → X xs L (d + 1) 53 54 [.ref 11, .int x1, .int x2, .null] [] (S, I, J, R, c) Q) (kf : ¬ (sx0 = 0) → X xs L (d + 1) 53 46 [.ref 11, .int x1, .int x2, .null] [] (S, I, J, R, c) Q) : X xs L (d + 1) 53 43 [.ref 11, .int x1, .int x2, .null] [.int sx0] (S, I, J, R, c) Q := by
  exact X_if_eq (tgt := 54) (show decode (mB 53) 43 = .ok (.ifCond .eq 11, 3) by decide +kernel) rfl (pc' := 46) rfl kt kf
set_option maxRecDepth 4000 in
theorem b_X4_takeTimes_46 {xs : Nat → Int32} {L d : Nat} {S : Nat → Shp} {I : Nat → Nat → Int32} {J : Nat → Nat → Int64} {R : Nat → Nat → Nat} {c : Nat × Nat} {Q : Option (Option Value) → MH → Prop} {x1 x2 : Int32} (hL : Lay S R)  (k : X xs L d 54 0 [.ref 11, .int x2, .null] [] (S, I, J, R, c) (Kc xs L (d + 1) 53 51 [.ref 11, .int x1, .int x2, .null] [] Q)) : X xs L (d + 1) 53 46 [.ref 11, .int x1, .int x2, .null] [] (S, I, J, R, c) Q := by
  refine X_aload_n (q := 0) (show decode (mB 53) 46 = .ok (.aload_n 0, 1) by decide +kernel) (pc' := 47) rfl rfl rfl ?_
  refine X_iload_n (q := 2) (show decode (mB 53) 47 = .ok (.iload_n 2, 1) by decide +kernel) (pc' := 48) rfl rfl rfl ?_
  exact X_callV (y := 54) (n := 1) (st := [.int x2, .ref 11]) (as := [.ref 11, .int x2]) (rest := []) (ls0 := [.ref 11, .int x2, .null]) (ci := 4) (show decode (mB 53) 48 = .ok (.invokevirtual 120, 3) by decide +kernel) (pc' := 51) rfl (by decide +kernel) (by decide +kernel) rfl (ls_11 hL) (by decide +kernel) rfl rfl rfl rfl rfl k
set_option maxRecDepth 4000 in
theorem b_X4_takeTimes_51 {xs : Nat → Int32} {L d : Nat} {S : Nat → Shp} {I : Nat → Nat → Int32} {J : Nat → Nat → Int64} {R : Nat → Nat → Nat} {c : Nat × Nat} {Q : Option (Option Value) → MH → Prop} {x1 x2 sx0 : Int32}  (k : X xs L (d + 1) 53 55 [.ref 11, .int x1, .int x2, .null] [.int sx0] (S, I, J, R, c) Q) : X xs L (d + 1) 53 51 [.ref 11, .int x1, .int x2, .null] [.int sx0] (S, I, J, R, c) Q := by
  refine X_goto (tgt := 55) (show decode (mB 53) 51 = .ok (.goto 4, 3) by decide +kernel) rfl ?_
  exact k
set_option maxRecDepth 4000 in
theorem b_X4_takeTimes_54 {xs : Nat → Int32} {L d : Nat} {S : Nat → Shp} {I : Nat → Nat → Int32} {J : Nat → Nat → Int64} {R : Nat → Nat → Nat} {c : Nat × Nat} {Q : Option (Option Value) → MH → Prop} {x1 x2 : Int32}  (k : X xs L (d + 1) 53 55 [.ref 11, .int x1, .int x2, .null] [.int x2] (S, I, J, R, c) Q) : X xs L (d + 1) 53 54 [.ref 11, .int x1, .int x2, .null] [] (S, I, J, R, c) Q := by
  refine X_iload_n (q := 2) (show decode (mB 53) 54 = .ok (.iload_n 2, 1) by decide +kernel) (pc' := 55) rfl rfl rfl ?_
  exact k
set_option maxRecDepth 4000 in
theorem b_X4_takeTimes_55 {xs : Nat → Int32} {L d : Nat} {S : Nat → Shp} {I : Nat → Nat → Int32} {J : Nat → Nat → Int64} {R : Nat → Nat → Nat} {c : Nat × Nat} {Q : Option (Option Value) → MH → Prop} {x1 x2 sx0 : Int32}  (kt : ¬ sx0 = (-2) → X xs L (d + 1) 53 64 [.ref 11, .int x1, .int x2, .int sx0] [] (S, I, J, R, c) Q) (kf : ¬ (¬ sx0 = (-2)) → X xs L (d + 1) 53 62 [.ref 11, .int x1, .int x2, .int sx0] [] (S, I, J, R, c) Q) : X xs L (d + 1) 53 55 [.ref 11, .int x1, .int x2, .null] [.int sx0] (S, I, J, R, c) Q := by
  refine X_istore_n (q := 3) (ls' := [.ref 11, .int x1, .int x2, .int sx0]) (show decode (mB 53) 55 = .ok (.istore_n 3, 1) by decide +kernel) (pc' := 56) rfl rfl rfl ?_
  refine X_iload_n (q := 3) (show decode (mB 53) 56 = .ok (.iload_n 3, 1) by decide +kernel) (pc' := 57) rfl rfl rfl ?_
  refine X_bipush (v := (-2)) (show decode (mB 53) 57 = .ok (.bipush (-2), 2) by decide +kernel) (pc' := 59) rfl (by decide +kernel) ?_
  exact X_icmp_ne (tgt := 64) (show decode (mB 53) 59 = .ok (.if_icmp .ne 5, 3) by decide +kernel) rfl (pc' := 62) rfl kt kf
set_option maxRecDepth 4000 in
theorem b_X4_takeTimes_62 {xs : Nat → Int32} {L d : Nat} {S : Nat → Shp} {I : Nat → Nat → Int32} {J : Nat → Nat → Int64} {R : Nat → Nat → Nat} {c : Nat × Nat} {Q : Option (Option Value) → MH → Prop} {x1 x2 x3 : Int32}  (k : Q (some (some (.int 0))) (S, I, J, R, c)) : X xs L (d + 1) 53 62 [.ref 11, .int x1, .int x2, .int x3] [] (S, I, J, R, c) Q := by
  refine X_iconst (v := 0) (show decode (mB 53) 62 = .ok (.iconst 0, 1) by decide +kernel) (pc' := 63) rfl rfl ?_
  exact X_ireturn (ty := .boolean) (show decode (mB 53) 63 = .ok (.ireturn, 1) by decide +kernel) (by decide +kernel) rfl k
set_option maxRecDepth 4000 in
theorem b_X4_takeTimes_64 {xs : Nat → Int32} {L d : Nat} {S : Nat → Shp} {I : Nat → Nat → Int32} {J : Nat → Nat → Int64} {R : Nat → Nat → Nat} {c : Nat × Nat} {Q : Option (Option Value) → MH → Prop} {x1 x2 x3 : Int32} {q_11_6 : Nat} (hL : Lay S R) (hq_11_6 : R 11 6 = q_11_6) (h_q_11_6 : LyCm S R q_11_6) (k : X xs L d 48 0 [.ref q_11_6, .int x1, .int x2, .int x3] [] (S, I, J, R, c) (Kc xs L (d + 1) 53 74 [.ref 11, .int x1, .int x2, .int x3] [] Q)) : X xs L (d + 1) 53 64 [.ref 11, .int x1, .int x2, .int x3] [] (S, I, J, R, c) Q := by
  refine X_aload_n (q := 0) (show decode (mB 53) 64 = .ok (.aload_n 0, 1) by decide +kernel) (pc' := 65) rfl rfl rfl ?_
  refine X_getR (ci := 4) (f := 6) (q := q_11_6) (show decode (mB 53) 65 = .ok (.getfield 9, 3) by decide +kernel) (pc' := 68) rfl (ls_11 hL) (by decide +kernel) rfl hq_11_6 ?_
  refine X_iload_n (q := 1) (show decode (mB 53) 68 = .ok (.iload_n 1, 1) by decide +kernel) (pc' := 69) rfl rfl rfl ?_
  refine X_iload_n (q := 2) (show decode (mB 53) 69 = .ok (.iload_n 2, 1) by decide +kernel) (pc' := 70) rfl rfl rfl ?_
  refine X_iload_n (q := 3) (show decode (mB 53) 70 = .ok (.iload_n 3, 1) by decide +kernel) (pc' := 71) rfl rfl rfl ?_
  exact X_callV (y := 48) (n := 3) (st := [.int x3, .int x2, .int x1, .ref q_11_6]) (as := [.ref q_11_6, .int x1, .int x2, .int x3]) (rest := []) (ls0 := [.ref q_11_6, .int x1, .int x2, .int x3]) (ci := 3) (show decode (mB 53) 71 = .ok (.invokevirtual 116, 3) by decide +kernel) (pc' := 74) rfl (by decide +kernel) (by decide +kernel) rfl h_q_11_6.s0 (by decide +kernel) rfl rfl rfl rfl rfl k
set_option maxRecDepth 4000 in
theorem b_X4_takeTimes_74 {xs : Nat → Int32} {L d : Nat} {S : Nat → Shp} {I : Nat → Nat → Int32} {J : Nat → Nat → Int64} {R : Nat → Nat → Nat} {c : Nat × Nat} {Q : Option (Option Value) → MH → Prop} {x1 x2 x3 : Int32}  (k : Q (some (some (.int 1))) (S, I, J, R, c)) : X xs L (d + 1) 53 74 [.ref 11, .int x1, .int x2, .int x3] [] (S, I, J, R, c) Q := by
  refine X_iconst (v := 1) (show decode (mB 53) 74 = .ok (.iconst 1, 1) by decide +kernel) (pc' := 75) rfl rfl ?_
  exact X_ireturn (ty := .boolean) (show decode (mB 53) 75 = .ok (.ireturn, 1) by decide +kernel) (by decide +kernel) rfl k
set_option maxRecDepth 4000 in
theorem b_X4_takeTime_0 {xs : Nat → Int32} {L d : Nat} {S : Nat → Shp} {I : Nat → Nat → Int32} {J : Nat → Nat → Int64} {R : Nat → Nat → Nat} {c : Nat × Nat} {Q : Option (Option Value) → MH → Prop} {x1 : Int32} (hL : Lay S R)  (k : X xs L d 93 0 [.ref 4] [] (S, I, J, R, c) (Kc xs L (d + 1) 54 7 [.ref 11, .int x1, .null] [] Q)) : X xs L (d + 1) 54 0 [.ref 11, .int x1, .null] [] (S, I, J, R, c) Q := by
  refine X_aload_n (q := 0) (show decode (mB 54) 0 = .ok (.aload_n 0, 1) by decide +kernel) (pc' := 1) rfl rfl rfl ?_
  refine X_getR (ci := 4) (f := 0) (q := 4) (show decode (mB 54) 1 = .ok (.getfield 58, 3) by decide +kernel) (pc' := 4) rfl (ls_11 hL) (by decide +kernel) rfl (lr_11_0 hL) ?_
  exact X_callV (y := 93) (n := 0) (st := [.ref 4]) (as := [.ref 4]) (rest := []) (ls0 := [.ref 4]) (ci := 8) (show decode (mB 54) 4 = .ok (.invokevirtual 62, 3) by decide +kernel) (pc' := 7) rfl (by decide +kernel) (by decide +kernel) rfl (ls_4 hL) (by decide +kernel) rfl rfl rfl rfl rfl k
set_option maxRecDepth 4000 in
theorem b_X4_takeTime_7 {xs : Nat → Int32} {L d : Nat} {S : Nat → Shp} {I : Nat → Nat → Int32} {J : Nat → Nat → Int64} {R : Nat → Nat → Nat} {c : Nat × Nat} {Q : Option (Option Value) → MH → Prop} {x1 sx0 : Int32}  (kt : sx0 = 5 → X xs L (d + 1) 54 14 [.ref 11, .int x1, .null] [] (S, I, J, R, c) Q) (kf : ¬ (sx0 = 5) → X xs L (d + 1) 54 11 [.ref 11, .int x1, .null] [] (S, I, J, R, c) Q) : X xs L (d + 1) 54 7 [.ref 11, .int x1, .null] [.int sx0] (S, I, J, R, c) Q := by
  refine X_iconst (v := 5) (show decode (mB 54) 7 = .ok (.iconst 5, 1) by decide +kernel) (pc' := 8) rfl rfl ?_
  exact X_icmp_eq (tgt := 14) (show decode (mB 54) 8 = .ok (.if_icmp .eq 6, 3) by decide +kernel) rfl (pc' := 11) rfl kt kf
set_option maxRecDepth 4000 in
theorem b_X4_takeTime_11 {xs : Nat → Int32} {L d : Nat} {S : Nat → Shp} {I : Nat → Nat → Int32} {J : Nat → Nat → Int64} {R : Nat → Nat → Nat} {c : Nat × Nat} {Q : Option (Option Value) → MH → Prop} {x1 : Int32}  (k : Q (some (some (.int (-2)))) (S, I, J, R, c)) : X xs L (d + 1) 54 11 [.ref 11, .int x1, .null] [] (S, I, J, R, c) Q := by
  refine X_bipush (v := (-2)) (show decode (mB 54) 11 = .ok (.bipush (-2), 2) by decide +kernel) (pc' := 13) rfl (by decide +kernel) ?_
  exact X_ireturn (ty := .int) (show decode (mB 54) 13 = .ok (.ireturn, 1) by decide +kernel) (by decide +kernel) rfl k
set_option maxRecDepth 4000 in
theorem b_X4_takeTime_14 {xs : Nat → Int32} {L d : Nat} {S : Nat → Shp} {I : Nat → Nat → Int32} {J : Nat → Nat → Int64} {R : Nat → Nat → Nat} {c : Nat × Nat} {Q : Option (Option Value) → MH → Prop} {x1 : Int32} (hL : Lay S R)  (k : X xs L d 99 0 [.ref 4, .null, .null, .null] [] (S, I, J, R, c) (Kc xs L (d + 1) 54 21 [.ref 11, .int x1, .null] [] Q)) : X xs L (d + 1) 54 14 [.ref 11, .int x1, .null] [] (S, I, J, R, c) Q := by
  refine X_aload_n (q := 0) (show decode (mB 54) 14 = .ok (.aload_n 0, 1) by decide +kernel) (pc' := 15) rfl rfl rfl ?_
  refine X_getR (ci := 4) (f := 0) (q := 4) (show decode (mB 54) 15 = .ok (.getfield 58, 3) by decide +kernel) (pc' := 18) rfl (ls_11 hL) (by decide +kernel) rfl (lr_11_0 hL) ?_
  exact X_callV (y := 99) (n := 0) (st := [.ref 4]) (as := [.ref 4]) (rest := []) (ls0 := [.ref 4, .null, .null, .null]) (ci := 8) (show decode (mB 54) 18 = .ok (.invokevirtual 126, 3) by decide +kernel) (pc' := 21) rfl (by decide +kernel) (by decide +kernel) rfl (ls_4 hL) (by decide +kernel) rfl rfl rfl rfl rfl k
set_option maxRecDepth 4000 in
theorem b_X4_takeTime_21 {xs : Nat → Int32} {L d : Nat} {S : Nat → Shp} {I : Nat → Nat → Int32} {J : Nat → Nat → Int64} {R : Nat → Nat → Nat} {c : Nat × Nat} {Q : Option (Option Value) → MH → Prop} {x1 sx0 : Int32}  (kt : sx0 < x1 → X xs L (d + 1) 54 33 [.ref 11, .int x1, .int sx0] [] (S, I, J, R, c) Q) (kf : ¬ (sx0 < x1) → X xs L (d + 1) 54 27 [.ref 11, .int x1, .int sx0] [] (S, I, J, R, c) Q) : X xs L (d + 1) 54 21 [.ref 11, .int x1, .null] [.int sx0] (S, I, J, R, c) Q := by
  refine X_istore_n (q := 2) (ls' := [.ref 11, .int x1, .int sx0]) (show decode (mB 54) 21 = .ok (.istore_n 2, 1) by decide +kernel) (pc' := 22) rfl rfl rfl ?_
  refine X_iload_n (q := 2) (show decode (mB 54) 22 = .ok (.iload_n 2, 1) by decide +kernel) (pc' := 23) rfl rfl rfl ?_
  refine X_iload_n (q := 1) (show decode (mB 54) 23 = .ok (.iload_n 1, 1) by decide +kernel) (pc' := 24) rfl rfl rfl ?_
  exact X_icmp_lt (tgt := 33) (show decode (mB 54) 24 = .ok (.if_icmp .lt 9, 3) by decide +kernel) rfl (pc' := 27) rfl kt kf
set_option maxRecDepth 4000 in
theorem b_X4_takeTime_27 {xs : Nat → Int32} {L d : Nat} {S : Nat → Shp} {I : Nat → Nat → Int32} {J : Nat → Nat → Int64} {R : Nat → Nat → Nat} {c : Nat × Nat} {Q : Option (Option Value) → MH → Prop} {x1 x2 : Int32}  (kt : x2 < 12 → X xs L (d + 1) 54 36 [.ref 11, .int x1, .int x2] [] (S, I, J, R, c) Q) (kf : ¬ (x2 < 12) → X xs L (d + 1) 54 33 [.ref 11, .int x1, .int x2] [] (S, I, J, R, c) Q) : X xs L (d + 1) 54 27 [.ref 11, .int x1, .int x2] [] (S, I, J, R, c) Q := by
  refine X_iload_n (q := 2) (show decode (mB 54) 27 = .ok (.iload_n 2, 1) by decide +kernel) (pc' := 28) rfl rfl rfl ?_
  refine X_bipush (v := 12) (show decode (mB 54) 28 = .ok (.bipush 12, 2) by decide +kernel) (pc' := 30) rfl (by decide +kernel) ?_
  exact X_icmp_lt (tgt := 36) (show decode (mB 54) 30 = .ok (.if_icmp .lt 6, 3) by decide +kernel) rfl (pc' := 33) rfl kt kf
set_option maxRecDepth 4000 in
theorem b_X4_takeTime_33 {xs : Nat → Int32} {L d : Nat} {S : Nat → Shp} {I : Nat → Nat → Int32} {J : Nat → Nat → Int64} {R : Nat → Nat → Nat} {c : Nat × Nat} {Q : Option (Option Value) → MH → Prop} {x1 x2 : Int32}  (k : Q (some (some (.int (-2)))) (S, I, J, R, c)) : X xs L (d + 1) 54 33 [.ref 11, .int x1, .int x2] [] (S, I, J, R, c) Q := by
  refine X_bipush (v := (-2)) (show decode (mB 54) 33 = .ok (.bipush (-2), 2) by decide +kernel) (pc' := 35) rfl (by decide +kernel) ?_
  exact X_ireturn (ty := .int) (show decode (mB 54) 35 = .ok (.ireturn, 1) by decide +kernel) (by decide +kernel) rfl k
set_option maxRecDepth 4000 in
theorem b_X4_takeTime_36 {xs : Nat → Int32} {L d : Nat} {S : Nat → Shp} {I : Nat → Nat → Int32} {J : Nat → Nat → Int64} {R : Nat → Nat → Nat} {c : Nat × Nat} {Q : Option (Option Value) → MH → Prop} {x1 x2 : Int32} (hL : Lay S R)  (k : X xs L d 100 0 [.ref 4] [] (S, I, J, R, c) (Kc xs L (d + 1) 54 43 [.ref 11, .int x1, .int x2] [] Q)) : X xs L (d + 1) 54 36 [.ref 11, .int x1, .int x2] [] (S, I, J, R, c) Q := by
  refine X_aload_n (q := 0) (show decode (mB 54) 36 = .ok (.aload_n 0, 1) by decide +kernel) (pc' := 37) rfl rfl rfl ?_
  refine X_getR (ci := 4) (f := 0) (q := 4) (show decode (mB 54) 37 = .ok (.getfield 58, 3) by decide +kernel) (pc' := 40) rfl (ls_11 hL) (by decide +kernel) rfl (lr_11_0 hL) ?_
  exact X_callV (y := 100) (n := 0) (st := [.ref 4]) (as := [.ref 4]) (rest := []) (ls0 := [.ref 4]) (ci := 8) (show decode (mB 54) 40 = .ok (.invokevirtual 82, 3) by decide +kernel) (pc' := 43) rfl (by decide +kernel) (by decide +kernel) rfl (ls_4 hL) (by decide +kernel) rfl rfl rfl rfl rfl k
set_option maxRecDepth 4000 in
theorem b_X4_takeTime_43 {xs : Nat → Int32} {L d : Nat} {S : Nat → Shp} {I : Nat → Nat → Int32} {J : Nat → Nat → Int64} {R : Nat → Nat → Nat} {c : Nat × Nat} {Q : Option (Option Value) → MH → Prop} {x1 x2 : Int32}  (k : Q (some (some (.int x2))) (S, I, J, R, c)) : X xs L (d + 1) 54 43 [.ref 11, .int x1, .int x2] [] (S, I, J, R, c) Q := by
  refine X_iload_n (q := 2) (show decode (mB 54) 43 = .ok (.iload_n 2, 1) by decide +kernel) (pc' := 44) rfl rfl rfl ?_
  exact X_ireturn (ty := .int) (show decode (mB 54) 44 = .ok (.ireturn, 1) by decide +kernel) (by decide +kernel) rfl k
set_option maxRecDepth 4000 in
theorem b_X4_takeLeaf_0 {xs : Nat → Int32} {L d : Nat} {S : Nat → Shp} {I : Nat → Nat → Int32} {J : Nat → Nat → Int64} {R : Nat → Nat → Nat} {c : Nat × Nat} {Q : Option (Option Value) → MH → Prop}  (hL : Lay S R)  (k : X xs L d 93 0 [.ref 4] [] (S, I, J, R, c) (Kc xs L (d + 1) 55 7 [.ref 11, .null] [] Q)) : X xs L (d + 1) 55 0 [.ref 11, .null] [] (S, I, J, R, c) Q := by
  refine X_aload_n (q := 0) (show decode (mB 55) 0 = .ok (.aload_n 0, 1) by decide +kernel) (pc' := 1) rfl rfl rfl ?_
  refine X_getR (ci := 4) (f := 0) (q := 4) (show decode (mB 55) 1 = .ok (.getfield 58, 3) by decide +kernel) (pc' := 4) rfl (ls_11 hL) (by decide +kernel) rfl (lr_11_0 hL) ?_
  exact X_callV (y := 93) (n := 0) (st := [.ref 4]) (as := [.ref 4]) (rest := []) (ls0 := [.ref 4]) (ci := 8) (show decode (mB 55) 4 = .ok (.invokevirtual 62, 3) by decide +kernel) (pc' := 7) rfl (by decide +kernel) (by decide +kernel) rfl (ls_4 hL) (by decide +kernel) rfl rfl rfl rfl rfl k
set_option maxRecDepth 4000 in
theorem b_X4_takeLeaf_7 {xs : Nat → Int32} {L d : Nat} {S : Nat → Shp} {I : Nat → Nat → Int32} {J : Nat → Nat → Int64} {R : Nat → Nat → Nat} {c : Nat × Nat} {Q : Option (Option Value) → MH → Prop} {sx0 : Int32}  (kt : ¬ sx0 = 4 → X xs L (d + 1) 55 28 [.ref 11, .null] [] (S, I, J, R, c) Q) (kf : ¬ (¬ sx0 = 4) → X xs L (d + 1) 55 11 [.ref 11, .null] [] (S, I, J, R, c) Q) : X xs L (d + 1) 55 7 [.ref 11, .null] [.int sx0] (S, I, J, R, c) Q := by
  refine X_iconst (v := 4) (show decode (mB 55) 7 = .ok (.iconst 4, 1) by decide +kernel) (pc' := 8) rfl rfl ?_
  exact X_icmp_ne (tgt := 28) (show decode (mB 55) 8 = .ok (.if_icmp .ne 20, 3) by decide +kernel) rfl (pc' := 11) rfl kt kf
set_option maxRecDepth 4000 in
theorem b_X4_takeLeaf_11 {xs : Nat → Int32} {L d : Nat} {S : Nat → Shp} {I : Nat → Nat → Int32} {J : Nat → Nat → Int64} {R : Nat → Nat → Nat} {c : Nat × Nat} {Q : Option (Option Value) → MH → Prop} {q_11_6 : Nat} (hL : Lay S R) (hq_11_6 : R 11 6 = q_11_6) (k : X xs L d 95 0 [.ref 4] [] (S, I, J, R, c) (Kc xs L (d + 1) 55 22 [.ref 11, .null] [.ref q_11_6] Q)) : X xs L (d + 1) 55 11 [.ref 11, .null] [] (S, I, J, R, c) Q := by
  refine X_aload_n (q := 0) (show decode (mB 55) 11 = .ok (.aload_n 0, 1) by decide +kernel) (pc' := 12) rfl rfl rfl ?_
  refine X_getR (ci := 4) (f := 6) (q := q_11_6) (show decode (mB 55) 12 = .ok (.getfield 9, 3) by decide +kernel) (pc' := 15) rfl (ls_11 hL) (by decide +kernel) rfl hq_11_6 ?_
  refine X_aload_n (q := 0) (show decode (mB 55) 15 = .ok (.aload_n 0, 1) by decide +kernel) (pc' := 16) rfl rfl rfl ?_
  refine X_getR (ci := 4) (f := 0) (q := 4) (show decode (mB 55) 16 = .ok (.getfield 58, 3) by decide +kernel) (pc' := 19) rfl (ls_11 hL) (by decide +kernel) rfl (lr_11_0 hL) ?_
  exact X_callV (y := 95) (n := 0) (st := [.ref 4, .ref q_11_6]) (as := [.ref 4]) (rest := [.ref q_11_6]) (ls0 := [.ref 4]) (ci := 8) (show decode (mB 55) 19 = .ok (.invokevirtual 72, 3) by decide +kernel) (pc' := 22) rfl (by decide +kernel) (by decide +kernel) rfl (ls_4 hL) (by decide +kernel) rfl rfl rfl rfl rfl k
set_option maxRecDepth 4000 in
theorem b_X4_takeLeaf_22 {xs : Nat → Int32} {L d : Nat} {S : Nat → Shp} {I : Nat → Nat → Int32} {J : Nat → Nat → Int64} {R : Nat → Nat → Nat} {c : Nat × Nat} {Q : Option (Option Value) → MH → Prop} {sr0 : Nat} {sy1 : Int64} (h_sr0 : LyCm S R sr0) (k : X xs L d 47 0 [.ref sr0, .long sy1, .null, .null] [] (S, I, J, R, c) (Kc xs L (d + 1) 55 25 [.ref 11, .null] [] Q)) : X xs L (d + 1) 55 22 [.ref 11, .null] [.long sy1, .ref sr0] (S, I, J, R, c) Q := by
  exact X_callV (y := 47) (n := 1) (st := [.long sy1, .ref sr0]) (as := [.ref sr0, .long sy1]) (rest := []) (ls0 := [.ref sr0, .long sy1, .null, .null]) (ci := 3) (show decode (mB 55) 22 = .ok (.invokevirtual 129, 3) by decide +kernel) (pc' := 25) rfl (by decide +kernel) (by decide +kernel) rfl h_sr0.s0 (by decide +kernel) rfl rfl rfl rfl rfl k
set_option maxRecDepth 4000 in
theorem b_X4_takeLeaf_25 {xs : Nat → Int32} {L d : Nat} {S : Nat → Shp} {I : Nat → Nat → Int32} {J : Nat → Nat → Int64} {R : Nat → Nat → Nat} {c : Nat × Nat} {Q : Option (Option Value) → MH → Prop} {sx0 : Int32}  (k : X xs L (d + 1) 55 30 [.ref 11, .null] [.int sx0] (S, I, J, R, c) Q) : X xs L (d + 1) 55 25 [.ref 11, .null] [.int sx0] (S, I, J, R, c) Q := by
  refine X_goto (tgt := 30) (show decode (mB 55) 25 = .ok (.goto 5, 3) by decide +kernel) rfl ?_
  exact k
set_option maxRecDepth 4000 in
theorem b_X4_takeLeaf_28 {xs : Nat → Int32} {L d : Nat} {S : Nat → Shp} {I : Nat → Nat → Int32} {J : Nat → Nat → Int64} {R : Nat → Nat → Nat} {c : Nat × Nat} {Q : Option (Option Value) → MH → Prop}   (k : X xs L (d + 1) 55 30 [.ref 11, .null] [.int (-2)] (S, I, J, R, c) Q) : X xs L (d + 1) 55 28 [.ref 11, .null] [] (S, I, J, R, c) Q := by
  refine X_bipush (v := (-2)) (show decode (mB 55) 28 = .ok (.bipush (-2), 2) by decide +kernel) (pc' := 30) rfl (by decide +kernel) ?_
  exact k
set_option maxRecDepth 4000 in
theorem b_X4_takeLeaf_30 {xs : Nat → Int32} {L d : Nat} {S : Nat → Shp} {I : Nat → Nat → Int32} {J : Nat → Nat → Int64} {R : Nat → Nat → Nat} {c : Nat × Nat} {Q : Option (Option Value) → MH → Prop} {sx0 : Int32}  (kt : ¬ sx0 = (-2) → X xs L (d + 1) 55 39 [.ref 11, .int sx0] [] (S, I, J, R, c) Q) (kf : ¬ (¬ sx0 = (-2)) → X xs L (d + 1) 55 37 [.ref 11, .int sx0] [] (S, I, J, R, c) Q) : X xs L (d + 1) 55 30 [.ref 11, .null] [.int sx0] (S, I, J, R, c) Q := by
  refine X_istore_n (q := 1) (ls' := [.ref 11, .int sx0]) (show decode (mB 55) 30 = .ok (.istore_n 1, 1) by decide +kernel) (pc' := 31) rfl rfl rfl ?_
  refine X_iload_n (q := 1) (show decode (mB 55) 31 = .ok (.iload_n 1, 1) by decide +kernel) (pc' := 32) rfl rfl rfl ?_
  refine X_bipush (v := (-2)) (show decode (mB 55) 32 = .ok (.bipush (-2), 2) by decide +kernel) (pc' := 34) rfl (by decide +kernel) ?_
  exact X_icmp_ne (tgt := 39) (show decode (mB 55) 34 = .ok (.if_icmp .ne 5, 3) by decide +kernel) rfl (pc' := 37) rfl kt kf
set_option maxRecDepth 4000 in
theorem b_X4_takeLeaf_37 {xs : Nat → Int32} {L d : Nat} {S : Nat → Shp} {I : Nat → Nat → Int32} {J : Nat → Nat → Int64} {R : Nat → Nat → Nat} {c : Nat × Nat} {Q : Option (Option Value) → MH → Prop} {x1 : Int32}  (k : Q (some (some (.int 0))) (S, I, J, R, c)) : X xs L (d + 1) 55 37 [.ref 11, .int x1] [] (S, I, J, R, c) Q := by
  refine X_iconst (v := 0) (show decode (mB 55) 37 = .ok (.iconst 0, 1) by decide +kernel) (pc' := 38) rfl rfl ?_
  exact X_ireturn (ty := .boolean) (show decode (mB 55) 38 = .ok (.ireturn, 1) by decide +kernel) (by decide +kernel) rfl k
set_option maxRecDepth 4000 in
theorem b_X4_takeLeaf_39 {xs : Nat → Int32} {L d : Nat} {S : Nat → Shp} {I : Nat → Nat → Int32} {J : Nat → Nat → Int64} {R : Nat → Nat → Nat} {c : Nat × Nat} {Q : Option (Option Value) → MH → Prop} {x1 : Int32} {q_11_1 : Nat} (hL : Lay S R) (hq_11_1 : R 11 1 = q_11_1) (h_q_11_1 : LyCd S R q_11_1) (k : X xs L d 57 0 [.ref q_11_1, .int x1] [] (S, I, J, R, c) (Kc xs L (d + 1) 55 47 [.ref 11, .int x1] [] Q)) : X xs L (d + 1) 55 39 [.ref 11, .int x1] [] (S, I, J, R, c) Q := by
  refine X_aload_n (q := 0) (show decode (mB 55) 39 = .ok (.aload_n 0, 1) by decide +kernel) (pc' := 40) rfl rfl rfl ?_
  refine X_getR (ci := 4) (f := 1) (q := q_11_1) (show decode (mB 55) 40 = .ok (.getfield 92, 3) by decide +kernel) (pc' := 43) rfl (ls_11 hL) (by decide +kernel) rfl hq_11_1 ?_
  refine X_iload_n (q := 1) (show decode (mB 55) 43 = .ok (.iload_n 1, 1) by decide +kernel) (pc' := 44) rfl rfl rfl ?_
  exact X_callV (y := 57) (n := 1) (st := [.int x1, .ref q_11_1]) (as := [.ref q_11_1, .int x1]) (rest := []) (ls0 := [.ref q_11_1, .int x1]) (ci := 5) (show decode (mB 55) 44 = .ok (.invokevirtual 132, 3) by decide +kernel) (pc' := 47) rfl (by decide +kernel) (by decide +kernel) rfl h_q_11_1.s0 (by decide +kernel) rfl rfl rfl rfl rfl k
set_option maxRecDepth 4000 in
theorem b_X4_takeLeaf_47 {xs : Nat → Int32} {L d : Nat} {S : Nat → Shp} {I : Nat → Nat → Int32} {J : Nat → Nat → Int64} {R : Nat → Nat → Nat} {c : Nat × Nat} {Q : Option (Option Value) → MH → Prop} {x1 : Int32} (hL : Lay S R)  (k : X xs L d 100 0 [.ref 4] [] (S, I, J, R, c) (Kc xs L (d + 1) 55 54 [.ref 11, .int x1] [] Q)) : X xs L (d + 1) 55 47 [.ref 11, .int x1] [] (S, I, J, R, c) Q := by
  refine X_aload_n (q := 0) (show decode (mB 55) 47 = .ok (.aload_n 0, 1) by decide +kernel) (pc' := 48) rfl rfl rfl ?_
  refine X_getR (ci := 4) (f := 0) (q := 4) (show decode (mB 55) 48 = .ok (.getfield 58, 3) by decide +kernel) (pc' := 51) rfl (ls_11 hL) (by decide +kernel) rfl (lr_11_0 hL) ?_
  exact X_callV (y := 100) (n := 0) (st := [.ref 4]) (as := [.ref 4]) (rest := []) (ls0 := [.ref 4]) (ci := 8) (show decode (mB 55) 51 = .ok (.invokevirtual 82, 3) by decide +kernel) (pc' := 54) rfl (by decide +kernel) (by decide +kernel) rfl (ls_4 hL) (by decide +kernel) rfl rfl rfl rfl rfl k
set_option maxRecDepth 4000 in
theorem b_X4_takeLeaf_54 {xs : Nat → Int32} {L d : Nat} {S : Nat → Shp} {I : Nat → Nat → Int32} {J : Nat → Nat → Int64} {R : Nat → Nat → Nat} {c : Nat × Nat} {Q : Option (Option Value) → MH → Prop} {x1 : Int32}  (k : Q (some (some (.int 1))) (S, I, J, R, c)) : X xs L (d + 1) 55 54 [.ref 11, .int x1] [] (S, I, J, R, c) Q := by
  refine X_iconst (v := 1) (show decode (mB 55) 54 = .ok (.iconst 1, 1) by decide +kernel) (pc' := 55) rfl rfl ?_
  exact X_ireturn (ty := .boolean) (show decode (mB 55) 55 = .ok (.ireturn, 1) by decide +kernel) (by decide +kernel) rfl k
set_option maxRecDepth 4000 in
theorem b_X5_add_0 {xs : Nat → Int32} {L d : Nat} {S : Nat → Shp} {I : Nat → Nat → Int32} {J : Nat → Nat → Int64} {R : Nat → Nat → Nat} {c : Nat × Nat} {Q : Option (Option Value) → MH → Prop} {r0 : Nat} {x1 : Int32} (h_r0 : LyCd S R r0) (kt : (Int32.ofNat 2000) ≤ (I r0 1) → X xs L d 57 32 [.ref r0, .int x1] [] (S, I, J, R, c) Q) (kf : ¬ ((Int32.ofNat 2000) ≤ (I r0 1)) → X xs L d 57 12 [.ref r0, .int x1] [] (S, I, J, R, c) Q) : X xs L d 57 0 [.ref r0, .int x1] [] (S, I, J, R, c) Q := by
  refine X_aload_n (q := 0) (show decode (mB 57) 0 = .ok (.aload_n 0, 1) by decide +kernel) (pc' := 1) rfl rfl rfl ?_
  refine X_getI (ci := 5) (f := 1) (x := I r0 1) (show decode (mB 57) 1 = .ok (.getfield 15, 3) by decide +kernel) (pc' := 4) rfl h_r0.s0 (by decide +kernel) rfl rfl ?_
  refine X_aload_n (q := 0) (show decode (mB 57) 4 = .ok (.aload_n 0, 1) by decide +kernel) (pc' := 5) rfl rfl rfl ?_
  refine X_getR (ci := 5) (f := 0) (q := (r0 + 1)) (show decode (mB 57) 5 = .ok (.getfield 9, 3) by decide +kernel) (pc' := 8) rfl h_r0.s0 (by decide +kernel) rfl h_r0.r0_0 ?_
  refine X_alen (show decode (mB 57) 8 = .ok (.arraylength, 1) by decide +kernel) (pc' := 9) rfl h_r0.s1 ?_
  exact X_icmp_ge (tgt := 32) (show decode (mB 57) 9 = .ok (.if_icmp .ge 23, 3) by decide +kernel) rfl (pc' := 12) rfl kt kf
set_option maxRecDepth 4000 in
theorem b_X5_add_12 {xs : Nat → Int32} {L d : Nat} {S : Nat → Shp} {I : Nat → Nat → Int32} {J : Nat → Nat → Int64} {R : Nat → Nat → Nat} {c : Nat × Nat} {Q : Option (Option Value) → MH → Prop} {r0 : Nat} {x1 : Int32} (h_r0 : LyCd S R r0) (hb21 : inb (I r0 1) 2000 = true) (k : X xs L d 57 32 [.ref r0, .int x1] [] (S, (u2 (u2 I (r0 + 1) ((I r0 1).toNatClampNeg) x1) r0 1 ((I r0 1) + 1)), J, R, c) Q) : X xs L d 57 12 [.ref r0, .int x1] [] (S, I, J, R, c) Q := by
  refine X_aload_n (q := 0) (show decode (mB 57) 12 = .ok (.aload_n 0, 1) by decide +kernel) (pc' := 13) rfl rfl rfl ?_
  refine X_getR (ci := 5) (f := 0) (q := (r0 + 1)) (show decode (mB 57) 13 = .ok (.getfield 9, 3) by decide +kernel) (pc' := 16) rfl h_r0.s0 (by decide +kernel) rfl h_r0.r0_0 ?_
  refine X_aload_n (q := 0) (show decode (mB 57) 16 = .ok (.aload_n 0, 1) by decide +kernel) (pc' := 17) rfl rfl rfl ?_
  refine X_getI (ci := 5) (f := 1) (x := I r0 1) (show decode (mB 57) 17 = .ok (.getfield 15, 3) by decide +kernel) (pc' := 20) rfl h_r0.s0 (by decide +kernel) rfl rfl ?_
  refine X_iload_n (q := 1) (show decode (mB 57) 20 = .ok (.iload_n 1, 1) by decide +kernel) (pc' := 21) rfl rfl rfl ?_
  refine X_iastore (show decode (mB 57) 21 = .ok (.iastore, 1) by decide +kernel) (pc' := 22) rfl h_r0.s1 hb21 ?_
  refine X_aload_n (q := 0) (show decode (mB 57) 22 = .ok (.aload_n 0, 1) by decide +kernel) (pc' := 23) rfl rfl rfl ?_
  refine X_dup (show decode (mB 57) 23 = .ok (.dup, 1) by decide +kernel) (pc' := 24) rfl rfl ?_
  refine X_getI (ci := 5) (f := 1) (x := I r0 1) (show decode (mB 57) 24 = .ok (.getfield 15, 3) by decide +kernel) (pc' := 27) rfl h_r0.s0 (by decide +kernel) rfl (by simp [u2, u1]) ?_
  refine X_iconst (v := 1) (show decode (mB 57) 27 = .ok (.iconst 1, 1) by decide +kernel) (pc' := 28) rfl rfl ?_
  refine X_iadd (show decode (mB 57) 28 = .ok (.iadd, 1) by decide +kernel) (pc' := 29) rfl ?_
  refine X_putI (ci := 5) (f := 1) (show decode (mB 57) 29 = .ok (.putfield 15, 3) by decide +kernel) (pc' := 32) rfl h_r0.s0 (by decide +kernel) (by decide +kernel) rfl ?_
  exact k
set_option maxRecDepth 4000 in
theorem b_X5_add_32 {xs : Nat → Int32} {L d : Nat} {S : Nat → Shp} {I : Nat → Nat → Int32} {J : Nat → Nat → Int64} {R : Nat → Nat → Nat} {c : Nat × Nat} {Q : Option (Option Value) → MH → Prop} {r0 : Nat} {x1 : Int32}  (k : Q (some none) (S, I, J, R, c)) : X xs L d 57 32 [.ref r0, .int x1] [] (S, I, J, R, c) Q := by
  exact X_return (show decode (mB 57) 32 = .ok (.return_, 1) by decide +kernel) (by decide +kernel) k
set_option maxRecDepth 4000 in
theorem b_X5_at_0 {xs : Nat → Int32} {L d : Nat} {S : Nat → Shp} {I : Nat → Nat → Int32} {J : Nat → Nat → Int64} {R : Nat → Nat → Nat} {c : Nat × Nat} {Q : Option (Option Value) → MH → Prop} {r0 : Nat} {x1 : Int32} (h_r0 : LyCd S R r0) (hb5 : inb x1 2000 = true) (k : Q (some (some (.int (I (r0 + 1) x1.toNatClampNeg)))) (S, I, J, R, c)) : X xs L d 58 0 [.ref r0, .int x1] [] (S, I, J, R, c) Q := by
  refine X_aload_n (q := 0) (show decode (mB 58) 0 = .ok (.aload_n 0, 1) by decide +kernel) (pc' := 1) rfl rfl rfl ?_
  refine X_getR (ci := 5) (f := 0) (q := (r0 + 1)) (show decode (mB 58) 1 = .ok (.getfield 9, 3) by decide +kernel) (pc' := 4) rfl h_r0.s0 (by decide +kernel) rfl h_r0.r0_0 ?_
  refine X_iload_n (q := 1) (show decode (mB 58) 4 = .ok (.iload_n 1, 1) by decide +kernel) (pc' := 5) rfl rfl rfl ?_
  refine X_iaload (w := I (r0 + 1) x1.toNatClampNeg) (show decode (mB 58) 5 = .ok (.iaload, 1) by decide +kernel) (pc' := 6) rfl h_r0.s1 hb5 rfl ?_
  exact X_ireturn (ty := .int) (show decode (mB 58) 6 = .ok (.ireturn, 1) by decide +kernel) (by decide +kernel) rfl k
set_option maxRecDepth 4000 in
theorem b_X5_set_0 {xs : Nat → Int32} {L d : Nat} {S : Nat → Shp} {I : Nat → Nat → Int32} {J : Nat → Nat → Int64} {R : Nat → Nat → Nat} {c : Nat × Nat} {Q : Option (Option Value) → MH → Prop} {r0 : Nat} {x1 x2 : Int32} (h_r0 : LyCd S R r0) (hb6 : inb x1 2000 = true) (k : Q (some none) (S, (u2 I (r0 + 1) x1.toNatClampNeg x2), J, R, c)) : X xs L d 59 0 [.ref r0, .int x1, .int x2] [] (S, I, J, R, c) Q := by
  refine X_aload_n (q := 0) (show decode (mB 59) 0 = .ok (.aload_n 0, 1) by decide +kernel) (pc' := 1) rfl rfl rfl ?_
  refine X_getR (ci := 5) (f := 0) (q := (r0 + 1)) (show decode (mB 59) 1 = .ok (.getfield 9, 3) by decide +kernel) (pc' := 4) rfl h_r0.s0 (by decide +kernel) rfl h_r0.r0_0 ?_
  refine X_iload_n (q := 1) (show decode (mB 59) 4 = .ok (.iload_n 1, 1) by decide +kernel) (pc' := 5) rfl rfl rfl ?_
  refine X_iload_n (q := 2) (show decode (mB 59) 5 = .ok (.iload_n 2, 1) by decide +kernel) (pc' := 6) rfl rfl rfl ?_
  refine X_iastore (show decode (mB 59) 6 = .ok (.iastore, 1) by decide +kernel) (pc' := 7) rfl h_r0.s1 hb6 ?_
  exact X_return (show decode (mB 59) 7 = .ok (.return_, 1) by decide +kernel) (by decide +kernel) k
set_option maxRecDepth 4000 in
theorem b_X6c_begin_0 {xs : Nat → Int32} {L d : Nat} {S : Nat → Shp} {I : Nat → Nat → Int32} {J : Nat → Nat → Int64} {R : Nat → Nat → Nat} {c : Nat × Nat} {Q : Option (Option Value) → MH → Prop} {r1 : Nat} (hL : Lay S R)  (k : X xs L d 83 0 [.ref 4, .null, .null] [] (S, I, J, R, c) (Kc xs L (d + 1) 61 7 [.ref 8, .ref r1] [] Q)) : X xs L (d + 1) 61 0 [.ref 8, .ref r1] [] (S, I, J, R, c) Q := by
  refine X_aload_n (q := 0) (show decode (mB 61) 0 = .ok (.aload_n 0, 1) by decide +kernel) (pc' := 1) rfl rfl rfl ?_
  refine X_getR (ci := 2) (f := 0) (q := 4) (show decode (mB 61) 1 = .ok (.getfield 13, 3) by decide +kernel) (pc' := 4) rfl (ls_8 hL) (by decide +kernel) rfl (lr_8_0 hL) ?_
  exact X_callV (y := 83) (n := 0) (st := [.ref 4]) (as := [.ref 4]) (rest := []) (ls0 := [.ref 4, .null, .null]) (ci := 8) (show decode (mB 61) 4 = .ok (.invokevirtual 17, 3) by decide +kernel) (pc' := 7) rfl (by decide +kernel) (by decide +kernel) rfl (ls_4 hL) (by decide +kernel) rfl rfl rfl rfl rfl k
set_option maxRecDepth 4000 in
theorem b_X6c_begin_7 {xs : Nat → Int32} {L d : Nat} {S : Nat → Shp} {I : Nat → Nat → Int32} {J : Nat → Nat → Int64} {R : Nat → Nat → Nat} {c : Nat × Nat} {Q : Option (Option Value) → MH → Prop} {r1 : Nat} (hL : Lay S R) (h_r1 : LyCd S R r1) (k : Q (some none) (S, (u2 (u2 I 8 2 0) r1 1 0), J, (u2 R 8 1 r1), c)) : X xs L (d + 1) 61 7 [.ref 8, .ref r1] [] (S, I, J, R, c) Q := by
  refine X_aload_n (q := 0) (show decode (mB 61) 7 = .ok (.aload_n 0, 1) by decide +kernel) (pc' := 8) rfl rfl rfl ?_
  refine X_iconst (v := 0) (show decode (mB 61) 8 = .ok (.iconst 0, 1) by decide +kernel) (pc' := 9) rfl rfl ?_
  refine X_putI (ci := 2) (f := 2) (show decode (mB 61) 9 = .ok (.putfield 22, 3) by decide +kernel) (pc' := 12) rfl (ls_8 hL) (by decide +kernel) (by decide +kernel) rfl ?_
  refine X_aload_n (q := 0) (show decode (mB 61) 12 = .ok (.aload_n 0, 1) by decide +kernel) (pc' := 13) rfl rfl rfl ?_
  refine X_aload_n (q := 1) (show decode (mB 61) 13 = .ok (.aload_n 1, 1) by decide +kernel) (pc' := 14) rfl rfl rfl ?_
  refine X_putR (ci := 2) (f := 1) (show decode (mB 61) 14 = .ok (.putfield 26, 3) by decide +kernel) (pc' := 17) rfl (ls_8 hL) (by decide +kernel) (by decide +kernel) rfl ?_
  refine X_aload_n (q := 0) (show decode (mB 61) 17 = .ok (.aload_n 0, 1) by decide +kernel) (pc' := 18) rfl rfl rfl ?_
  refine X_getR (ci := 2) (f := 1) (q := r1) (show decode (mB 61) 18 = .ok (.getfield 26, 3) by decide +kernel) (pc' := 21) rfl (ls_8 hL) (by decide +kernel) rfl (by simp [u2, u1]) ?_
  refine X_iconst (v := 0) (show decode (mB 61) 21 = .ok (.iconst 0, 1) by decide +kernel) (pc' := 22) rfl rfl ?_
  refine X_putI (ci := 5) (f := 1) (show decode (mB 61) 22 = .ok (.putfield 30, 3) by decide +kernel) (pc' := 25) rfl h_r1.s0 (by decide +kernel) (by decide +kernel) rfl ?_
  exact X_return (show decode (mB 61) 25 = .ok (.return_, 1) by decide +kernel) (by decide +kernel) k
set_option maxRecDepth 4000 in
theorem b_X6k_begin_0 {xs : Nat → Int32} {L d : Nat} {S : Nat → Shp} {I : Nat → Nat → Int32} {J : Nat → Nat → Int64} {R : Nat → Nat → Nat} {c : Nat × Nat} {Q : Option (Option Value) → MH → Prop} {r1 : Nat} (hL : Lay S R)  (k : X xs L d 83 0 [.ref 4, .null, .null] [] (S, I, J, R, c) (Kc xs L (d + 1) 61 7 [.ref 11, .ref r1] [] Q)) : X xs L (d + 1) 61 0 [.ref 11, .ref r1] [] (S, I, J, R, c) Q := by
  refine X_aload_n (q := 0) (show decode (mB 61) 0 = .ok (.aload_n 0, 1) by decide +kernel) (pc' := 1) rfl rfl rfl ?_
  refine X_getR (ci := 4) (f := 0) (q := 4) (show decode (mB 61) 1 = .ok (.getfield 13, 3) by decide +kernel) (pc' := 4) rfl (ls_11 hL) (by decide +kernel) rfl (lr_11_0 hL) ?_
  exact X_callV (y := 83) (n := 0) (st := [.ref 4]) (as := [.ref 4]) (rest := []) (ls0 := [.ref 4, .null, .null]) (ci := 8) (show decode (mB 61) 4 = .ok (.invokevirtual 17, 3) by decide +kernel) (pc' := 7) rfl (by decide +kernel) (by decide +kernel) rfl (ls_4 hL) (by decide +kernel) rfl rfl rfl rfl rfl k
set_option maxRecDepth 4000 in
theorem b_X6k_begin_7 {xs : Nat → Int32} {L d : Nat} {S : Nat → Shp} {I : Nat → Nat → Int32} {J : Nat → Nat → Int64} {R : Nat → Nat → Nat} {c : Nat × Nat} {Q : Option (Option Value) → MH → Prop} {r1 : Nat} (hL : Lay S R) (h_r1 : LyCd S R r1) (k : Q (some none) (S, (u2 (u2 I 11 2 0) r1 1 0), J, (u2 R 11 1 r1), c)) : X xs L (d + 1) 61 7 [.ref 11, .ref r1] [] (S, I, J, R, c) Q := by
  refine X_aload_n (q := 0) (show decode (mB 61) 7 = .ok (.aload_n 0, 1) by decide +kernel) (pc' := 8) rfl rfl rfl ?_
  refine X_iconst (v := 0) (show decode (mB 61) 8 = .ok (.iconst 0, 1) by decide +kernel) (pc' := 9) rfl rfl ?_
  refine X_putI (ci := 4) (f := 2) (show decode (mB 61) 9 = .ok (.putfield 22, 3) by decide +kernel) (pc' := 12) rfl (ls_11 hL) (by decide +kernel) (by decide +kernel) rfl ?_
  refine X_aload_n (q := 0) (show decode (mB 61) 12 = .ok (.aload_n 0, 1) by decide +kernel) (pc' := 13) rfl rfl rfl ?_
  refine X_aload_n (q := 1) (show decode (mB 61) 13 = .ok (.aload_n 1, 1) by decide +kernel) (pc' := 14) rfl rfl rfl ?_
  refine X_putR (ci := 4) (f := 1) (show decode (mB 61) 14 = .ok (.putfield 26, 3) by decide +kernel) (pc' := 17) rfl (ls_11 hL) (by decide +kernel) (by decide +kernel) rfl ?_
  refine X_aload_n (q := 0) (show decode (mB 61) 17 = .ok (.aload_n 0, 1) by decide +kernel) (pc' := 18) rfl rfl rfl ?_
  refine X_getR (ci := 4) (f := 1) (q := r1) (show decode (mB 61) 18 = .ok (.getfield 26, 3) by decide +kernel) (pc' := 21) rfl (ls_11 hL) (by decide +kernel) rfl (by simp [u2, u1]) ?_
  refine X_iconst (v := 0) (show decode (mB 61) 21 = .ok (.iconst 0, 1) by decide +kernel) (pc' := 22) rfl rfl ?_
  refine X_putI (ci := 5) (f := 1) (show decode (mB 61) 22 = .ok (.putfield 30, 3) by decide +kernel) (pc' := 25) rfl h_r1.s0 (by decide +kernel) (by decide +kernel) rfl ?_
  exact X_return (show decode (mB 61) 25 = .ok (.return_, 1) by decide +kernel) (by decide +kernel) k
set_option maxRecDepth 4000 in
theorem b_X6c_takeSign_0 {xs : Nat → Int32} {L d : Nat} {S : Nat → Shp} {I : Nat → Nat → Int32} {J : Nat → Nat → Int64} {R : Nat → Nat → Nat} {c : Nat × Nat} {Q : Option (Option Value) → MH → Prop} {x1 : Int32} (hL : Lay S R)  (k : X xs L d 93 0 [.ref 4] [] (S, I, J, R, c) (Kc xs L (d + 1) 62 7 [.ref 8, .int x1] [] Q)) : X xs L (d + 1) 62 0 [.ref 8, .int x1] [] (S, I, J, R, c) Q := by
  refine X_aload_n (q := 0) (show decode (mB 62) 0 = .ok (.aload_n 0, 1) by decide +kernel) (pc' := 1) rfl rfl rfl ?_
  refine X_getR (ci := 2) (f := 0) (q := 4) (show decode (mB 62) 1 = .ok (.getfield 13, 3) by decide +kernel) (pc' := 4) rfl (ls_8 hL) (by decide +kernel) rfl (lr_8_0 hL) ?_
  exact X_callV (y := 93) (n := 0) (st := [.ref 4]) (as := [.ref 4]) (rest := []) (ls0 := [.ref 4]) (ci := 8) (show decode (mB 62) 4 = .ok (.invokevirtual 35, 3) by decide +kernel) (pc' := 7) rfl (by decide +kernel) (by decide +kernel) rfl (ls_4 hL) (by decide +kernel) rfl rfl rfl rfl rfl k
set_option maxRecDepth 4000 in
theorem b_X6c_takeSign_7 {xs : Nat → Int32} {L d : Nat} {S : Nat → Shp} {I : Nat → Nat → Int32} {J : Nat → Nat → Int64} {R : Nat → Nat → Nat} {c : Nat × Nat} {Q : Option (Option Value) → MH → Prop} {x1 sx0 : Int32}  (kt : sx0 = x1 → X xs L (d + 1) 62 13 [.ref 8, .int x1] [] (S, I, J, R, c) Q) (kf : ¬ (sx0 = x1) → X xs L (d + 1) 62 11 [.ref 8, .int x1] [] (S, I, J, R, c) Q) : X xs L (d + 1) 62 7 [.ref 8, .int x1] [.int sx0] (S, I, J, R, c) Q := by
  refine X_iload_n (q := 1) (show decode (mB 62) 7 = .ok (.iload_n 1, 1) by decide +kernel) (pc' := 8) rfl rfl rfl ?_
  exact X_icmp_eq (tgt := 13) (show decode (mB 62) 8 = .ok (.if_icmp .eq 5, 3) by decide +kernel) rfl (pc' := 11) rfl kt kf
set_option maxRecDepth 4000 in
theorem b_X6c_takeSign_11 {xs : Nat → Int32} {L d : Nat} {S : Nat → Shp} {I : Nat → Nat → Int32} {J : Nat → Nat → Int64} {R : Nat → Nat → Nat} {c : Nat × Nat} {Q : Option (Option Value) → MH → Prop} {x1 : Int32}  (k : Q (some (some (.int 0))) (S, I, J, R, c)) : X xs L (d + 1) 62 11 [.ref 8, .int x1] [] (S, I, J, R, c) Q := by
  refine X_iconst (v := 0) (show decode (mB 62) 11 = .ok (.iconst 0, 1) by decide +kernel) (pc' := 12) rfl rfl ?_
  exact X_ireturn (ty := .boolean) (show decode (mB 62) 12 = .ok (.ireturn, 1) by decide +kernel) (by decide +kernel) rfl k
set_option maxRecDepth 4000 in
theorem b_X6c_takeSign_13 {xs : Nat → Int32} {L d : Nat} {S : Nat → Shp} {I : Nat → Nat → Int32} {J : Nat → Nat → Int64} {R : Nat → Nat → Nat} {c : Nat × Nat} {Q : Option (Option Value) → MH → Prop} {x1 : Int32} (hL : Lay S R)  (k : X xs L d 100 0 [.ref 4] [] (S, I, J, R, c) (Kc xs L (d + 1) 62 20 [.ref 8, .int x1] [] Q)) : X xs L (d + 1) 62 13 [.ref 8, .int x1] [] (S, I, J, R, c) Q := by
  refine X_aload_n (q := 0) (show decode (mB 62) 13 = .ok (.aload_n 0, 1) by decide +kernel) (pc' := 14) rfl rfl rfl ?_
  refine X_getR (ci := 2) (f := 0) (q := 4) (show decode (mB 62) 14 = .ok (.getfield 13, 3) by decide +kernel) (pc' := 17) rfl (ls_8 hL) (by decide +kernel) rfl (lr_8_0 hL) ?_
  exact X_callV (y := 100) (n := 0) (st := [.ref 4]) (as := [.ref 4]) (rest := []) (ls0 := [.ref 4]) (ci := 8) (show decode (mB 62) 17 = .ok (.invokevirtual 39, 3) by decide +kernel) (pc' := 20) rfl (by decide +kernel) (by decide +kernel) rfl (ls_4 hL) (by decide +kernel) rfl rfl rfl rfl rfl k
set_option maxRecDepth 4000 in
theorem b_X6c_takeSign_20 {xs : Nat → Int32} {L d : Nat} {S : Nat → Shp} {I : Nat → Nat → Int32} {J : Nat → Nat → Int64} {R : Nat → Nat → Nat} {c : Nat × Nat} {Q : Option (Option Value) → MH → Prop} {x1 : Int32}  (k : Q (some (some (.int 1))) (S, I, J, R, c)) : X xs L (d + 1) 62 20 [.ref 8, .int x1] [] (S, I, J, R, c) Q := by
  refine X_iconst (v := 1) (show decode (mB 62) 20 = .ok (.iconst 1, 1) by decide +kernel) (pc' := 21) rfl rfl ?_
  exact X_ireturn (ty := .boolean) (show decode (mB 62) 21 = .ok (.ireturn, 1) by decide +kernel) (by decide +kernel) rfl k
set_option maxRecDepth 4000 in
theorem b_X6k_takeSign_0 {xs : Nat → Int32} {L d : Nat} {S : Nat → Shp} {I : Nat → Nat → Int32} {J : Nat → Nat → Int64} {R : Nat → Nat → Nat} {c : Nat × Nat} {Q : Option (Option Value) → MH → Prop} {x1 : Int32} (hL : Lay S R)  (k : X xs L d 93 0 [.ref 4] [] (S, I, J, R, c) (Kc xs L (d + 1) 62 7 [.ref 11, .int x1] [] Q)) : X xs L (d + 1) 62 0 [.ref 11, .int x1] [] (S, I, J, R, c) Q := by
  refine X_aload_n (q := 0) (show decode (mB 62) 0 = .ok (.aload_n 0, 1) by decide +kernel) (pc' := 1) rfl rfl rfl ?_
  refine X_getR (ci := 4) (f := 0) (q := 4) (show decode (mB 62) 1 = .ok (.getfield 13, 3) by decide +kernel) (pc' := 4) rfl (ls_11 hL) (by decide +kernel) rfl (lr_11_0 hL) ?_
  exact X_callV (y := 93) (n := 0) (st := [.ref 4]) (as := [.ref 4]) (rest := []) (ls0 := [.ref 4]) (ci := 8) (show decode (mB 62) 4 = .ok (.invokevirtual 35, 3) by decide +kernel) (pc' := 7) rfl (by decide +kernel) (by decide +kernel) rfl (ls_4 hL) (by decide +kernel) rfl rfl rfl rfl rfl k
set_option maxRecDepth 4000 in
theorem b_X6k_takeSign_7 {xs : Nat → Int32} {L d : Nat} {S : Nat → Shp} {I : Nat → Nat → Int32} {J : Nat → Nat → Int64} {R : Nat → Nat → Nat} {c : Nat × Nat} {Q : Option (Option Value) → MH → Prop} {x1 sx0 : Int32}  (kt : sx0 = x1 → X xs L (d + 1) 62 13 [.ref 11, .int x1] [] (S, I, J, R, c) Q) (kf : ¬ (sx0 = x1) → X xs L (d + 1) 62 11 [.ref 11, .int x1] [] (S, I, J, R, c) Q) : X xs L (d + 1) 62 7 [.ref 11, .int x1] [.int sx0] (S, I, J, R, c) Q := by
  refine X_iload_n (q := 1) (show decode (mB 62) 7 = .ok (.iload_n 1, 1) by decide +kernel) (pc' := 8) rfl rfl rfl ?_
  exact X_icmp_eq (tgt := 13) (show decode (mB 62) 8 = .ok (.if_icmp .eq 5, 3) by decide +kernel) rfl (pc' := 11) rfl kt kf
set_option maxRecDepth 4000 in
theorem b_X6k_takeSign_11 {xs : Nat → Int32} {L d : Nat} {S : Nat → Shp} {I : Nat → Nat → Int32} {J : Nat → Nat → Int64} {R : Nat → Nat → Nat} {c : Nat × Nat} {Q : Option (Option Value) → MH → Prop} {x1 : Int32}  (k : Q (some (some (.int 0))) (S, I, J, R, c)) : X xs L (d + 1) 62 11 [.ref 11, .int x1] [] (S, I, J, R, c) Q := by
  refine X_iconst (v := 0) (show decode (mB 62) 11 = .ok (.iconst 0, 1) by decide +kernel) (pc' := 12) rfl rfl ?_
  exact X_ireturn (ty := .boolean) (show decode (mB 62) 12 = .ok (.ireturn, 1) by decide +kernel) (by decide +kernel) rfl k
set_option maxRecDepth 4000 in
theorem b_X6k_takeSign_13 {xs : Nat → Int32} {L d : Nat} {S : Nat → Shp} {I : Nat → Nat → Int32} {J : Nat → Nat → Int64} {R : Nat → Nat → Nat} {c : Nat × Nat} {Q : Option (Option Value) → MH → Prop} {x1 : Int32} (hL : Lay S R)  (k : X xs L d 100 0 [.ref 4] [] (S, I, J, R, c) (Kc xs L (d + 1) 62 20 [.ref 11, .int x1] [] Q)) : X xs L (d + 1) 62 13 [.ref 11, .int x1] [] (S, I, J, R, c) Q := by
  refine X_aload_n (q := 0) (show decode (mB 62) 13 = .ok (.aload_n 0, 1) by decide +kernel) (pc' := 14) rfl rfl rfl ?_
  refine X_getR (ci := 4) (f := 0) (q := 4) (show decode (mB 62) 14 = .ok (.getfield 13, 3) by decide +kernel) (pc' := 17) rfl (ls_11 hL) (by decide +kernel) rfl (lr_11_0 hL) ?_
  exact X_callV (y := 100) (n := 0) (st := [.ref 4]) (as := [.ref 4]) (rest := []) (ls0 := [.ref 4]) (ci := 8) (show decode (mB 62) 17 = .ok (.invokevirtual 39, 3) by decide +kernel) (pc' := 20) rfl (by decide +kernel) (by decide +kernel) rfl (ls_4 hL) (by decide +kernel) rfl rfl rfl rfl rfl k
set_option maxRecDepth 4000 in
theorem b_X6k_takeSign_20 {xs : Nat → Int32} {L d : Nat} {S : Nat → Shp} {I : Nat → Nat → Int32} {J : Nat → Nat → Int64} {R : Nat → Nat → Nat} {c : Nat × Nat} {Q : Option (Option Value) → MH → Prop} {x1 : Int32}  (k : Q (some (some (.int 1))) (S, I, J, R, c)) : X xs L (d + 1) 62 20 [.ref 11, .int x1] [] (S, I, J, R, c) Q := by
  refine X_iconst (v := 1) (show decode (mB 62) 20 = .ok (.iconst 1, 1) by decide +kernel) (pc' := 21) rfl rfl ?_
  exact X_ireturn (ty := .boolean) (show decode (mB 62) 21 = .ok (.ireturn, 1) by decide +kernel) (by decide +kernel) rfl k
set_option maxRecDepth 4000 in
theorem b_X6c_takeWord_0 {xs : Nat → Int32} {L d : Nat} {S : Nat → Shp} {I : Nat → Nat → Int32} {J : Nat → Nat → Int64} {R : Nat → Nat → Nat} {c : Nat × Nat} {Q : Option (Option Value) → MH → Prop} {y1 : Int64} (hL : Lay S R)  (k : X xs L d 93 0 [.ref 4] [] (S, I, J, R, c) (Kc xs L (d + 1) 63 7 [.ref 8, .long y1, .null] [] Q)) : X xs L (d + 1) 63 0 [.ref 8, .long y1, .null] [] (S, I, J, R, c) Q := by
  refine X_aload_n (q := 0) (show decode (mB 63) 0 = .ok (.aload_n 0, 1) by decide +kernel) (pc' := 1) rfl rfl rfl ?_
  refine X_getR (ci := 2) (f := 0) (q := 4) (show decode (mB 63) 1 = .ok (.getfield 13, 3) by decide +kernel) (pc' := 4) rfl (ls_8 hL) (by decide +kernel) rfl (lr_8_0 hL) ?_
  exact X_callV (y := 93) (n := 0) (st := [.ref 4]) (as := [.ref 4]) (rest := []) (ls0 := [.ref 4]) (ci := 8) (show decode (mB 63) 4 = .ok (.invokevirtual 35, 3) by decide +kernel) (pc' := 7) rfl (by decide +kernel) (by decide +kernel) rfl (ls_4 hL) (by decide +kernel) rfl rfl rfl rfl rfl k
set_option maxRecDepth 4000 in
theorem b_X6c_takeWord_7 {xs : Nat → Int32} {L d : Nat} {S : Nat → Shp} {I : Nat → Nat → Int32} {J : Nat → Nat → Int64} {R : Nat → Nat → Nat} {c : Nat × Nat} {Q : Option (Option Value) → MH → Prop} {y1 : Int64} {sx0 : Int32}  (kt : ¬ sx0 = 3 → X xs L (d + 1) 63 23 [.ref 8, .long y1, .null] [] (S, I, J, R, c) Q) (kf : ¬ (¬ sx0 = 3) → X xs L (d + 1) 63 11 [.ref 8, .long y1, .null] [] (S, I, J, R, c) Q) : X xs L (d + 1) 63 7 [.ref 8, .long y1, .null] [.int sx0] (S, I, J, R, c) Q := by
  refine X_iconst (v := 3) (show decode (mB 63) 7 = .ok (.iconst 3, 1) by decide +kernel) (pc' := 8) rfl rfl ?_
  exact X_icmp_ne (tgt := 23) (show decode (mB 63) 8 = .ok (.if_icmp .ne 15, 3) by decide +kernel) rfl (pc' := 11) rfl kt kf
set_option maxRecDepth 4000 in
theorem b_X6c_takeWord_11 {xs : Nat → Int32} {L d : Nat} {S : Nat → Shp} {I : Nat → Nat → Int32} {J : Nat → Nat → Int64} {R : Nat → Nat → Nat} {c : Nat × Nat} {Q : Option (Option Value) → MH → Prop} {y1 : Int64} (hL : Lay S R)  (k : X xs L d 95 0 [.ref 4] [] (S, I, J, R, c) (Kc xs L (d + 1) 63 18 [.ref 8, .long y1, .null] [] Q)) : X xs L (d + 1) 63 11 [.ref 8, .long y1, .null] [] (S, I, J, R, c) Q := by
  refine X_aload_n (q := 0) (show decode (mB 63) 11 = .ok (.aload_n 0, 1) by decide +kernel) (pc' := 12) rfl rfl rfl ?_
  refine X_getR (ci := 2) (f := 0) (q := 4) (show decode (mB 63) 12 = .ok (.getfield 13, 3) by decide +kernel) (pc' := 15) rfl (ls_8 hL) (by decide +kernel) rfl (lr_8_0 hL) ?_
  exact X_callV (y := 95) (n := 0) (st := [.ref 4]) (as := [.ref 4]) (rest := []) (ls0 := [.ref 4]) (ci := 8) (show decode (mB 63) 15 = .ok (.invokevirtual 42, 3) by decide +kernel) (pc' := 18) rfl (by decide +kernel) (by decide +kernel) rfl (ls_4 hL) (by decide +kernel) rfl rfl rfl rfl rfl k
set_option maxRecDepth 4000 in
theorem b_X6c_takeWord_18 {xs : Nat → Int32} {L d : Nat} {S : Nat → Shp} {I : Nat → Nat → Int32} {J : Nat → Nat → Int64} {R : Nat → Nat → Nat} {c : Nat × Nat} {Q : Option (Option Value) → MH → Prop} {y1 sy0 : Int64}  (kt : (lg_cmp sy0 y1) = 0 → X xs L (d + 1) 63 25 [.ref 8, .long y1, .null] [] (S, I, J, R, c) Q) (kf : ¬ ((lg_cmp sy0 y1) = 0) → X xs L (d + 1) 63 23 [.ref 8, .long y1, .null] [] (S, I, J, R, c) Q) : X xs L (d + 1) 63 18 [.ref 8, .long y1, .null] [.long sy0] (S, I, J, R, c) Q := by
  refine X_lload_n (q := 1) (show decode (mB 63) 18 = .ok (.lload_n 1, 1) by decide +kernel) (pc' := 19) rfl rfl rfl ?_
  refine X_lcmp (show decode (mB 63) 19 = .ok (.lcmp, 1) by decide +kernel) (pc' := 20) rfl ?_
  exact X_if_eq (tgt := 25) (show decode (mB 63) 20 = .ok (.ifCond .eq 5, 3) by decide +kernel) rfl (pc' := 23) rfl kt kf
set_option maxRecDepth 4000 in
theorem b_X6c_takeWord_23 {xs : Nat → Int32} {L d : Nat} {S : Nat → Shp} {I : Nat → Nat → Int32} {J : Nat → Nat → Int64} {R : Nat → Nat → Nat} {c : Nat × Nat} {Q : Option (Option Value) → MH → Prop} {y1 : Int64}  (k : Q (some (some (.int 0))) (S, I, J, R, c)) : X xs L (d + 1) 63 23 [.ref 8, .long y1, .null] [] (S, I, J, R, c) Q := by
  refine X_iconst (v := 0) (show decode (mB 63) 23 = .ok (.iconst 0, 1) by decide +kernel) (pc' := 24) rfl rfl ?_
  exact X_ireturn (ty := .boolean) (show decode (mB 63) 24 = .ok (.ireturn, 1) by decide +kernel) (by decide +kernel) rfl k
set_option maxRecDepth 4000 in
theorem b_X6c_takeWord_25 {xs : Nat → Int32} {L d : Nat} {S : Nat → Shp} {I : Nat → Nat → Int32} {J : Nat → Nat → Int64} {R : Nat → Nat → Nat} {c : Nat × Nat} {Q : Option (Option Value) → MH → Prop} {y1 : Int64} (hL : Lay S R)  (k : X xs L d 100 0 [.ref 4] [] (S, I, J, R, c) (Kc xs L (d + 1) 63 32 [.ref 8, .long y1, .null] [] Q)) : X xs L (d + 1) 63 25 [.ref 8, .long y1, .null] [] (S, I, J, R, c) Q := by
  refine X_aload_n (q := 0) (show decode (mB 63) 25 = .ok (.aload_n 0, 1) by decide +kernel) (pc' := 26) rfl rfl rfl ?_
  refine X_getR (ci := 2) (f := 0) (q := 4) (show decode (mB 63) 26 = .ok (.getfield 13, 3) by decide +kernel) (pc' := 29) rfl (ls_8 hL) (by decide +kernel) rfl (lr_8_0 hL) ?_
  exact X_callV (y := 100) (n := 0) (st := [.ref 4]) (as := [.ref 4]) (rest := []) (ls0 := [.ref 4]) (ci := 8) (show decode (mB 63) 29 = .ok (.invokevirtual 39, 3) by decide +kernel) (pc' := 32) rfl (by decide +kernel) (by decide +kernel) rfl (ls_4 hL) (by decide +kernel) rfl rfl rfl rfl rfl k
set_option maxRecDepth 4000 in
theorem b_X6c_takeWord_32 {xs : Nat → Int32} {L d : Nat} {S : Nat → Shp} {I : Nat → Nat → Int32} {J : Nat → Nat → Int64} {R : Nat → Nat → Nat} {c : Nat × Nat} {Q : Option (Option Value) → MH → Prop} {y1 : Int64}  (k : Q (some (some (.int 1))) (S, I, J, R, c)) : X xs L (d + 1) 63 32 [.ref 8, .long y1, .null] [] (S, I, J, R, c) Q := by
  refine X_iconst (v := 1) (show decode (mB 63) 32 = .ok (.iconst 1, 1) by decide +kernel) (pc' := 33) rfl rfl ?_
  exact X_ireturn (ty := .boolean) (show decode (mB 63) 33 = .ok (.ireturn, 1) by decide +kernel) (by decide +kernel) rfl k
set_option maxRecDepth 4000 in
theorem b_X6k_takeWord_0 {xs : Nat → Int32} {L d : Nat} {S : Nat → Shp} {I : Nat → Nat → Int32} {J : Nat → Nat → Int64} {R : Nat → Nat → Nat} {c : Nat × Nat} {Q : Option (Option Value) → MH → Prop} {y1 : Int64} (hL : Lay S R)  (k : X xs L d 93 0 [.ref 4] [] (S, I, J, R, c) (Kc xs L (d + 1) 63 7 [.ref 11, .long y1, .null] [] Q)) : X xs L (d + 1) 63 0 [.ref 11, .long y1, .null] [] (S, I, J, R, c) Q := by
  refine X_aload_n (q := 0) (show decode (mB 63) 0 = .ok (.aload_n 0, 1) by decide +kernel) (pc' := 1) rfl rfl rfl ?_
  refine X_getR (ci := 4) (f := 0) (q := 4) (show decode (mB 63) 1 = .ok (.getfield 13, 3) by decide +kernel) (pc' := 4) rfl (ls_11 hL) (by decide +kernel) rfl (lr_11_0 hL) ?_
  exact X_callV (y := 93) (n := 0) (st := [.ref 4]) (as := [.ref 4]) (rest := []) (ls0 := [.ref 4]) (ci := 8) (show decode (mB 63) 4 = .ok (.invokevirtual 35, 3) by decide +kernel) (pc' := 7) rfl (by decide +kernel) (by decide +kernel) rfl (ls_4 hL) (by decide +kernel) rfl rfl rfl rfl rfl k
set_option maxRecDepth 4000 in
theorem b_X6k_takeWord_7 {xs : Nat → Int32} {L d : Nat} {S : Nat → Shp} {I : Nat → Nat → Int32} {J : Nat → Nat → Int64} {R : Nat → Nat → Nat} {c : Nat × Nat} {Q : Option (Option Value) → MH → Prop} {y1 : Int64} {sx0 : Int32}  (kt : ¬ sx0 = 3 → X xs L (d + 1) 63 23 [.ref 11, .long y1, .null] [] (S, I, J, R, c) Q) (kf : ¬ (¬ sx0 = 3) → X xs L (d + 1) 63 11 [.ref 11, .long y1, .null] [] (S, I, J, R, c) Q) : X xs L (d + 1) 63 7 [.ref 11, .long y1, .null] [.int sx0] (S, I, J, R, c) Q := by
  refine X_iconst (v := 3) (show decode (mB 63) 7 = .ok (.iconst 3, 1) by decide +kernel) (pc' := 8) rfl rfl ?_
  exact X_icmp_ne (tgt := 23) (show decode (mB 63) 8 = .ok (.if_icmp .ne 15, 3) by decide +kernel) rfl (pc' := 11) rfl kt kf
set_option maxRecDepth 4000 in
theorem b_X6k_takeWord_11 {xs : Nat → Int32} {L d : Nat} {S : Nat → Shp} {I : Nat → Nat → Int32} {J : Nat → Nat → Int64} {R : Nat → Nat → Nat} {c : Nat × Nat} {Q : Option (Option Value) → MH → Prop} {y1 : Int64} (hL : Lay S R)  (k : X xs L d 95 0 [.ref 4] [] (S, I, J, R, c) (Kc xs L (d + 1) 63 18 [.ref 11, .long y1, .null] [] Q)) : X xs L (d + 1) 63 11 [.ref 11, .long y1, .null] [] (S, I, J, R, c) Q := by
  refine X_aload_n (q := 0) (show decode (mB 63) 11 = .ok (.aload_n 0, 1) by decide +kernel) (pc' := 12) rfl rfl rfl ?_
  refine X_getR (ci := 4) (f := 0) (q := 4) (show decode (mB 63) 12 = .ok (.getfield 13, 3) by decide +kernel) (pc' := 15) rfl (ls_11 hL) (by decide +kernel) rfl (lr_11_0 hL) ?_
  exact X_callV (y := 95) (n := 0) (st := [.ref 4]) (as := [.ref 4]) (rest := []) (ls0 := [.ref 4]) (ci := 8) (show decode (mB 63) 15 = .ok (.invokevirtual 42, 3) by decide +kernel) (pc' := 18) rfl (by decide +kernel) (by decide +kernel) rfl (ls_4 hL) (by decide +kernel) rfl rfl rfl rfl rfl k
set_option maxRecDepth 4000 in
theorem b_X6k_takeWord_18 {xs : Nat → Int32} {L d : Nat} {S : Nat → Shp} {I : Nat → Nat → Int32} {J : Nat → Nat → Int64} {R : Nat → Nat → Nat} {c : Nat × Nat} {Q : Option (Option Value) → MH → Prop} {y1 sy0 : Int64}  (kt : (lg_cmp sy0 y1) = 0 → X xs L (d + 1) 63 25 [.ref 11, .long y1, .null] [] (S, I, J, R, c) Q) (kf : ¬ ((lg_cmp sy0 y1) = 0) → X xs L (d + 1) 63 23 [.ref 11, .long y1, .null] [] (S, I, J, R, c) Q) : X xs L (d + 1) 63 18 [.ref 11, .long y1, .null] [.long sy0] (S, I, J, R, c) Q := by
  refine X_lload_n (q := 1) (show decode (mB 63) 18 = .ok (.lload_n 1, 1) by decide +kernel) (pc' := 19) rfl rfl rfl ?_
  refine X_lcmp (show decode (mB 63) 19 = .ok (.lcmp, 1) by decide +kernel) (pc' := 20) rfl ?_
  exact X_if_eq (tgt := 25) (show decode (mB 63) 20 = .ok (.ifCond .eq 5, 3) by decide +kernel) rfl (pc' := 23) rfl kt kf
set_option maxRecDepth 4000 in
theorem b_X6k_takeWord_23 {xs : Nat → Int32} {L d : Nat} {S : Nat → Shp} {I : Nat → Nat → Int32} {J : Nat → Nat → Int64} {R : Nat → Nat → Nat} {c : Nat × Nat} {Q : Option (Option Value) → MH → Prop} {y1 : Int64}  (k : Q (some (some (.int 0))) (S, I, J, R, c)) : X xs L (d + 1) 63 23 [.ref 11, .long y1, .null] [] (S, I, J, R, c) Q := by
  refine X_iconst (v := 0) (show decode (mB 63) 23 = .ok (.iconst 0, 1) by decide +kernel) (pc' := 24) rfl rfl ?_
  exact X_ireturn (ty := .boolean) (show decode (mB 63) 24 = .ok (.ireturn, 1) by decide +kernel) (by decide +kernel) rfl k
set_option maxRecDepth 4000 in
theorem b_X6k_takeWord_25 {xs : Nat → Int32} {L d : Nat} {S : Nat → Shp} {I : Nat → Nat → Int32} {J : Nat → Nat → Int64} {R : Nat → Nat → Nat} {c : Nat × Nat} {Q : Option (Option Value) → MH → Prop} {y1 : Int64} (hL : Lay S R)  (k : X xs L d 100 0 [.ref 4] [] (S, I, J, R, c) (Kc xs L (d + 1) 63 32 [.ref 11, .long y1, .null] [] Q)) : X xs L (d + 1) 63 25 [.ref 11, .long y1, .null] [] (S, I, J, R, c) Q := by
  refine X_aload_n (q := 0) (show decode (mB 63) 25 = .ok (.aload_n 0, 1) by decide +kernel) (pc' := 26) rfl rfl rfl ?_
  refine X_getR (ci := 4) (f := 0) (q := 4) (show decode (mB 63) 26 = .ok (.getfield 13, 3) by decide +kernel) (pc' := 29) rfl (ls_11 hL) (by decide +kernel) rfl (lr_11_0 hL) ?_
  exact X_callV (y := 100) (n := 0) (st := [.ref 4]) (as := [.ref 4]) (rest := []) (ls0 := [.ref 4]) (ci := 8) (show decode (mB 63) 29 = .ok (.invokevirtual 39, 3) by decide +kernel) (pc' := 32) rfl (by decide +kernel) (by decide +kernel) rfl (ls_4 hL) (by decide +kernel) rfl rfl rfl rfl rfl k
set_option maxRecDepth 4000 in
theorem b_X6k_takeWord_32 {xs : Nat → Int32} {L d : Nat} {S : Nat → Shp} {I : Nat → Nat → Int32} {J : Nat → Nat → Int64} {R : Nat → Nat → Nat} {c : Nat × Nat} {Q : Option (Option Value) → MH → Prop} {y1 : Int64}  (k : Q (some (some (.int 1))) (S, I, J, R, c)) : X xs L (d + 1) 63 32 [.ref 11, .long y1, .null] [] (S, I, J, R, c) Q := by
  refine X_iconst (v := 1) (show decode (mB 63) 32 = .ok (.iconst 1, 1) by decide +kernel) (pc' := 33) rfl rfl ?_
  exact X_ireturn (ty := .boolean) (show decode (mB 63) 33 = .ok (.ireturn, 1) by decide +kernel) (by decide +kernel) rfl k
set_option maxRecDepth 4000 in
theorem b_X6c_takeFormula_0 {xs : Nat → Int32} {L d : Nat} {S : Nat → Shp} {I : Nat → Nat → Int32} {J : Nat → Nat → Int64} {R : Nat → Nat → Nat} {c : Nat × Nat} {Q : Option (Option Value) → MH → Prop}  (hL : Lay S R)  (k : X xs L (d + 1) 64 12 [.ref 8, .int 0, .null] [] (S, (u2 (u2 I 8 4 0) 8 5 0), J, R, c) Q) : X xs L (d + 1) 64 0 [.ref 8, .null, .null] [] (S, I, J, R, c) Q := by
  refine X_aload_n (q := 0) (show decode (mB 64) 0 = .ok (.aload_n 0, 1) by decide +kernel) (pc' := 1) rfl rfl rfl ?_
  refine X_iconst (v := 0) (show decode (mB 64) 1 = .ok (.iconst 0, 1) by decide +kernel) (pc' := 2) rfl rfl ?_
  refine X_putI (ci := 2) (f := 4) (show decode (mB 64) 2 = .ok (.putfield 46, 3) by decide +kernel) (pc' := 5) rfl (ls_8 hL) (by decide +kernel) (by decide +kernel) rfl ?_
  refine X_aload_n (q := 0) (show decode (mB 64) 5 = .ok (.aload_n 0, 1) by decide +kernel) (pc' := 6) rfl rfl rfl ?_
  refine X_iconst (v := 0) (show decode (mB 64) 6 = .ok (.iconst 0, 1) by decide +kernel) (pc' := 7) rfl rfl ?_
  refine X_putI (ci := 2) (f := 5) (show decode (mB 64) 7 = .ok (.putfield 49, 3) by decide +kernel) (pc' := 10) rfl (ls_8 hL) (by decide +kernel) (by decide +kernel) rfl ?_
  refine X_iconst (v := 0) (show decode (mB 64) 10 = .ok (.iconst 0, 1) by decide +kernel) (pc' := 11) rfl rfl ?_
  refine X_istore_n (q := 1) (ls' := [.ref 8, .int 0, .null]) (show decode (mB 64) 11 = .ok (.istore_n 1, 1) by decide +kernel) (pc' := 12) rfl rfl rfl ?_
  exact k
set_option maxRecDepth 4000 in
theorem b_X6c_takeFormula_12 {xs : Nat → Int32} {L d : Nat} {S : Nat → Shp} {I : Nat → Nat → Int32} {J : Nat → Nat → Int64} {R : Nat → Nat → Nat} {c : Nat × Nat} {Q : Option (Option Value) → MH → Prop} {x1 : Int32} {v2 : Value}  (kt : 2000 ≤ x1 → X xs L (d + 1) 64 109 [.ref 8, .int x1, v2] [] (S, I, J, R, c) Q) (kf : ¬ (2000 ≤ x1) → X xs L (d + 1) 64 19 [.ref 8, .int x1, v2] [] (S, I, J, R, c) Q) : X xs L (d + 1) 64 12 [.ref 8, .int x1, v2] [] (S, I, J, R, c) Q := by
  refine X_iload_n (q := 1) (show decode (mB 64) 12 = .ok (.iload_n 1, 1) by decide +kernel) (pc' := 13) rfl rfl rfl ?_
  refine X_sipush (v := 2000) (show decode (mB 64) 13 = .ok (.sipush 2000, 3) by decide +kernel) (pc' := 16) rfl (by decide +kernel) ?_
  exact X_icmp_ge (tgt := 109) (show decode (mB 64) 16 = .ok (.if_icmp .ge 93, 3) by decide +kernel) rfl (pc' := 19) rfl kt kf
set_option maxRecDepth 4000 in
theorem b_X6c_takeFormula_19 {xs : Nat → Int32} {L d : Nat} {S : Nat → Shp} {I : Nat → Nat → Int32} {J : Nat → Nat → Int64} {R : Nat → Nat → Nat} {c : Nat × Nat} {Q : Option (Option Value) → MH → Prop} {x1 : Int32} {v2 : Value} (hL : Lay S R)  (k : X xs L d 65 0 [.ref 8, .null, .null] [] (S, I, J, R, c) (Kc xs L (d + 1) 64 23 [.ref 8, .int x1, v2] [] Q)) : X xs L (d + 1) 64 19 [.ref 8, .int x1, v2] [] (S, I, J, R, c) Q := by
  refine X_aload_n (q := 0) (show decode (mB 64) 19 = .ok (.aload_n 0, 1) by decide +kernel) (pc' := 20) rfl rfl rfl ?_
  exact X_callV (y := 65) (n := 0) (st := [.ref 8]) (as := [.ref 8]) (rest := []) (ls0 := [.ref 8, .null, .null]) (ci := 2) (show decode (mB 64) 20 = .ok (.invokevirtual 54, 3) by decide +kernel) (pc' := 23) rfl (by decide +kernel) (by decide +kernel) rfl (ls_8 hL) (by decide +kernel) rfl rfl rfl rfl rfl k
set_option maxRecDepth 4000 in
theorem b_X6c_takeFormula_23 {xs : Nat → Int32} {L d : Nat} {S : Nat → Shp} {I : Nat → Nat → Int32} {J : Nat → Nat → Int64} {R : Nat → Nat → Nat} {c : Nat × Nat} {Q : Option (Option Value) → MH → Prop} {x1 sx0 : Int32} {v2 : Value}  (kt : sx0 = 0 → X xs L (d + 1) 64 33 [.ref 8, .int x1, v2] [] (S, I, J, R, c) Q) (kf : ¬ (sx0 = 0) → X xs L (d + 1) 64 26 [.ref 8, .int x1, v2] [] (S, I, J, R, c) Q) : X xs L (d + 1) 64 23 [.ref 8, .int x1, v2] [.int sx0] (S, I, J, R, c) Q := by
  exact X_if_eq (tgt := 33) (show decode (mB 64) 23 = .ok (.ifCond .eq 10, 3) by decide +kernel) rfl (pc' := 26) rfl kt kf
set_option maxRecDepth 4000 in
theorem b_X6c_takeFormula_26 {xs : Nat → Int32} {L d : Nat} {S : Nat → Shp} {I : Nat → Nat → Int32} {J : Nat → Nat → Int64} {R : Nat → Nat → Nat} {c : Nat × Nat} {Q : Option (Option Value) → MH → Prop} {x1 : Int32} {v2 : Value} (hL : Lay S R)  (k : X xs L d 70 0 [.ref 8] [] (S, I, J, R, c) (Kc xs L (d + 1) 64 30 [.ref 8, .int x1, v2] [] Q)) : X xs L (d + 1) 64 26 [.ref 8, .int x1, v2] [] (S, I, J, R, c) Q := by
  refine X_aload_n (q := 0) (show decode (mB 64) 26 = .ok (.aload_n 0, 1) by decide +kernel) (pc' := 27) rfl rfl rfl ?_
  exact X_callV (y := 70) (n := 0) (st := [.ref 8]) (as := [.ref 8]) (rest := []) (ls0 := [.ref 8]) (ci := 2) (show decode (mB 64) 27 = .ok (.invokevirtual 58, 3) by decide +kernel) (pc' := 30) rfl (by decide +kernel) (by decide +kernel) rfl (ls_8 hL) (by decide +kernel) rfl rfl rfl rfl rfl k
set_option maxRecDepth 4000 in
theorem b_X6c_takeFormula_30 {xs : Nat → Int32} {L d : Nat} {S : Nat → Shp} {I : Nat → Nat → Int32} {J : Nat → Nat → Int64} {R : Nat → Nat → Nat} {c : Nat × Nat} {Q : Option (Option Value) → MH → Prop} {x1 sx0 : Int32} {v2 : Value}  (kt : ¬ sx0 = 0 → X xs L (d + 1) 64 35 [.ref 8, .int x1, v2] [] (S, I, J, R, c) Q) (kf : ¬ (¬ sx0 = 0) → X xs L (d + 1) 64 33 [.ref 8, .int x1, v2] [] (S, I, J, R, c) Q) : X xs L (d + 1) 64 30 [.ref 8, .int x1, v2] [.int sx0] (S, I, J, R, c) Q := by
  exact X_if_ne (tgt := 35) (show decode (mB 64) 30 = .ok (.ifCond .ne 5, 3) by decide +kernel) rfl (pc' := 33) rfl kt kf
set_option maxRecDepth 4000 in
theorem b_X6c_takeFormula_33 {xs : Nat → Int32} {L d : Nat} {S : Nat → Shp} {I : Nat → Nat → Int32} {J : Nat → Nat → Int64} {R : Nat → Nat → Nat} {c : Nat × Nat} {Q : Option (Option Value) → MH → Prop} {x1 : Int32} {v2 : Value}  (k : Q (some (some (.int 0))) (S, I, J, R, c)) : X xs L (d + 1) 64 33 [.ref 8, .int x1, v2] [] (S, I, J, R, c) Q := by
  refine X_iconst (v := 0) (show decode (mB 64) 33 = .ok (.iconst 0, 1) by decide +kernel) (pc' := 34) rfl rfl ?_
  exact X_ireturn (ty := .boolean) (show decode (mB 64) 34 = .ok (.ireturn, 1) by decide +kernel) (by decide +kernel) rfl k
set_option maxRecDepth 4000 in
theorem b_X6c_takeFormula_35 {xs : Nat → Int32} {L d : Nat} {S : Nat → Shp} {I : Nat → Nat → Int32} {J : Nat → Nat → Int64} {R : Nat → Nat → Nat} {c : Nat × Nat} {Q : Option (Option Value) → MH → Prop} {x1 : Int32} {v2 : Value} (hL : Lay S R)  (k : X xs L d 66 0 [.ref 8, .null] [] (S, I, J, R, c) (Kc xs L (d + 1) 64 39 [.ref 8, .int x1, v2] [] Q)) : X xs L (d + 1) 64 35 [.ref 8, .int x1, v2] [] (S, I, J, R, c) Q := by
  refine X_aload_n (q := 0) (show decode (mB 64) 35 = .ok (.aload_n 0, 1) by decide +kernel) (pc' := 36) rfl rfl rfl ?_
  exact X_callV (y := 66) (n := 0) (st := [.ref 8]) (as := [.ref 8]) (rest := []) (ls0 := [.ref 8, .null]) (ci := 2) (show decode (mB 64) 36 = .ok (.invokevirtual 61, 3) by decide +kernel) (pc' := 39) rfl (by decide +kernel) (by decide +kernel) rfl (ls_8 hL) (by decide +kernel) rfl rfl rfl rfl rfl k
set_option maxRecDepth 4000 in
theorem b_X6c_takeFormula_39 {xs : Nat → Int32} {L d : Nat} {S : Nat → Shp} {I : Nat → Nat → Int32} {J : Nat → Nat → Int64} {R : Nat → Nat → Nat} {c : Nat × Nat} {Q : Option (Option Value) → MH → Prop} {x1 : Int32} {v2 : Value} (hL : Lay S R)  (k : X xs L d 93 0 [.ref 4] [] (S, I, J, R, c) (Kc xs L (d + 1) 64 46 [.ref 8, .int x1, v2] [] Q)) : X xs L (d + 1) 64 39 [.ref 8, .int x1, v2] [] (S, I, J, R, c) Q := by
  refine X_aload_n (q := 0) (show decode (mB 64) 39 = .ok (.aload_n 0, 1) by decide +kernel) (pc' := 40) rfl rfl rfl ?_
  refine X_getR (ci := 2) (f := 0) (q := 4) (show decode (mB 64) 40 = .ok (.getfield 13, 3) by decide +kernel) (pc' := 43) rfl (ls_8 hL) (by decide +kernel) rfl (lr_8_0 hL) ?_
  exact X_callV (y := 93) (n := 0) (st := [.ref 4]) (as := [.ref 4]) (rest := []) (ls0 := [.ref 4]) (ci := 8) (show decode (mB 64) 43 = .ok (.invokevirtual 35, 3) by decide +kernel) (pc' := 46) rfl (by decide +kernel) (by decide +kernel) rfl (ls_4 hL) (by decide +kernel) rfl rfl rfl rfl rfl k
set_option maxRecDepth 4000 in
theorem b_X6c_takeFormula_46 {xs : Nat → Int32} {L d : Nat} {S : Nat → Shp} {I : Nat → Nat → Int32} {J : Nat → Nat → Int64} {R : Nat → Nat → Nat} {c : Nat × Nat} {Q : Option (Option Value) → MH → Prop} {x1 sx0 : Int32} {v2 : Value}  (kt : sx0 = 124 → X xs L (d + 1) 64 83 [.ref 8, .int x1, .int sx0] [] (S, I, J, R, c) Q) (kf : ¬ (sx0 = 124) → X xs L (d + 1) 64 53 [.ref 8, .int x1, .int sx0] [] (S, I, J, R, c) Q) : X xs L (d + 1) 64 46 [.ref 8, .int x1, v2] [.int sx0] (S, I, J, R, c) Q := by
  refine X_istore_n (q := 2) (ls' := [.ref 8, .int x1, .int sx0]) (show decode (mB 64) 46 = .ok (.istore_n 2, 1) by decide +kernel) (pc' := 47) rfl rfl rfl ?_
  refine X_iload_n (q := 2) (show decode (mB 64) 47 = .ok (.iload_n 2, 1) by decide +kernel) (pc' := 48) rfl rfl rfl ?_
  refine X_bipush (v := 124) (show decode (mB 64) 48 = .ok (.bipush 124, 2) by decide +kernel) (pc' := 50) rfl (by decide +kernel) ?_
  exact X_icmp_eq (tgt := 83) (show decode (mB 64) 50 = .ok (.if_icmp .eq 33, 3) by decide +kernel) rfl (pc' := 53) rfl kt kf
set_option maxRecDepth 4000 in
theorem b_X6c_takeFormula_53 {xs : Nat → Int32} {L d : Nat} {S : Nat → Shp} {I : Nat → Nat → Int32} {J : Nat → Nat → Int64} {R : Nat → Nat → Nat} {c : Nat × Nat} {Q : Option (Option Value) → MH → Prop} {x1 x2 : Int32}  (kt : x2 = 94 → X xs L (d + 1) 64 83 [.ref 8, .int x1, .int x2] [] (S, I, J, R, c) Q) (kf : ¬ (x2 = 94) → X xs L (d + 1) 64 59 [.ref 8, .int x1, .int x2] [] (S, I, J, R, c) Q) : X xs L (d + 1) 64 53 [.ref 8, .int x1, .int x2] [] (S, I, J, R, c) Q := by
  refine X_iload_n (q := 2) (show decode (mB 64) 53 = .ok (.iload_n 2, 1) by decide +kernel) (pc' := 54) rfl rfl rfl ?_
  refine X_bipush (v := 94) (show decode (mB 64) 54 = .ok (.bipush 94, 2) by decide +kernel) (pc' := 56) rfl (by decide +kernel) ?_
  exact X_icmp_eq (tgt := 83) (show decode (mB 64) 56 = .ok (.if_icmp .eq 27, 3) by decide +kernel) rfl (pc' := 59) rfl kt kf
set_option maxRecDepth 4000 in
theorem b_X6c_takeFormula_59 {xs : Nat → Int32} {L d : Nat} {S : Nat → Shp} {I : Nat → Nat → Int32} {J : Nat → Nat → Int64} {R : Nat → Nat → Nat} {c : Nat × Nat} {Q : Option (Option Value) → MH → Prop} {x1 x2 : Int32}  (kt : x2 = 38 → X xs L (d + 1) 64 83 [.ref 8, .int x1, .int x2] [] (S, I, J, R, c) Q) (kf : ¬ (x2 = 38) → X xs L (d + 1) 64 65 [.ref 8, .int x1, .int x2] [] (S, I, J, R, c) Q) : X xs L (d + 1) 64 59 [.ref 8, .int x1, .int x2] [] (S, I, J, R, c) Q := by
  refine X_iload_n (q := 2) (show decode (mB 64) 59 = .ok (.iload_n 2, 1) by decide +kernel) (pc' := 60) rfl rfl rfl ?_
  refine X_bipush (v := 38) (show decode (mB 64) 60 = .ok (.bipush 38, 2) by decide +kernel) (pc' := 62) rfl (by decide +kernel) ?_
  exact X_icmp_eq (tgt := 83) (show decode (mB 64) 62 = .ok (.if_icmp .eq 21, 3) by decide +kernel) rfl (pc' := 65) rfl kt kf
set_option maxRecDepth 4000 in
theorem b_X6c_takeFormula_65 {xs : Nat → Int32} {L d : Nat} {S : Nat → Shp} {I : Nat → Nat → Int32} {J : Nat → Nat → Int64} {R : Nat → Nat → Nat} {c : Nat × Nat} {Q : Option (Option Value) → MH → Prop} {x1 x2 : Int32} (hL : Lay S R)  (k : X xs L d 68 0 [.ref 8, .int 1] [] (S, I, J, R, c) (Kc xs L (d + 1) 64 70 [.ref 8, .int x1, .int x2] [] Q)) : X xs L (d + 1) 64 65 [.ref 8, .int x1, .int x2] [] (S, I, J, R, c) Q := by
  refine X_aload_n (q := 0) (show decode (mB 64) 65 = .ok (.aload_n 0, 1) by decide +kernel) (pc' := 66) rfl rfl rfl ?_
  refine X_iconst (v := 1) (show decode (mB 64) 66 = .ok (.iconst 1, 1) by decide +kernel) (pc' := 67) rfl rfl ?_
  exact X_callV (y := 68) (n := 1) (st := [.int 1, .ref 8]) (as := [.ref 8, .int 1]) (rest := []) (ls0 := [.ref 8, .int 1]) (ci := 2) (show decode (mB 64) 67 = .ok (.invokevirtual 64, 3) by decide +kernel) (pc' := 70) rfl (by decide +kernel) (by decide +kernel) rfl (ls_8 hL) (by decide +kernel) rfl rfl rfl rfl rfl k
set_option maxRecDepth 4000 in
theorem b_X6c_takeFormula_70 {xs : Nat → Int32} {L d : Nat} {S : Nat → Shp} {I : Nat → Nat → Int32} {J : Nat → Nat → Int64} {R : Nat → Nat → Nat} {c : Nat × Nat} {Q : Option (Option Value) → MH → Prop} {x1 x2 : Int32} (hL : Lay S R)  (kt : ¬ (I 8 4) = 0 → X xs L (d + 1) 64 81 [.ref 8, .int x1, .int x2] [] (S, I, J, R, c) Q) (kf : ¬ (¬ (I 8 4) = 0) → X xs L (d + 1) 64 77 [.ref 8, .int x1, .int x2] [] (S, I, J, R, c) Q) : X xs L (d + 1) 64 70 [.ref 8, .int x1, .int x2] [] (S, I, J, R, c) Q := by
  refine X_aload_n (q := 0) (show decode (mB 64) 70 = .ok (.aload_n 0, 1) by decide +kernel) (pc' := 71) rfl rfl rfl ?_
  refine X_getI (ci := 2) (f := 4) (x := I 8 4) (show decode (mB 64) 71 = .ok (.getfield 46, 3) by decide +kernel) (pc' := 74) rfl (ls_8 hL) (by decide +kernel) rfl rfl ?_
  exact X_if_ne (tgt := 81) (show decode (mB 64) 74 = .ok (.ifCond .ne 7, 3) by decide +kernel) rfl (pc' := 77) rfl kt kf
set_option maxRecDepth 4000 in
theorem b_X6c_takeFormula_77 {xs : Nat → Int32} {L d : Nat} {S : Nat → Shp} {I : Nat → Nat → Int32} {J : Nat → Nat → Int64} {R : Nat → Nat → Nat} {c : Nat × Nat} {Q : Option (Option Value) → MH → Prop} {x1 x2 : Int32}  (k : X xs L (d + 1) 64 82 [.ref 8, .int x1, .int x2] [.int 1] (S, I, J, R, c) Q) : X xs L (d + 1) 64 77 [.ref 8, .int x1, .int x2] [] (S, I, J, R, c) Q := by
  refine X_iconst (v := 1) (show decode (mB 64) 77 = .ok (.iconst 1, 1) by decide +kernel) (pc' := 78) rfl rfl ?_
  refine X_goto (tgt := 82) (show decode (mB 64) 78 = .ok (.goto 4, 3) by decide +kernel) rfl ?_
  exact k
set_option maxRecDepth 4000 in
theorem b_X6c_takeFormula_81 {xs : Nat → Int32} {L d : Nat} {S : Nat → Shp} {I : Nat → Nat → Int32} {J : Nat → Nat → Int64} {R : Nat → Nat → Nat} {c : Nat × Nat} {Q : Option (Option Value) → MH → Prop} {x1 x2 : Int32}  (k : X xs L (d + 1) 64 82 [.ref 8, .int x1, .int x2] [.int 0] (S, I, J, R, c) Q) : X xs L (d + 1) 64 81 [.ref 8, .int x1, .int x2] [] (S, I, J, R, c) Q := by
  refine X_iconst (v := 0) (show decode (mB 64) 81 = .ok (.iconst 0, 1) by decide +kernel) (pc' := 82) rfl rfl ?_
  exact k
set_option maxRecDepth 4000 in
theorem b_X6c_takeFormula_82 {xs : Nat → Int32} {L d : Nat} {S : Nat → Shp} {I : Nat → Nat → Int32} {J : Nat → Nat → Int64} {R : Nat → Nat → Nat} {c : Nat × Nat} {Q : Option (Option Value) → MH → Prop} {x1 x2 sx0 : Int32} (hz82 : sx0 = 0 ∨ sx0 = 1) (k : Q (some (some (.int sx0))) (S, I, J, R, c)) : X xs L (d + 1) 64 82 [.ref 8, .int x1, .int x2] [.int sx0] (S, I, J, R, c) Q := by
  exact X_ireturn (ty := .boolean) (show decode (mB 64) 82 = .ok (.ireturn, 1) by decide +kernel) (by decide +kernel) (nz hz82) k
set_option maxRecDepth 4000 in
theorem b_X6c_takeFormula_83 {xs : Nat → Int32} {L d : Nat} {S : Nat → Shp} {I : Nat → Nat → Int32} {J : Nat → Nat → Int64} {R : Nat → Nat → Nat} {c : Nat × Nat} {Q : Option (Option Value) → MH → Prop} {x1 x2 : Int32}  (k : X xs L d 69 0 [.int x2] [] (S, I, J, R, c) (Kc xs L (d + 1) 64 88 [.ref 8, .int x1, .int x2] [.ref 8] Q)) : X xs L (d + 1) 64 83 [.ref 8, .int x1, .int x2] [] (S, I, J, R, c) Q := by
  refine X_aload_n (q := 0) (show decode (mB 64) 83 = .ok (.aload_n 0, 1) by decide +kernel) (pc' := 84) rfl rfl rfl ?_
  refine X_iload_n (q := 2) (show decode (mB 64) 84 = .ok (.iload_n 2, 1) by decide +kernel) (pc' := 85) rfl rfl rfl ?_
  exact X_callS (y := 69) (n := 1) (st := [.int x2, .ref 8]) (as := [.int x2]) (rest := [.ref 8]) (ls0 := [.int x2]) (show decode (mB 64) 85 = .ok (.invokestatic 68, 3) by decide +kernel) (pc' := 88) rfl (by decide +kernel) (by decide +kernel) rfl rfl rfl rfl rfl rfl rfl rfl k
set_option maxRecDepth 4000 in
theorem b_X6c_takeFormula_88 {xs : Nat → Int32} {L d : Nat} {S : Nat → Shp} {I : Nat → Nat → Int32} {J : Nat → Nat → Int64} {R : Nat → Nat → Nat} {c : Nat × Nat} {Q : Option (Option Value) → MH → Prop} {x1 x2 sx1 : Int32} (hL : Lay S R)  (k : X xs L d 68 0 [.ref 8, .int sx1] [] (S, I, J, R, c) (Kc xs L (d + 1) 64 91 [.ref 8, .int x1, .int x2] [] Q)) : X xs L (d + 1) 64 88 [.ref 8, .int x1, .int x2] [.int sx1, .ref 8] (S, I, J, R, c) Q := by
  exact X_callV (y := 68) (n := 1) (st := [.int sx1, .ref 8]) (as := [.ref 8, .int sx1]) (rest := []) (ls0 := [.ref 8, .int sx1]) (ci := 2) (show decode (mB 64) 88 = .ok (.invokevirtual 64, 3) by decide +kernel) (pc' := 91) rfl (by decide +kernel) (by decide +kernel) rfl (ls_8 hL) (by decide +kernel) rfl rfl rfl rfl rfl k
set_option maxRecDepth 4000 in
theorem b_X6c_takeFormula_91 {xs : Nat → Int32} {L d : Nat} {S : Nat → Shp} {I : Nat → Nat → Int32} {J : Nat → Nat → Int64} {R : Nat → Nat → Nat} {c : Nat × Nat} {Q : Option (Option Value) → MH → Prop} {x1 x2 : Int32} (hL : Lay S R)  (k : X xs L d 67 0 [.ref 8, .int x2] [] (S, I, J, R, c) (Kc xs L (d + 1) 64 96 [.ref 8, .int x1, .int x2] [] Q)) : X xs L (d + 1) 64 91 [.ref 8, .int x1, .int x2] [] (S, I, J, R, c) Q := by
  refine X_aload_n (q := 0) (show decode (mB 64) 91 = .ok (.aload_n 0, 1) by decide +kernel) (pc' := 92) rfl rfl rfl ?_
  refine X_iload_n (q := 2) (show decode (mB 64) 92 = .ok (.iload_n 2, 1) by decide +kernel) (pc' := 93) rfl rfl rfl ?_
  exact X_callV (y := 67) (n := 1) (st := [.int x2, .ref 8]) (as := [.ref 8, .int x2]) (rest := []) (ls0 := [.ref 8, .int x2]) (ci := 2) (show decode (mB 64) 93 = .ok (.invokevirtual 72, 3) by decide +kernel) (pc' := 96) rfl (by decide +kernel) (by decide +kernel) rfl (ls_8 hL) (by decide +kernel) rfl rfl rfl rfl rfl k
set_option maxRecDepth 4000 in
theorem b_X6c_takeFormula_96 {xs : Nat → Int32} {L d : Nat} {S : Nat → Shp} {I : Nat → Nat → Int32} {J : Nat → Nat → Int64} {R : Nat → Nat → Nat} {c : Nat × Nat} {Q : Option (Option Value) → MH → Prop} {x1 x2 : Int32} (hL : Lay S R)  (k : X xs L d 100 0 [.ref 4] [] (S, I, J, R, c) (Kc xs L (d + 1) 64 103 [.ref 8, .int x1, .int x2] [] Q)) : X xs L (d + 1) 64 96 [.ref 8, .int x1, .int x2] [] (S, I, J, R, c) Q := by
  refine X_aload_n (q := 0) (show decode (mB 64) 96 = .ok (.aload_n 0, 1) by decide +kernel) (pc' := 97) rfl rfl rfl ?_
  refine X_getR (ci := 2) (f := 0) (q := 4) (show decode (mB 64) 97 = .ok (.getfield 13, 3) by decide +kernel) (pc' := 100) rfl (ls_8 hL) (by decide +kernel) rfl (lr_8_0 hL) ?_
  exact X_callV (y := 100) (n := 0) (st := [.ref 4]) (as := [.ref 4]) (rest := []) (ls0 := [.ref 4]) (ci := 8) (show decode (mB 64) 100 = .ok (.invokevirtual 39, 3) by decide +kernel) (pc' := 103) rfl (by decide +kernel) (by decide +kernel) rfl (ls_4 hL) (by decide +kernel) rfl rfl rfl rfl rfl k
set_option maxRecDepth 4000 in
theorem b_X6c_takeFormula_103 {xs : Nat → Int32} {L d : Nat} {S : Nat → Shp} {I : Nat → Nat → Int32} {J : Nat → Nat → Int64} {R : Nat → Nat → Nat} {c : Nat × Nat} {Q : Option (Option Value) → MH → Prop} {x1 x2 : Int32}  (k : X xs L (d + 1) 64 12 [.ref 8, .int (x1 + 1), .int x2] [] (S, I, J, R, c) Q) : X xs L (d + 1) 64 103 [.ref 8, .int x1, .int x2] [] (S, I, J, R, c) Q := by
  refine X_iinc (q := 1) (v := x1 + 1) (ls' := [.ref 8, .int (x1 + 1), .int x2]) (show decode (mB 64) 103 = .ok (.iinc 1 1, 3) by decide +kernel) (pc' := 106) rfl rfl rfl rfl ?_
  refine X_goto (tgt := 12) (show decode (mB 64) 106 = .ok (.goto (-94), 3) by decide +kernel) rfl ?_
  exact k
set_option maxRecDepth 4000 in
theorem b_X6c_takeFormula_109 {xs : Nat → Int32} {L d : Nat} {S : Nat → Shp} {I : Nat → Nat → Int32} {J : Nat → Nat → Int64} {R : Nat → Nat → Nat} {c : Nat × Nat} {Q : Option (Option Value) → MH → Prop} {x1 : Int32} {v2 : Value}  (k : Q (some (some (.int 0))) (S, I, J, R, c)) : X xs L (d + 1) 64 109 [.ref 8, .int x1, v2] [] (S, I, J, R, c) Q := by
  refine X_iconst (v := 0) (show decode (mB 64) 109 = .ok (.iconst 0, 1) by decide +kernel) (pc' := 110) rfl rfl ?_
  exact X_ireturn (ty := .boolean) (show decode (mB 64) 110 = .ok (.ireturn, 1) by decide +kernel) (by decide +kernel) rfl k
set_option maxRecDepth 4000 in
theorem b_X6k_takeFormula_0 {xs : Nat → Int32} {L d : Nat} {S : Nat → Shp} {I : Nat → Nat → Int32} {J : Nat → Nat → Int64} {R : Nat → Nat → Nat} {c : Nat × Nat} {Q : Option (Option Value) → MH → Prop}  (hL : Lay S R)  (k : X xs L (d + 1) 64 12 [.ref 11, .int 0, .null] [] (S, (u2 (u2 I 11 4 0) 11 5 0), J, R, c) Q) : X xs L (d + 1) 64 0 [.ref 11, .null, .null] [] (S, I, J, R, c) Q := by
  refine X_aload_n (q := 0) (show decode (mB 64) 0 = .ok (.aload_n 0, 1) by decide +kernel) (pc' := 1) rfl rfl rfl ?_
  refine X_iconst (v := 0) (show decode (mB 64) 1 = .ok (.iconst 0, 1) by decide +kernel) (pc' := 2) rfl rfl ?_
  refine X_putI (ci := 4) (f := 4) (show decode (mB 64) 2 = .ok (.putfield 46, 3) by decide +kernel) (pc' := 5) rfl (ls_11 hL) (by decide +kernel) (by decide +kernel) rfl ?_
  refine X_aload_n (q := 0) (show decode (mB 64) 5 = .ok (.aload_n 0, 1) by decide +kernel) (pc' := 6) rfl rfl rfl ?_
  refine X_iconst (v := 0) (show decode (mB 64) 6 = .ok (.iconst 0, 1) by decide +kernel) (pc' := 7) rfl rfl ?_
  refine X_putI (ci := 4) (f := 5) (show decode (mB 64) 7 = .ok (.putfield 49, 3) by decide +kernel) (pc' := 10) rfl (ls_11 hL) (by decide +kernel) (by decide +kernel) rfl ?_
  refine X_iconst (v := 0) (show decode (mB 64) 10 = .ok (.iconst 0, 1) by decide +kernel) (pc' := 11) rfl rfl ?_
  refine X_istore_n (q := 1) (ls' := [.ref 11, .int 0, .null]) (show decode (mB 64) 11 = .ok (.istore_n 1, 1) by decide +kernel) (pc' := 12) rfl rfl rfl ?_
  exact k
set_option maxRecDepth 4000 in
theorem b_X6k_takeFormula_12 {xs : Nat → Int32} {L d : Nat} {S : Nat → Shp} {I : Nat → Nat → Int32} {J : Nat → Nat → Int64} {R : Nat → Nat → Nat} {c : Nat × Nat} {Q : Option (Option Value) → MH → Prop} {x1 : Int32} {v2 : Value}  (kt : 2000 ≤ x1 → X xs L (d + 1) 64 109 [.ref 11, .int x1, v2] [] (S, I, J, R, c) Q) (kf : ¬ (2000 ≤ x1) → X xs L (d + 1) 64 19 [.ref 11, .int x1, v2] [] (S, I, J, R, c) Q) : X xs L (d + 1) 64 12 [.ref 11, .int x1, v2] [] (S, I, J, R, c) Q := by
  refine X_iload_n (q := 1) (show decode (mB 64) 12 = .ok (.iload_n 1, 1) by decide +kernel) (pc' := 13) rfl rfl rfl ?_
  refine X_sipush (v := 2000) (show decode (mB 64) 13 = .ok (.sipush 2000, 3) by decide +kernel) (pc' := 16) rfl (by decide +kernel) ?_
  exact X_icmp_ge (tgt := 109) (show decode (mB 64) 16 = .ok (.if_icmp .ge 93, 3) by decide +kernel) rfl (pc' := 19) rfl kt kf
set_option maxRecDepth 4000 in
theorem b_X6k_takeFormula_19 {xs : Nat → Int32} {L d : Nat} {S : Nat → Shp} {I : Nat → Nat → Int32} {J : Nat → Nat → Int64} {R : Nat → Nat → Nat} {c : Nat × Nat} {Q : Option (Option Value) → MH → Prop} {x1 : Int32} {v2 : Value} (hL : Lay S R)  (k : X xs L d 65 0 [.ref 11, .null, .null] [] (S, I, J, R, c) (Kc xs L (d + 1) 64 23 [.ref 11, .int x1, v2] [] Q)) : X xs L (d + 1) 64 19 [.ref 11, .int x1, v2] [] (S, I, J, R, c) Q := by
  refine X_aload_n (q := 0) (show decode (mB 64) 19 = .ok (.aload_n 0, 1) by decide +kernel) (pc' := 20) rfl rfl rfl ?_
  exact X_callV (y := 65) (n := 0) (st := [.ref 11]) (as := [.ref 11]) (rest := []) (ls0 := [.ref 11, .null, .null]) (ci := 4) (show decode (mB 64) 20 = .ok (.invokevirtual 54, 3) by decide +kernel) (pc' := 23) rfl (by decide +kernel) (by decide +kernel) rfl (ls_11 hL) (by decide +kernel) rfl rfl rfl rfl rfl k
set_option maxRecDepth 4000 in
theorem b_X6k_takeFormula_23 {xs : Nat → Int32} {L d : Nat} {S : Nat → Shp} {I : Nat → Nat → Int32} {J : Nat → Nat → Int64} {R : Nat → Nat → Nat} {c : Nat × Nat} {Q : Option (Option Value) → MH → Prop} {x1 sx0 : Int32} {v2 : Value}  (kt : sx0 = 0 → X xs L (d + 1) 64 33 [.ref 11, .int x1, v2] [] (S, I, J, R, c) Q) (kf : ¬ (sx0 = 0) → X xs L (d + 1) 64 26 [.ref 11, .int x1, v2] [] (S, I, J, R, c) Q) : X xs L (d + 1) 64 23 [.ref 11, .int x1, v2] [.int sx0] (S, I, J, R, c) Q := by
  exact X_if_eq (tgt := 33) (show decode (mB 64) 23 = .ok (.ifCond .eq 10, 3) by decide +kernel) rfl (pc' := 26) rfl kt kf
set_option maxRecDepth 4000 in
theorem b_X6k_takeFormula_26 {xs : Nat → Int32} {L d : Nat} {S : Nat → Shp} {I : Nat → Nat → Int32} {J : Nat → Nat → Int64} {R : Nat → Nat → Nat} {c : Nat × Nat} {Q : Option (Option Value) → MH → Prop} {x1 : Int32} {v2 : Value} (hL : Lay S R)  (k : X xs L d 70 0 [.ref 11] [] (S, I, J, R, c) (Kc xs L (d + 1) 64 30 [.ref 11, .int x1, v2] [] Q)) : X xs L (d + 1) 64 26 [.ref 11, .int x1, v2] [] (S, I, J, R, c) Q := by
  refine X_aload_n (q := 0) (show decode (mB 64) 26 = .ok (.aload_n 0, 1) by decide +kernel) (pc' := 27) rfl rfl rfl ?_
  exact X_callV (y := 70) (n := 0) (st := [.ref 11]) (as := [.ref 11]) (rest := []) (ls0 := [.ref 11]) (ci := 4) (show decode (mB 64) 27 = .ok (.invokevirtual 58, 3) by decide +kernel) (pc' := 30) rfl (by decide +kernel) (by decide +kernel) rfl (ls_11 hL) (by decide +kernel) rfl rfl rfl rfl rfl k
set_option maxRecDepth 4000 in
theorem b_X6k_takeFormula_30 {xs : Nat → Int32} {L d : Nat} {S : Nat → Shp} {I : Nat → Nat → Int32} {J : Nat → Nat → Int64} {R : Nat → Nat → Nat} {c : Nat × Nat} {Q : Option (Option Value) → MH → Prop} {x1 sx0 : Int32} {v2 : Value}  (kt : ¬ sx0 = 0 → X xs L (d + 1) 64 35 [.ref 11, .int x1, v2] [] (S, I, J, R, c) Q) (kf : ¬ (¬ sx0 = 0) → X xs L (d + 1) 64 33 [.ref 11, .int x1, v2] [] (S, I, J, R, c) Q) : X xs L (d + 1) 64 30 [.ref 11, .int x1, v2] [.int sx0] (S, I, J, R, c) Q := by
  exact X_if_ne (tgt := 35) (show decode (mB 64) 30 = .ok (.ifCond .ne 5, 3) by decide +kernel) rfl (pc' := 33) rfl kt kf
set_option maxRecDepth 4000 in
theorem b_X6k_takeFormula_33 {xs : Nat → Int32} {L d : Nat} {S : Nat → Shp} {I : Nat → Nat → Int32} {J : Nat → Nat → Int64} {R : Nat → Nat → Nat} {c : Nat × Nat} {Q : Option (Option Value) → MH → Prop} {x1 : Int32} {v2 : Value}  (k : Q (some (some (.int 0))) (S, I, J, R, c)) : X xs L (d + 1) 64 33 [.ref 11, .int x1, v2] [] (S, I, J, R, c) Q := by
  refine X_iconst (v := 0) (show decode (mB 64) 33 = .ok (.iconst 0, 1) by decide +kernel) (pc' := 34) rfl rfl ?_
  exact X_ireturn (ty := .boolean) (show decode (mB 64) 34 = .ok (.ireturn, 1) by decide +kernel) (by decide +kernel) rfl k
set_option maxRecDepth 4000 in
theorem b_X6k_takeFormula_35 {xs : Nat → Int32} {L d : Nat} {S : Nat → Shp} {I : Nat → Nat → Int32} {J : Nat → Nat → Int64} {R : Nat → Nat → Nat} {c : Nat × Nat} {Q : Option (Option Value) → MH → Prop} {x1 : Int32} {v2 : Value} (hL : Lay S R)  (k : X xs L d 66 0 [.ref 11, .null] [] (S, I, J, R, c) (Kc xs L (d + 1) 64 39 [.ref 11, .int x1, v2] [] Q)) : X xs L (d + 1) 64 35 [.ref 11, .int x1, v2] [] (S, I, J, R, c) Q := by
  refine X_aload_n (q := 0) (show decode (mB 64) 35 = .ok (.aload_n 0, 1) by decide +kernel) (pc' := 36) rfl rfl rfl ?_
  exact X_callV (y := 66) (n := 0) (st := [.ref 11]) (as := [.ref 11]) (rest := []) (ls0 := [.ref 11, .null]) (ci := 4) (show decode (mB 64) 36 = .ok (.invokevirtual 61, 3) by decide +kernel) (pc' := 39) rfl (by decide +kernel) (by decide +kernel) rfl (ls_11 hL) (by decide +kernel) rfl rfl rfl rfl rfl k
set_option maxRecDepth 4000 in
theorem b_X6k_takeFormula_39 {xs : Nat → Int32} {L d : Nat} {S : Nat → Shp} {I : Nat → Nat → Int32} {J : Nat → Nat → Int64} {R : Nat → Nat → Nat} {c : Nat × Nat} {Q : Option (Option Value) → MH → Prop} {x1 : Int32} {v2 : Value} (hL : Lay S R)  (k : X xs L d 93 0 [.ref 4] [] (S, I, J, R, c) (Kc xs L (d + 1) 64 46 [.ref 11, .int x1, v2] [] Q)) : X xs L (d + 1) 64 39 [.ref 11, .int x1, v2] [] (S, I, J, R, c) Q := by
  refine X_aload_n (q := 0) (show decode (mB 64) 39 = .ok (.aload_n 0, 1) by decide +kernel) (pc' := 40) rfl rfl rfl ?_
  refine X_getR (ci := 4) (f := 0) (q := 4) (show decode (mB 64) 40 = .ok (.getfield 13, 3) by decide +kernel) (pc' := 43) rfl (ls_11 hL) (by decide +kernel) rfl (lr_11_0 hL) ?_
  exact X_callV (y := 93) (n := 0) (st := [.ref 4]) (as := [.ref 4]) (rest := []) (ls0 := [.ref 4]) (ci := 8) (show decode (mB 64) 43 = .ok (.invokevirtual 35, 3) by decide +kernel) (pc' := 46) rfl (by decide +kernel) (by decide +kernel) rfl (ls_4 hL) (by decide +kernel) rfl rfl rfl rfl rfl k
set_option maxRecDepth 4000 in
theorem b_X6k_takeFormula_46 {xs : Nat → Int32} {L d : Nat} {S : Nat → Shp} {I : Nat → Nat → Int32} {J : Nat → Nat → Int64} {R : Nat → Nat → Nat} {c : Nat × Nat} {Q : Option (Option Value) → MH → Prop} {x1 sx0 : Int32} {v2 : Value}  (kt : sx0 = 124 → X xs L (d + 1) 64 83 [.ref 11, .int x1, .int sx0] [] (S, I, J, R, c) Q) (kf : ¬ (sx0 = 124) → X xs L (d + 1) 64 53 [.ref 11, .int x1, .int sx0] [] (S, I, J, R, c) Q) : X xs L (d + 1) 64 46 [.ref 11, .int x1, v2] [.int sx0] (S, I, J, R, c) Q := by
  refine X_istore_n (q := 2) (ls' := [.ref 11, .int x1, .int sx0]) (show decode (mB 64) 46 = .ok (.istore_n 2, 1) by decide +kernel) (pc' := 47) rfl rfl rfl ?_
  refine X_iload_n (q := 2) (show decode (mB 64) 47 = .ok (.iload_n 2, 1) by decide +kernel) (pc' := 48) rfl rfl rfl ?_
  refine X_bipush (v := 124) (show decode (mB 64) 48 = .ok (.bipush 124, 2) by decide +kernel) (pc' := 50) rfl (by decide +kernel) ?_
  exact X_icmp_eq (tgt := 83) (show decode (mB 64) 50 = .ok (.if_icmp .eq 33, 3) by decide +kernel) rfl (pc' := 53) rfl kt kf
set_option maxRecDepth 4000 in
theorem b_X6k_takeFormula_53 {xs : Nat → Int32} {L d : Nat} {S : Nat → Shp} {I : Nat → Nat → Int32} {J : Nat → Nat → Int64} {R : Nat → Nat → Nat} {c : Nat × Nat} {Q : Option (Option Value) → MH → Prop} {x1 x2 : Int32}  (kt : x2 = 94 → X xs L (d + 1) 64 83 [.ref 11, .int x1, .int x2] [] (S, I, J, R, c) Q) (kf : ¬ (x2 = 94) → X xs L (d + 1) 64 59 [.ref 11, .int x1, .int x2] [] (S, I, J, R, c) Q) : X xs L (d + 1) 64 53 [.ref 11, .int x1, .int x2] [] (S, I, J, R, c) Q := by
  refine X_iload_n (q := 2) (show decode (mB 64) 53 = .ok (.iload_n 2, 1) by decide +kernel) (pc' := 54) rfl rfl rfl ?_
  refine X_bipush (v := 94) (show decode (mB 64) 54 = .ok (.bipush 94, 2) by decide +kernel) (pc' := 56) rfl (by decide +kernel) ?_
  exact X_icmp_eq (tgt := 83) (show decode (mB 64) 56 = .ok (.if_icmp .eq 27, 3) by decide +kernel) rfl (pc' := 59) rfl kt kf
set_option maxRecDepth 4000 in
theorem b_X6k_takeFormula_59 {xs : Nat → Int32} {L d : Nat} {S : Nat → Shp} {I : Nat → Nat → Int32} {J : Nat → Nat → Int64} {R : Nat → Nat → Nat} {c : Nat × Nat} {Q : Option (Option Value) → MH → Prop} {x1 x2 : Int32}  (kt : x2 = 38 → X xs L (d + 1) 64 83 [.ref 11, .int x1, .int x2] [] (S, I, J, R, c) Q) (kf : ¬ (x2 = 38) → X xs L (d + 1) 64 65 [.ref 11, .int x1, .int x2] [] (S, I, J, R, c) Q) : X xs L (d + 1) 64 59 [.ref 11, .int x1, .int x2] [] (S, I, J, R, c) Q := by
  refine X_iload_n (q := 2) (show decode (mB 64) 59 = .ok (.iload_n 2, 1) by decide +kernel) (pc' := 60) rfl rfl rfl ?_
  refine X_bipush (v := 38) (show decode (mB 64) 60 = .ok (.bipush 38, 2) by decide +kernel) (pc' := 62) rfl (by decide +kernel) ?_
  exact X_icmp_eq (tgt := 83) (show decode (mB 64) 62 = .ok (.if_icmp .eq 21, 3) by decide +kernel) rfl (pc' := 65) rfl kt kf
set_option maxRecDepth 4000 in
theorem b_X6k_takeFormula_65 {xs : Nat → Int32} {L d : Nat} {S : Nat → Shp} {I : Nat → Nat → Int32} {J : Nat → Nat → Int64} {R : Nat → Nat → Nat} {c : Nat × Nat} {Q : Option (Option Value) → MH → Prop} {x1 x2 : Int32} (hL : Lay S R)  (k : X xs L d 68 0 [.ref 11, .int 1] [] (S, I, J, R, c) (Kc xs L (d + 1) 64 70 [.ref 11, .int x1, .int x2] [] Q)) : X xs L (d + 1) 64 65 [.ref 11, .int x1, .int x2] [] (S, I, J, R, c) Q := by
  refine X_aload_n (q := 0) (show decode (mB 64) 65 = .ok (.aload_n 0, 1) by decide +kernel) (pc' := 66) rfl rfl rfl ?_
  refine X_iconst (v := 1) (show decode (mB 64) 66 = .ok (.iconst 1, 1) by decide +kernel) (pc' := 67) rfl rfl ?_
  exact X_callV (y := 68) (n := 1) (st := [.int 1, .ref 11]) (as := [.ref 11, .int 1]) (rest := []) (ls0 := [.ref 11, .int 1]) (ci := 4) (show decode (mB 64) 67 = .ok (.invokevirtual 64, 3) by decide +kernel) (pc' := 70) rfl (by decide +kernel) (by decide +kernel) rfl (ls_11 hL) (by decide +kernel) rfl rfl rfl rfl rfl k
set_option maxRecDepth 4000 in
theorem b_X6k_takeFormula_70 {xs : Nat → Int32} {L d : Nat} {S : Nat → Shp} {I : Nat → Nat → Int32} {J : Nat → Nat → Int64} {R : Nat → Nat → Nat} {c : Nat × Nat} {Q : Option (Option Value) → MH → Prop} {x1 x2 : Int32} (hL : Lay S R)  (kt : ¬ (I 11 4) = 0 → X xs L (d + 1) 64 81 [.ref 11, .int x1, .int x2] [] (S, I, J, R, c) Q) (kf : ¬ (¬ (I 11 4) = 0) → X xs L (d + 1) 64 77 [.ref 11, .int x1, .int x2] [] (S, I, J, R, c) Q) : X xs L (d + 1) 64 70 [.ref 11, .int x1, .int x2] [] (S, I, J, R, c) Q := by
  refine X_aload_n (q := 0) (show decode (mB 64) 70 = .ok (.aload_n 0, 1) by decide +kernel) (pc' := 71) rfl rfl rfl ?_
  refine X_getI (ci := 4) (f := 4) (x := I 11 4) (show decode (mB 64) 71 = .ok (.getfield 46, 3) by decide +kernel) (pc' := 74) rfl (ls_11 hL) (by decide +kernel) rfl rfl ?_
  exact X_if_ne (tgt := 81) (show decode (mB 64) 74 = .ok (.ifCond .ne 7, 3) by decide +kernel) rfl (pc' := 77) rfl kt kf
set_option maxRecDepth 4000 in
theorem b_X6k_takeFormula_77 {xs : Nat → Int32} {L d : Nat} {S : Nat → Shp} {I : Nat → Nat → Int32} {J : Nat → Nat → Int64} {R : Nat → Nat → Nat} {c : Nat × Nat} {Q : Option (Option Value) → MH → Prop} {x1 x2 : Int32}  (k : X xs L (d + 1) 64 82 [.ref 11, .int x1, .int x2] [.int 1] (S, I, J, R, c) Q) : X xs L (d + 1) 64 77 [.ref 11, .int x1, .int x2] [] (S, I, J, R, c) Q := by
  refine X_iconst (v := 1) (show decode (mB 64) 77 = .ok (.iconst 1, 1) by decide +kernel) (pc' := 78) rfl rfl ?_
  refine X_goto (tgt := 82) (show decode (mB 64) 78 = .ok (.goto 4, 3) by decide +kernel) rfl ?_
  exact k
set_option maxRecDepth 4000 in
theorem b_X6k_takeFormula_81 {xs : Nat → Int32} {L d : Nat} {S : Nat → Shp} {I : Nat → Nat → Int32} {J : Nat → Nat → Int64} {R : Nat → Nat → Nat} {c : Nat × Nat} {Q : Option (Option Value) → MH → Prop} {x1 x2 : Int32}  (k : X xs L (d + 1) 64 82 [.ref 11, .int x1, .int x2] [.int 0] (S, I, J, R, c) Q) : X xs L (d + 1) 64 81 [.ref 11, .int x1, .int x2] [] (S, I, J, R, c) Q := by
  refine X_iconst (v := 0) (show decode (mB 64) 81 = .ok (.iconst 0, 1) by decide +kernel) (pc' := 82) rfl rfl ?_
  exact k
set_option maxRecDepth 4000 in
theorem b_X6k_takeFormula_82 {xs : Nat → Int32} {L d : Nat} {S : Nat → Shp} {I : Nat → Nat → Int32} {J : Nat → Nat → Int64} {R : Nat → Nat → Nat} {c : Nat × Nat} {Q : Option (Option Value) → MH → Prop} {x1 x2 sx0 : Int32} (hz82 : sx0 = 0 ∨ sx0 = 1) (k : Q (some (some (.int sx0))) (S, I, J, R, c)) : X xs L (d + 1) 64 82 [.ref 11, .int x1, .int x2] [.int sx0] (S, I, J, R, c) Q := by
  exact X_ireturn (ty := .boolean) (show decode (mB 64) 82 = .ok (.ireturn, 1) by decide +kernel) (by decide +kernel) (nz hz82) k
set_option maxRecDepth 4000 in
theorem b_X6k_takeFormula_83 {xs : Nat → Int32} {L d : Nat} {S : Nat → Shp} {I : Nat → Nat → Int32} {J : Nat → Nat → Int64} {R : Nat → Nat → Nat} {c : Nat × Nat} {Q : Option (Option Value) → MH → Prop} {x1 x2 : Int32}  (k : X xs L d 69 0 [.int x2] [] (S, I, J, R, c) (Kc xs L (d + 1) 64 88 [.ref 11, .int x1, .int x2] [.ref 11] Q)) : X xs L (d + 1) 64 83 [.ref 11, .int x1, .int x2] [] (S, I, J, R, c) Q := by
  refine X_aload_n (q := 0) (show decode (mB 64) 83 = .ok (.aload_n 0, 1) by decide +kernel) (pc' := 84) rfl rfl rfl ?_
  refine X_iload_n (q := 2) (show decode (mB 64) 84 = .ok (.iload_n 2, 1) by decide +kernel) (pc' := 85) rfl rfl rfl ?_
  exact X_callS (y := 69) (n := 1) (st := [.int x2, .ref 11]) (as := [.int x2]) (rest := [.ref 11]) (ls0 := [.int x2]) (show decode (mB 64) 85 = .ok (.invokestatic 68, 3) by decide +kernel) (pc' := 88) rfl (by decide +kernel) (by decide +kernel) rfl rfl rfl rfl rfl rfl rfl rfl k
set_option maxRecDepth 4000 in
theorem b_X6k_takeFormula_88 {xs : Nat → Int32} {L d : Nat} {S : Nat → Shp} {I : Nat → Nat → Int32} {J : Nat → Nat → Int64} {R : Nat → Nat → Nat} {c : Nat × Nat} {Q : Option (Option Value) → MH → Prop} {x1 x2 sx1 : Int32} (hL : Lay S R)  (k : X xs L d 68 0 [.ref 11, .int sx1] [] (S, I, J, R, c) (Kc xs L (d + 1) 64 91 [.ref 11, .int x1, .int x2] [] Q)) : X xs L (d + 1) 64 88 [.ref 11, .int x1, .int x2] [.int sx1, .ref 11] (S, I, J, R, c) Q := by
  exact X_callV (y := 68) (n := 1) (st := [.int sx1, .ref 11]) (as := [.ref 11, .int sx1]) (rest := []) (ls0 := [.ref 11, .int sx1]) (ci := 4) (show decode (mB 64) 88 = .ok (.invokevirtual 64, 3) by decide +kernel) (pc' := 91) rfl (by decide +kernel) (by decide +kernel) rfl (ls_11 hL) (by decide +kernel) rfl rfl rfl rfl rfl k
set_option maxRecDepth 4000 in
theorem b_X6k_takeFormula_91 {xs : Nat → Int32} {L d : Nat} {S : Nat → Shp} {I : Nat → Nat → Int32} {J : Nat → Nat → Int64} {R : Nat → Nat → Nat} {c : Nat × Nat} {Q : Option (Option Value) → MH → Prop} {x1 x2 : Int32} (hL : Lay S R)  (k : X xs L d 67 0 [.ref 11, .int x2] [] (S, I, J, R, c) (Kc xs L (d + 1) 64 96 [.ref 11, .int x1, .int x2] [] Q)) : X xs L (d + 1) 64 91 [.ref 11, .int x1, .int x2] [] (S, I, J, R, c) Q := by
  refine X_aload_n (q := 0) (show decode (mB 64) 91 = .ok (.aload_n 0, 1) by decide +kernel) (pc' := 92) rfl rfl rfl ?_
  refine X_iload_n (q := 2) (show decode (mB 64) 92 = .ok (.iload_n 2, 1) by decide +kernel) (pc' := 93) rfl rfl rfl ?_
  exact X_callV (y := 67) (n := 1) (st := [.int x2, .ref 11]) (as := [.ref 11, .int x2]) (rest := []) (ls0 := [.ref 11, .int x2]) (ci := 4) (show decode (mB 64) 93 = .ok (.invokevirtual 72, 3) by decide +kernel) (pc' := 96) rfl (by decide +kernel) (by decide +kernel) rfl (ls_11 hL) (by decide +kernel) rfl rfl rfl rfl rfl k
set_option maxRecDepth 4000 in
theorem b_X6k_takeFormula_96 {xs : Nat → Int32} {L d : Nat} {S : Nat → Shp} {I : Nat → Nat → Int32} {J : Nat → Nat → Int64} {R : Nat → Nat → Nat} {c : Nat × Nat} {Q : Option (Option Value) → MH → Prop} {x1 x2 : Int32} (hL : Lay S R)  (k : X xs L d 100 0 [.ref 4] [] (S, I, J, R, c) (Kc xs L (d + 1) 64 103 [.ref 11, .int x1, .int x2] [] Q)) : X xs L (d + 1) 64 96 [.ref 11, .int x1, .int x2] [] (S, I, J, R, c) Q := by
  refine X_aload_n (q := 0) (show decode (mB 64) 96 = .ok (.aload_n 0, 1) by decide +kernel) (pc' := 97) rfl rfl rfl ?_
  refine X_getR (ci := 4) (f := 0) (q := 4) (show decode (mB 64) 97 = .ok (.getfield 13, 3) by decide +kernel) (pc' := 100) rfl (ls_11 hL) (by decide +kernel) rfl (lr_11_0 hL) ?_
  exact X_callV (y := 100) (n := 0) (st := [.ref 4]) (as := [.ref 4]) (rest := []) (ls0 := [.ref 4]) (ci := 8) (show decode (mB 64) 100 = .ok (.invokevirtual 39, 3) by decide +kernel) (pc' := 103) rfl (by decide +kernel) (by decide +kernel) rfl (ls_4 hL) (by decide +kernel) rfl rfl rfl rfl rfl k
set_option maxRecDepth 4000 in
theorem b_X6k_takeFormula_103 {xs : Nat → Int32} {L d : Nat} {S : Nat → Shp} {I : Nat → Nat → Int32} {J : Nat → Nat → Int64} {R : Nat → Nat → Nat} {c : Nat × Nat} {Q : Option (Option Value) → MH → Prop} {x1 x2 : Int32}  (k : X xs L (d + 1) 64 12 [.ref 11, .int (x1 + 1), .int x2] [] (S, I, J, R, c) Q) : X xs L (d + 1) 64 103 [.ref 11, .int x1, .int x2] [] (S, I, J, R, c) Q := by
  refine X_iinc (q := 1) (v := x1 + 1) (ls' := [.ref 11, .int (x1 + 1), .int x2]) (show decode (mB 64) 103 = .ok (.iinc 1 1, 3) by decide +kernel) (pc' := 106) rfl rfl rfl rfl ?_
  refine X_goto (tgt := 12) (show decode (mB 64) 106 = .ok (.goto (-94), 3) by decide +kernel) rfl ?_
  exact k
set_option maxRecDepth 4000 in
theorem b_X6k_takeFormula_109 {xs : Nat → Int32} {L d : Nat} {S : Nat → Shp} {I : Nat → Nat → Int32} {J : Nat → Nat → Int64} {R : Nat → Nat → Nat} {c : Nat × Nat} {Q : Option (Option Value) → MH → Prop} {x1 : Int32} {v2 : Value}  (k : Q (some (some (.int 0))) (S, I, J, R, c)) : X xs L (d + 1) 64 109 [.ref 11, .int x1, v2] [] (S, I, J, R, c) Q := by
  refine X_iconst (v := 0) (show decode (mB 64) 109 = .ok (.iconst 0, 1) by decide +kernel) (pc' := 110) rfl rfl ?_
  exact X_ireturn (ty := .boolean) (show decode (mB 64) 110 = .ok (.ireturn, 1) by decide +kernel) (by decide +kernel) rfl k
set_option maxRecDepth 4000 in
theorem b_X6c_takeOpeners_0 {xs : Nat → Int32} {L d : Nat} {S : Nat → Shp} {I : Nat → Nat → Int32} {J : Nat → Nat → Int64} {R : Nat → Nat → Nat} {c : Nat × Nat} {Q : Option (Option Value) → MH → Prop}   (k : X xs L (d + 1) 65 2 [.ref 8, .int 0, .null] [] (S, I, J, R, c) Q) : X xs L (d + 1) 65 0 [.ref 8, .null, .null] [] (S, I, J, R, c) Q := by
  refine X_iconst (v := 0) (show decode (mB 65) 0 = .ok (.iconst 0, 1) by decide +kernel) (pc' := 1) rfl rfl ?_
  refine X_istore_n (q := 1) (ls' := [.ref 8, .int 0, .null]) (show decode (mB 65) 1 = .ok (.istore_n 1, 1) by decide +kernel) (pc' := 2) rfl rfl rfl ?_
  exact k
set_option maxRecDepth 4000 in
theorem b_X6c_takeOpeners_2 {xs : Nat → Int32} {L d : Nat} {S : Nat → Shp} {I : Nat → Nat → Int32} {J : Nat → Nat → Int64} {R : Nat → Nat → Nat} {c : Nat × Nat} {Q : Option (Option Value) → MH → Prop} {x1 : Int32} {v2 : Value}  (kt : 10 < x1 → X xs L (d + 1) 65 69 [.ref 8, .int x1, v2] [] (S, I, J, R, c) Q) (kf : ¬ (10 < x1) → X xs L (d + 1) 65 8 [.ref 8, .int x1, v2] [] (S, I, J, R, c) Q) : X xs L (d + 1) 65 2 [.ref 8, .int x1, v2] [] (S, I, J, R, c) Q := by
  refine X_iload_n (q := 1) (show decode (mB 65) 2 = .ok (.iload_n 1, 1) by decide +kernel) (pc' := 3) rfl rfl rfl ?_
  refine X_bipush (v := 10) (show decode (mB 65) 3 = .ok (.bipush 10, 2) by decide +kernel) (pc' := 5) rfl (by decide +kernel) ?_
  exact X_icmp_gt (tgt := 69) (show decode (mB 65) 5 = .ok (.if_icmp .gt 64, 3) by decide +kernel) rfl (pc' := 8) rfl kt kf
set_option maxRecDepth 4000 in
theorem b_X6c_takeOpeners_8 {xs : Nat → Int32} {L d : Nat} {S : Nat → Shp} {I : Nat → Nat → Int32} {J : Nat → Nat → Int64} {R : Nat → Nat → Nat} {c : Nat × Nat} {Q : Option (Option Value) → MH → Prop} {x1 : Int32} {v2 : Value} (hL : Lay S R)  (k : X xs L d 93 0 [.ref 4] [] (S, I, J, R, c) (Kc xs L (d + 1) 65 15 [.ref 8, .int x1, v2] [] Q)) : X xs L (d + 1) 65 8 [.ref 8, .int x1, v2] [] (S, I, J, R, c) Q := by
  refine X_aload_n (q := 0) (show decode (mB 65) 8 = .ok (.aload_n 0, 1) by decide +kernel) (pc' := 9) rfl rfl rfl ?_
  refine X_getR (ci := 2) (f := 0) (q := 4) (show decode (mB 65) 9 = .ok (.getfield 13, 3) by decide +kernel) (pc' := 12) rfl (ls_8 hL) (by decide +kernel) rfl (lr_8_0 hL) ?_
  exact X_callV (y := 93) (n := 0) (st := [.ref 4]) (as := [.ref 4]) (rest := []) (ls0 := [.ref 4]) (ci := 8) (show decode (mB 65) 12 = .ok (.invokevirtual 35, 3) by decide +kernel) (pc' := 15) rfl (by decide +kernel) (by decide +kernel) rfl (ls_4 hL) (by decide +kernel) rfl rfl rfl rfl rfl k
set_option maxRecDepth 4000 in
theorem b_X6c_takeOpeners_15 {xs : Nat → Int32} {L d : Nat} {S : Nat → Shp} {I : Nat → Nat → Int32} {J : Nat → Nat → Int64} {R : Nat → Nat → Nat} {c : Nat × Nat} {Q : Option (Option Value) → MH → Prop} {x1 sx0 : Int32} {v2 : Value}  (kt : sx0 = 33 → X xs L (d + 1) 65 30 [.ref 8, .int x1, .int sx0] [] (S, I, J, R, c) Q) (kf : ¬ (sx0 = 33) → X xs L (d + 1) 65 22 [.ref 8, .int x1, .int sx0] [] (S, I, J, R, c) Q) : X xs L (d + 1) 65 15 [.ref 8, .int x1, v2] [.int sx0] (S, I, J, R, c) Q := by
  refine X_istore_n (q := 2) (ls' := [.ref 8, .int x1, .int sx0]) (show decode (mB 65) 15 = .ok (.istore_n 2, 1) by decide +kernel) (pc' := 16) rfl rfl rfl ?_
  refine X_iload_n (q := 2) (show decode (mB 65) 16 = .ok (.iload_n 2, 1) by decide +kernel) (pc' := 17) rfl rfl rfl ?_
  refine X_bipush (v := 33) (show decode (mB 65) 17 = .ok (.bipush 33, 2) by decide +kernel) (pc' := 19) rfl (by decide +kernel) ?_
  exact X_icmp_eq (tgt := 30) (show decode (mB 65) 19 = .ok (.if_icmp .eq 11, 3) by decide +kernel) rfl (pc' := 22) rfl kt kf
set_option maxRecDepth 4000 in
theorem b_X6c_takeOpeners_22 {xs : Nat → Int32} {L d : Nat} {S : Nat → Shp} {I : Nat → Nat → Int32} {J : Nat → Nat → Int64} {R : Nat → Nat → Nat} {c : Nat × Nat} {Q : Option (Option Value) → MH → Prop} {x1 x2 : Int32}  (kt : x2 = 40 → X xs L (d + 1) 65 30 [.ref 8, .int x1, .int x2] [] (S, I, J, R, c) Q) (kf : ¬ (x2 = 40) → X xs L (d + 1) 65 28 [.ref 8, .int x1, .int x2] [] (S, I, J, R, c) Q) : X xs L (d + 1) 65 22 [.ref 8, .int x1, .int x2] [] (S, I, J, R, c) Q := by
  refine X_iload_n (q := 2) (show decode (mB 65) 22 = .ok (.iload_n 2, 1) by decide +kernel) (pc' := 23) rfl rfl rfl ?_
  refine X_bipush (v := 40) (show decode (mB 65) 23 = .ok (.bipush 40, 2) by decide +kernel) (pc' := 25) rfl (by decide +kernel) ?_
  exact X_icmp_eq (tgt := 30) (show decode (mB 65) 25 = .ok (.if_icmp .eq 5, 3) by decide +kernel) rfl (pc' := 28) rfl kt kf
set_option maxRecDepth 4000 in
theorem b_X6c_takeOpeners_28 {xs : Nat → Int32} {L d : Nat} {S : Nat → Shp} {I : Nat → Nat → Int32} {J : Nat → Nat → Int64} {R : Nat → Nat → Nat} {c : Nat × Nat} {Q : Option (Option Value) → MH → Prop} {x1 x2 : Int32}  (k : Q (some (some (.int 1))) (S, I, J, R, c)) : X xs L (d + 1) 65 28 [.ref 8, .int x1, .int x2] [] (S, I, J, R, c) Q := by
  refine X_iconst (v := 1) (show decode (mB 65) 28 = .ok (.iconst 1, 1) by decide +kernel) (pc' := 29) rfl rfl ?_
  exact X_ireturn (ty := .boolean) (show decode (mB 65) 29 = .ok (.ireturn, 1) by decide +kernel) (by decide +kernel) rfl k
set_option maxRecDepth 4000 in
theorem b_X6c_takeOpeners_30 {xs : Nat → Int32} {L d : Nat} {S : Nat → Shp} {I : Nat → Nat → Int32} {J : Nat → Nat → Int64} {R : Nat → Nat → Nat} {c : Nat × Nat} {Q : Option (Option Value) → MH → Prop} {x1 x2 : Int32} (hL : Lay S R)  (kt : (I 8 5) < 10 → X xs L (d + 1) 65 41 [.ref 8, .int x1, .int x2] [] (S, I, J, R, c) Q) (kf : ¬ ((I 8 5) < 10) → X xs L (d + 1) 65 39 [.ref 8, .int x1, .int x2] [] (S, I, J, R, c) Q) : X xs L (d + 1) 65 30 [.ref 8, .int x1, .int x2] [] (S, I, J, R, c) Q := by
  refine X_aload_n (q := 0) (show decode (mB 65) 30 = .ok (.aload_n 0, 1) by decide +kernel) (pc' := 31) rfl rfl rfl ?_
  refine X_getI (ci := 2) (f := 5) (x := I 8 5) (show decode (mB 65) 31 = .ok (.getfield 49, 3) by decide +kernel) (pc' := 34) rfl (ls_8 hL) (by decide +kernel) rfl rfl ?_
  refine X_bipush (v := 10) (show decode (mB 65) 34 = .ok (.bipush 10, 2) by decide +kernel) (pc' := 36) rfl (by decide +kernel) ?_
  exact X_icmp_lt (tgt := 41) (show decode (mB 65) 36 = .ok (.if_icmp .lt 5, 3) by decide +kernel) rfl (pc' := 39) rfl kt kf
set_option maxRecDepth 4000 in
theorem b_X6c_takeOpeners_39 {xs : Nat → Int32} {L d : Nat} {S : Nat → Shp} {I : Nat → Nat → Int32} {J : Nat → Nat → Int64} {R : Nat → Nat → Nat} {c : Nat × Nat} {Q : Option (Option Value) → MH → Prop} {x1 x2 : Int32}  (k : Q (some (some (.int 0))) (S, I, J, R, c)) : X xs L (d + 1) 65 39 [.ref 8, .int x1, .int x2] [] (S, I, J, R, c) Q := by
  refine X_iconst (v := 0) (show decode (mB 65) 39 = .ok (.iconst 0, 1) by decide +kernel) (pc' := 40) rfl rfl ?_
  exact X_ireturn (ty := .boolean) (show decode (mB 65) 40 = .ok (.ireturn, 1) by decide +kernel) (by decide +kernel) rfl k
set_option maxRecDepth 4000 in
theorem b_X6c_takeOpeners_41 {xs : Nat → Int32} {L d : Nat} {S : Nat → Shp} {I : Nat → Nat → Int32} {J : Nat → Nat → Int64} {R : Nat → Nat → Nat} {c : Nat × Nat} {Q : Option (Option Value) → MH → Prop} {x1 x2 : Int32} (hL : Lay S R)  (k : X xs L d 67 0 [.ref 8, .int x2] [] (S, (u2 I 8 5 ((I 8 5) + 1)), J, R, c) (Kc xs L (d + 1) 65 56 [.ref 8, .int x1, .int x2] [] Q)) : X xs L (d + 1) 65 41 [.ref 8, .int x1, .int x2] [] (S, I, J, R, c) Q := by
  refine X_aload_n (q := 0) (show decode (mB 65) 41 = .ok (.aload_n 0, 1) by decide +kernel) (pc' := 42) rfl rfl rfl ?_
  refine X_dup (show decode (mB 65) 42 = .ok (.dup, 1) by decide +kernel) (pc' := 43) rfl rfl ?_
  refine X_getI (ci := 2) (f := 5) (x := I 8 5) (show decode (mB 65) 43 = .ok (.getfield 49, 3) by decide +kernel) (pc' := 46) rfl (ls_8 hL) (by decide +kernel) rfl rfl ?_
  refine X_iconst (v := 1) (show decode (mB 65) 46 = .ok (.iconst 1, 1) by decide +kernel) (pc' := 47) rfl rfl ?_
  refine X_iadd (show decode (mB 65) 47 = .ok (.iadd, 1) by decide +kernel) (pc' := 48) rfl ?_
  refine X_putI (ci := 2) (f := 5) (show decode (mB 65) 48 = .ok (.putfield 49, 3) by decide +kernel) (pc' := 51) rfl (ls_8 hL) (by decide +kernel) (by decide +kernel) rfl ?_
  refine X_aload_n (q := 0) (show decode (mB 65) 51 = .ok (.aload_n 0, 1) by decide +kernel) (pc' := 52) rfl rfl rfl ?_
  refine X_iload_n (q := 2) (show decode (mB 65) 52 = .ok (.iload_n 2, 1) by decide +kernel) (pc' := 53) rfl rfl rfl ?_
  exact X_callV (y := 67) (n := 1) (st := [.int x2, .ref 8]) (as := [.ref 8, .int x2]) (rest := []) (ls0 := [.ref 8, .int x2]) (ci := 2) (show decode (mB 65) 53 = .ok (.invokevirtual 72, 3) by decide +kernel) (pc' := 56) rfl (by decide +kernel) (by decide +kernel) rfl (ls_8 hL) (by decide +kernel) rfl rfl rfl rfl rfl k
set_option maxRecDepth 4000 in
theorem b_X6c_takeOpeners_56 {xs : Nat → Int32} {L d : Nat} {S : Nat → Shp} {I : Nat → Nat → Int32} {J : Nat → Nat → Int64} {R : Nat → Nat → Nat} {c : Nat × Nat} {Q : Option (Option Value) → MH → Prop} {x1 x2 : Int32} (hL : Lay S R)  (k : X xs L d 100 0 [.ref 4] [] (S, I, J, R, c) (Kc xs L (d + 1) 65 63 [.ref 8, .int x1, .int x2] [] Q)) : X xs L (d + 1) 65 56 [.ref 8, .int x1, .int x2] [] (S, I, J, R, c) Q := by
  refine X_aload_n (q := 0) (show decode (mB 65) 56 = .ok (.aload_n 0, 1) by decide +kernel) (pc' := 57) rfl rfl rfl ?_
  refine X_getR (ci := 2) (f := 0) (q := 4) (show decode (mB 65) 57 = .ok (.getfield 13, 3) by decide +kernel) (pc' := 60) rfl (ls_8 hL) (by decide +kernel) rfl (lr_8_0 hL) ?_
  exact X_callV (y := 100) (n := 0) (st := [.ref 4]) (as := [.ref 4]) (rest := []) (ls0 := [.ref 4]) (ci := 8) (show decode (mB 65) 60 = .ok (.invokevirtual 39, 3) by decide +kernel) (pc' := 63) rfl (by decide +kernel) (by decide +kernel) rfl (ls_4 hL) (by decide +kernel) rfl rfl rfl rfl rfl k
set_option maxRecDepth 4000 in
theorem b_X6c_takeOpeners_63 {xs : Nat → Int32} {L d : Nat} {S : Nat → Shp} {I : Nat → Nat → Int32} {J : Nat → Nat → Int64} {R : Nat → Nat → Nat} {c : Nat × Nat} {Q : Option (Option Value) → MH → Prop} {x1 x2 : Int32}  (k : X xs L (d + 1) 65 2 [.ref 8, .int (x1 + 1), .int x2] [] (S, I, J, R, c) Q) : X xs L (d + 1) 65 63 [.ref 8, .int x1, .int x2] [] (S, I, J, R, c) Q := by
  refine X_iinc (q := 1) (v := x1 + 1) (ls' := [.ref 8, .int (x1 + 1), .int x2]) (show decode (mB 65) 63 = .ok (.iinc 1 1, 3) by decide +kernel) (pc' := 66) rfl rfl rfl rfl ?_
  refine X_goto (tgt := 2) (show decode (mB 65) 66 = .ok (.goto (-64), 3) by decide +kernel) rfl ?_
  exact k
set_option maxRecDepth 4000 in
theorem b_X6c_takeOpeners_69 {xs : Nat → Int32} {L d : Nat} {S : Nat → Shp} {I : Nat → Nat → Int32} {J : Nat → Nat → Int64} {R : Nat → Nat → Nat} {c : Nat × Nat} {Q : Option (Option Value) → MH → Prop} {x1 : Int32} {v2 : Value}  (k : Q (some (some (.int 0))) (S, I, J, R, c)) : X xs L (d + 1) 65 69 [.ref 8, .int x1, v2] [] (S, I, J, R, c) Q := by
  refine X_iconst (v := 0) (show decode (mB 65) 69 = .ok (.iconst 0, 1) by decide +kernel) (pc' := 70) rfl rfl ?_
  exact X_ireturn (ty := .boolean) (show decode (mB 65) 70 = .ok (.ireturn, 1) by decide +kernel) (by decide +kernel) rfl k
set_option maxRecDepth 4000 in
theorem b_X6k_takeOpeners_0 {xs : Nat → Int32} {L d : Nat} {S : Nat → Shp} {I : Nat → Nat → Int32} {J : Nat → Nat → Int64} {R : Nat → Nat → Nat} {c : Nat × Nat} {Q : Option (Option Value) → MH → Prop}   (k : X xs L (d + 1) 65 2 [.ref 11, .int 0, .null] [] (S, I, J, R, c) Q) : X xs L (d + 1) 65 0 [.ref 11, .null, .null] [] (S, I, J, R, c) Q := by
  refine X_iconst (v := 0) (show decode (mB 65) 0 = .ok (.iconst 0, 1) by decide +kernel) (pc' := 1) rfl rfl ?_
  refine X_istore_n (q := 1) (ls' := [.ref 11, .int 0, .null]) (show decode (mB 65) 1 = .ok (.istore_n 1, 1) by decide +kernel) (pc' := 2) rfl rfl rfl ?_
  exact k
set_option maxRecDepth 4000 in
theorem b_X6k_takeOpeners_2 {xs : Nat → Int32} {L d : Nat} {S : Nat → Shp} {I : Nat → Nat → Int32} {J : Nat → Nat → Int64} {R : Nat → Nat → Nat} {c : Nat × Nat} {Q : Option (Option Value) → MH → Prop} {x1 : Int32} {v2 : Value}  (kt : 10 < x1 → X xs L (d + 1) 65 69 [.ref 11, .int x1, v2] [] (S, I, J, R, c) Q) (kf : ¬ (10 < x1) → X xs L (d + 1) 65 8 [.ref 11, .int x1, v2] [] (S, I, J, R, c) Q) : X xs L (d + 1) 65 2 [.ref 11, .int x1, v2] [] (S, I, J, R, c) Q := by
  refine X_iload_n (q := 1) (show decode (mB 65) 2 = .ok (.iload_n 1, 1) by decide +kernel) (pc' := 3) rfl rfl rfl ?_
  refine X_bipush (v := 10) (show decode (mB 65) 3 = .ok (.bipush 10, 2) by decide +kernel) (pc' := 5) rfl (by decide +kernel) ?_
  exact X_icmp_gt (tgt := 69) (show decode (mB 65) 5 = .ok (.if_icmp .gt 64, 3) by decide +kernel) rfl (pc' := 8) rfl kt kf
set_option maxRecDepth 4000 in
theorem b_X6k_takeOpeners_8 {xs : Nat → Int32} {L d : Nat} {S : Nat → Shp} {I : Nat → Nat → Int32} {J : Nat → Nat → Int64} {R : Nat → Nat → Nat} {c : Nat × Nat} {Q : Option (Option Value) → MH → Prop} {x1 : Int32} {v2 : Value} (hL : Lay S R)  (k : X xs L d 93 0 [.ref 4] [] (S, I, J, R, c) (Kc xs L (d + 1) 65 15 [.ref 11, .int x1, v2] [] Q)) : X xs L (d + 1) 65 8 [.ref 11, .int x1, v2] [] (S, I, J, R, c) Q := by
  refine X_aload_n (q := 0) (show decode (mB 65) 8 = .ok (.aload_n 0, 1) by decide +kernel) (pc' := 9) rfl rfl rfl ?_
  refine X_getR (ci := 4) (f := 0) (q := 4) (show decode (mB 65) 9 = .ok (.getfield 13, 3) by decide +kernel) (pc' := 12) rfl (ls_11 hL) (by decide +kernel) rfl (lr_11_0 hL) ?_
  exact X_callV (y := 93) (n := 0) (st := [.ref 4]) (as := [.ref 4]) (rest := []) (ls0 := [.ref 4]) (ci := 8) (show decode (mB 65) 12 = .ok (.invokevirtual 35, 3) by decide +kernel) (pc' := 15) rfl (by decide +kernel) (by decide +kernel) rfl (ls_4 hL) (by decide +kernel) rfl rfl rfl rfl rfl k
set_option maxRecDepth 4000 in
theorem b_X6k_takeOpeners_15 {xs : Nat → Int32} {L d : Nat} {S : Nat → Shp} {I : Nat → Nat → Int32} {J : Nat → Nat → Int64} {R : Nat → Nat → Nat} {c : Nat × Nat} {Q : Option (Option Value) → MH → Prop} {x1 sx0 : Int32} {v2 : Value}  (kt : sx0 = 33 → X xs L (d + 1) 65 30 [.ref 11, .int x1, .int sx0] [] (S, I, J, R, c) Q) (kf : ¬ (sx0 = 33) → X xs L (d + 1) 65 22 [.ref 11, .int x1, .int sx0] [] (S, I, J, R, c) Q) : X xs L (d + 1) 65 15 [.ref 11, .int x1, v2] [.int sx0] (S, I, J, R, c) Q := by
  refine X_istore_n (q := 2) (ls' := [.ref 11, .int x1, .int sx0]) (show decode (mB 65) 15 = .ok (.istore_n 2, 1) by decide +kernel) (pc' := 16) rfl rfl rfl ?_
  refine X_iload_n (q := 2) (show decode (mB 65) 16 = .ok (.iload_n 2, 1) by decide +kernel) (pc' := 17) rfl rfl rfl ?_
  refine X_bipush (v := 33) (show decode (mB 65) 17 = .ok (.bipush 33, 2) by decide +kernel) (pc' := 19) rfl (by decide +kernel) ?_
  exact X_icmp_eq (tgt := 30) (show decode (mB 65) 19 = .ok (.if_icmp .eq 11, 3) by decide +kernel) rfl (pc' := 22) rfl kt kf
set_option maxRecDepth 4000 in
theorem b_X6k_takeOpeners_22 {xs : Nat → Int32} {L d : Nat} {S : Nat → Shp} {I : Nat → Nat → Int32} {J : Nat → Nat → Int64} {R : Nat → Nat → Nat} {c : Nat × Nat} {Q : Option (Option Value) → MH → Prop} {x1 x2 : Int32}  (kt : x2 = 40 → X xs L (d + 1) 65 30 [.ref 11, .int x1, .int x2] [] (S, I, J, R, c) Q) (kf : ¬ (x2 = 40) → X xs L (d + 1) 65 28 [.ref 11, .int x1, .int x2] [] (S, I, J, R, c) Q) : X xs L (d + 1) 65 22 [.ref 11, .int x1, .int x2] [] (S, I, J, R, c) Q := by
  refine X_iload_n (q := 2) (show decode (mB 65) 22 = .ok (.iload_n 2, 1) by decide +kernel) (pc' := 23) rfl rfl rfl ?_
  refine X_bipush (v := 40) (show decode (mB 65) 23 = .ok (.bipush 40, 2) by decide +kernel) (pc' := 25) rfl (by decide +kernel) ?_
  exact X_icmp_eq (tgt := 30) (show decode (mB 65) 25 = .ok (.if_icmp .eq 5, 3) by decide +kernel) rfl (pc' := 28) rfl kt kf
set_option maxRecDepth 4000 in
theorem b_X6k_takeOpeners_28 {xs : Nat → Int32} {L d : Nat} {S : Nat → Shp} {I : Nat → Nat → Int32} {J : Nat → Nat → Int64} {R : Nat → Nat → Nat} {c : Nat × Nat} {Q : Option (Option Value) → MH → Prop} {x1 x2 : Int32}  (k : Q (some (some (.int 1))) (S, I, J, R, c)) : X xs L (d + 1) 65 28 [.ref 11, .int x1, .int x2] [] (S, I, J, R, c) Q := by
  refine X_iconst (v := 1) (show decode (mB 65) 28 = .ok (.iconst 1, 1) by decide +kernel) (pc' := 29) rfl rfl ?_
  exact X_ireturn (ty := .boolean) (show decode (mB 65) 29 = .ok (.ireturn, 1) by decide +kernel) (by decide +kernel) rfl k
set_option maxRecDepth 4000 in
theorem b_X6k_takeOpeners_30 {xs : Nat → Int32} {L d : Nat} {S : Nat → Shp} {I : Nat → Nat → Int32} {J : Nat → Nat → Int64} {R : Nat → Nat → Nat} {c : Nat × Nat} {Q : Option (Option Value) → MH → Prop} {x1 x2 : Int32} (hL : Lay S R)  (kt : (I 11 5) < 10 → X xs L (d + 1) 65 41 [.ref 11, .int x1, .int x2] [] (S, I, J, R, c) Q) (kf : ¬ ((I 11 5) < 10) → X xs L (d + 1) 65 39 [.ref 11, .int x1, .int x2] [] (S, I, J, R, c) Q) : X xs L (d + 1) 65 30 [.ref 11, .int x1, .int x2] [] (S, I, J, R, c) Q := by
  refine X_aload_n (q := 0) (show decode (mB 65) 30 = .ok (.aload_n 0, 1) by decide +kernel) (pc' := 31) rfl rfl rfl ?_
  refine X_getI (ci := 4) (f := 5) (x := I 11 5) (show decode (mB 65) 31 = .ok (.getfield 49, 3) by decide +kernel) (pc' := 34) rfl (ls_11 hL) (by decide +kernel) rfl rfl ?_
  refine X_bipush (v := 10) (show decode (mB 65) 34 = .ok (.bipush 10, 2) by decide +kernel) (pc' := 36) rfl (by decide +kernel) ?_
  exact X_icmp_lt (tgt := 41) (show decode (mB 65) 36 = .ok (.if_icmp .lt 5, 3) by decide +kernel) rfl (pc' := 39) rfl kt kf
set_option maxRecDepth 4000 in
theorem b_X6k_takeOpeners_39 {xs : Nat → Int32} {L d : Nat} {S : Nat → Shp} {I : Nat → Nat → Int32} {J : Nat → Nat → Int64} {R : Nat → Nat → Nat} {c : Nat × Nat} {Q : Option (Option Value) → MH → Prop} {x1 x2 : Int32}  (k : Q (some (some (.int 0))) (S, I, J, R, c)) : X xs L (d + 1) 65 39 [.ref 11, .int x1, .int x2] [] (S, I, J, R, c) Q := by
  refine X_iconst (v := 0) (show decode (mB 65) 39 = .ok (.iconst 0, 1) by decide +kernel) (pc' := 40) rfl rfl ?_
  exact X_ireturn (ty := .boolean) (show decode (mB 65) 40 = .ok (.ireturn, 1) by decide +kernel) (by decide +kernel) rfl k
set_option maxRecDepth 4000 in
theorem b_X6k_takeOpeners_41 {xs : Nat → Int32} {L d : Nat} {S : Nat → Shp} {I : Nat → Nat → Int32} {J : Nat → Nat → Int64} {R : Nat → Nat → Nat} {c : Nat × Nat} {Q : Option (Option Value) → MH → Prop} {x1 x2 : Int32} (hL : Lay S R)  (k : X xs L d 67 0 [.ref 11, .int x2] [] (S, (u2 I 11 5 ((I 11 5) + 1)), J, R, c) (Kc xs L (d + 1) 65 56 [.ref 11, .int x1, .int x2] [] Q)) : X xs L (d + 1) 65 41 [.ref 11, .int x1, .int x2] [] (S, I, J, R, c) Q := by
  refine X_aload_n (q := 0) (show decode (mB 65) 41 = .ok (.aload_n 0, 1) by decide +kernel) (pc' := 42) rfl rfl rfl ?_
  refine X_dup (show decode (mB 65) 42 = .ok (.dup, 1) by decide +kernel) (pc' := 43) rfl rfl ?_
  refine X_getI (ci := 4) (f := 5) (x := I 11 5) (show decode (mB 65) 43 = .ok (.getfield 49, 3) by decide +kernel) (pc' := 46) rfl (ls_11 hL) (by decide +kernel) rfl rfl ?_
  refine X_iconst (v := 1) (show decode (mB 65) 46 = .ok (.iconst 1, 1) by decide +kernel) (pc' := 47) rfl rfl ?_
  refine X_iadd (show decode (mB 65) 47 = .ok (.iadd, 1) by decide +kernel) (pc' := 48) rfl ?_
  refine X_putI (ci := 4) (f := 5) (show decode (mB 65) 48 = .ok (.putfield 49, 3) by decide +kernel) (pc' := 51) rfl (ls_11 hL) (by decide +kernel) (by decide +kernel) rfl ?_
  refine X_aload_n (q := 0) (show decode (mB 65) 51 = .ok (.aload_n 0, 1) by decide +kernel) (pc' := 52) rfl rfl rfl ?_
  refine X_iload_n (q := 2) (show decode (mB 65) 52 = .ok (.iload_n 2, 1) by decide +kernel) (pc' := 53) rfl rfl rfl ?_
  exact X_callV (y := 67) (n := 1) (st := [.int x2, .ref 11]) (as := [.ref 11, .int x2]) (rest := []) (ls0 := [.ref 11, .int x2]) (ci := 4) (show decode (mB 65) 53 = .ok (.invokevirtual 72, 3) by decide +kernel) (pc' := 56) rfl (by decide +kernel) (by decide +kernel) rfl (ls_11 hL) (by decide +kernel) rfl rfl rfl rfl rfl k
set_option maxRecDepth 4000 in
theorem b_X6k_takeOpeners_56 {xs : Nat → Int32} {L d : Nat} {S : Nat → Shp} {I : Nat → Nat → Int32} {J : Nat → Nat → Int64} {R : Nat → Nat → Nat} {c : Nat × Nat} {Q : Option (Option Value) → MH → Prop} {x1 x2 : Int32} (hL : Lay S R)  (k : X xs L d 100 0 [.ref 4] [] (S, I, J, R, c) (Kc xs L (d + 1) 65 63 [.ref 11, .int x1, .int x2] [] Q)) : X xs L (d + 1) 65 56 [.ref 11, .int x1, .int x2] [] (S, I, J, R, c) Q := by
  refine X_aload_n (q := 0) (show decode (mB 65) 56 = .ok (.aload_n 0, 1) by decide +kernel) (pc' := 57) rfl rfl rfl ?_
  refine X_getR (ci := 4) (f := 0) (q := 4) (show decode (mB 65) 57 = .ok (.getfield 13, 3) by decide +kernel) (pc' := 60) rfl (ls_11 hL) (by decide +kernel) rfl (lr_11_0 hL) ?_
  exact X_callV (y := 100) (n := 0) (st := [.ref 4]) (as := [.ref 4]) (rest := []) (ls0 := [.ref 4]) (ci := 8) (show decode (mB 65) 60 = .ok (.invokevirtual 39, 3) by decide +kernel) (pc' := 63) rfl (by decide +kernel) (by decide +kernel) rfl (ls_4 hL) (by decide +kernel) rfl rfl rfl rfl rfl k
set_option maxRecDepth 4000 in
theorem b_X6k_takeOpeners_63 {xs : Nat → Int32} {L d : Nat} {S : Nat → Shp} {I : Nat → Nat → Int32} {J : Nat → Nat → Int64} {R : Nat → Nat → Nat} {c : Nat × Nat} {Q : Option (Option Value) → MH → Prop} {x1 x2 : Int32}  (k : X xs L (d + 1) 65 2 [.ref 11, .int (x1 + 1), .int x2] [] (S, I, J, R, c) Q) : X xs L (d + 1) 65 63 [.ref 11, .int x1, .int x2] [] (S, I, J, R, c) Q := by
  refine X_iinc (q := 1) (v := x1 + 1) (ls' := [.ref 11, .int (x1 + 1), .int x2]) (show decode (mB 65) 63 = .ok (.iinc 1 1, 3) by decide +kernel) (pc' := 66) rfl rfl rfl rfl ?_
  refine X_goto (tgt := 2) (show decode (mB 65) 66 = .ok (.goto (-64), 3) by decide +kernel) rfl ?_
  exact k
set_option maxRecDepth 4000 in
theorem b_X6k_takeOpeners_69 {xs : Nat → Int32} {L d : Nat} {S : Nat → Shp} {I : Nat → Nat → Int32} {J : Nat → Nat → Int64} {R : Nat → Nat → Nat} {c : Nat × Nat} {Q : Option (Option Value) → MH → Prop} {x1 : Int32} {v2 : Value}  (k : Q (some (some (.int 0))) (S, I, J, R, c)) : X xs L (d + 1) 65 69 [.ref 11, .int x1, v2] [] (S, I, J, R, c) Q := by
  refine X_iconst (v := 0) (show decode (mB 65) 69 = .ok (.iconst 0, 1) by decide +kernel) (pc' := 70) rfl rfl ?_
  exact X_ireturn (ty := .boolean) (show decode (mB 65) 70 = .ok (.ireturn, 1) by decide +kernel) (by decide +kernel) rfl k
set_option maxRecDepth 4000 in
theorem b_X6c_takeClosers_0 {xs : Nat → Int32} {L d : Nat} {S : Nat → Shp} {I : Nat → Nat → Int32} {J : Nat → Nat → Int64} {R : Nat → Nat → Nat} {c : Nat × Nat} {Q : Option (Option Value) → MH → Prop}   (k : X xs L (d + 1) 66 2 [.ref 8, .int 0] [] (S, I, J, R, c) Q) : X xs L (d + 1) 66 0 [.ref 8, .null] [] (S, I, J, R, c) Q := by
  refine X_iconst (v := 0) (show decode (mB 66) 0 = .ok (.iconst 0, 1) by decide +kernel) (pc' := 1) rfl rfl ?_
  refine X_istore_n (q := 1) (ls' := [.ref 8, .int 0]) (show decode (mB 66) 1 = .ok (.istore_n 1, 1) by decide +kernel) (pc' := 2) rfl rfl rfl ?_
  exact k
set_option maxRecDepth 4000 in
theorem b_X6c_takeClosers_2 {xs : Nat → Int32} {L d : Nat} {S : Nat → Shp} {I : Nat → Nat → Int32} {J : Nat → Nat → Int64} {R : Nat → Nat → Nat} {c : Nat × Nat} {Q : Option (Option Value) → MH → Prop} {x1 : Int32}  (kt : 10 ≤ x1 → X xs L (d + 1) 66 66 [.ref 8, .int x1] [] (S, I, J, R, c) Q) (kf : ¬ (10 ≤ x1) → X xs L (d + 1) 66 8 [.ref 8, .int x1] [] (S, I, J, R, c) Q) : X xs L (d + 1) 66 2 [.ref 8, .int x1] [] (S, I, J, R, c) Q := by
  refine X_iload_n (q := 1) (show decode (mB 66) 2 = .ok (.iload_n 1, 1) by decide +kernel) (pc' := 3) rfl rfl rfl ?_
  refine X_bipush (v := 10) (show decode (mB 66) 3 = .ok (.bipush 10, 2) by decide +kernel) (pc' := 5) rfl (by decide +kernel) ?_
  exact X_icmp_ge (tgt := 66) (show decode (mB 66) 5 = .ok (.if_icmp .ge 61, 3) by decide +kernel) rfl (pc' := 8) rfl kt kf
set_option maxRecDepth 4000 in
theorem b_X6c_takeClosers_8 {xs : Nat → Int32} {L d : Nat} {S : Nat → Shp} {I : Nat → Nat → Int32} {J : Nat → Nat → Int64} {R : Nat → Nat → Nat} {c : Nat × Nat} {Q : Option (Option Value) → MH → Prop} {x1 : Int32} (hL : Lay S R)  (k : X xs L d 93 0 [.ref 4] [] (S, I, J, R, c) (Kc xs L (d + 1) 66 15 [.ref 8, .int x1] [] Q)) : X xs L (d + 1) 66 8 [.ref 8, .int x1] [] (S, I, J, R, c) Q := by
  refine X_aload_n (q := 0) (show decode (mB 66) 8 = .ok (.aload_n 0, 1) by decide +kernel) (pc' := 9) rfl rfl rfl ?_
  refine X_getR (ci := 2) (f := 0) (q := 4) (show decode (mB 66) 9 = .ok (.getfield 13, 3) by decide +kernel) (pc' := 12) rfl (ls_8 hL) (by decide +kernel) rfl (lr_8_0 hL) ?_
  exact X_callV (y := 93) (n := 0) (st := [.ref 4]) (as := [.ref 4]) (rest := []) (ls0 := [.ref 4]) (ci := 8) (show decode (mB 66) 12 = .ok (.invokevirtual 35, 3) by decide +kernel) (pc' := 15) rfl (by decide +kernel) (by decide +kernel) rfl (ls_4 hL) (by decide +kernel) rfl rfl rfl rfl rfl k
set_option maxRecDepth 4000 in
theorem b_X6c_takeClosers_15 {xs : Nat → Int32} {L d : Nat} {S : Nat → Shp} {I : Nat → Nat → Int32} {J : Nat → Nat → Int64} {R : Nat → Nat → Nat} {c : Nat × Nat} {Q : Option (Option Value) → MH → Prop} {x1 sx0 : Int32}  (kt : ¬ sx0 = 41 → X xs L (d + 1) 66 66 [.ref 8, .int x1] [] (S, I, J, R, c) Q) (kf : ¬ (¬ sx0 = 41) → X xs L (d + 1) 66 20 [.ref 8, .int x1] [] (S, I, J, R, c) Q) : X xs L (d + 1) 66 15 [.ref 8, .int x1] [.int sx0] (S, I, J, R, c) Q := by
  refine X_bipush (v := 41) (show decode (mB 66) 15 = .ok (.bipush 41, 2) by decide +kernel) (pc' := 17) rfl (by decide +kernel) ?_
  exact X_icmp_ne (tgt := 66) (show decode (mB 66) 17 = .ok (.if_icmp .ne 49, 3) by decide +kernel) rfl (pc' := 20) rfl kt kf
set_option maxRecDepth 4000 in
theorem b_X6c_takeClosers_20 {xs : Nat → Int32} {L d : Nat} {S : Nat → Shp} {I : Nat → Nat → Int32} {J : Nat → Nat → Int64} {R : Nat → Nat → Nat} {c : Nat × Nat} {Q : Option (Option Value) → MH → Prop} {x1 : Int32} (hL : Lay S R)  (k : X xs L d 68 0 [.ref 8, .int 1] [] (S, I, J, R, c) (Kc xs L (d + 1) 66 25 [.ref 8, .int x1] [] Q)) : X xs L (d + 1) 66 20 [.ref 8, .int x1] [] (S, I, J, R, c) Q := by
  refine X_aload_n (q := 0) (show decode (mB 66) 20 = .ok (.aload_n 0, 1) by decide +kernel) (pc' := 21) rfl rfl rfl ?_
  refine X_iconst (v := 1) (show decode (mB 66) 21 = .ok (.iconst 1, 1) by decide +kernel) (pc' := 22) rfl rfl ?_
  exact X_callV (y := 68) (n := 1) (st := [.int 1, .ref 8]) (as := [.ref 8, .int 1]) (rest := []) (ls0 := [.ref 8, .int 1]) (ci := 2) (show decode (mB 66) 22 = .ok (.invokevirtual 64, 3) by decide +kernel) (pc' := 25) rfl (by decide +kernel) (by decide +kernel) rfl (ls_8 hL) (by decide +kernel) rfl rfl rfl rfl rfl k
set_option maxRecDepth 4000 in
theorem b_X6c_takeClosers_25 {xs : Nat → Int32} {L d : Nat} {S : Nat → Shp} {I : Nat → Nat → Int32} {J : Nat → Nat → Int64} {R : Nat → Nat → Nat} {c : Nat × Nat} {Q : Option (Option Value) → MH → Prop} {x1 : Int32} (hL : Lay S R)  (kt : ¬ (I 8 4) = 0 → X xs L (d + 1) 66 33 [.ref 8, .int x1] [] (S, I, J, R, c) Q) (kf : ¬ (¬ (I 8 4) = 0) → X xs L (d + 1) 66 32 [.ref 8, .int x1] [] (S, I, J, R, c) Q) : X xs L (d + 1) 66 25 [.ref 8, .int x1] [] (S, I, J, R, c) Q := by
  refine X_aload_n (q := 0) (show decode (mB 66) 25 = .ok (.aload_n 0, 1) by decide +kernel) (pc' := 26) rfl rfl rfl ?_
  refine X_getI (ci := 2) (f := 4) (x := I 8 4) (show decode (mB 66) 26 = .ok (.getfield 46, 3) by decide +kernel) (pc' := 29) rfl (ls_8 hL) (by decide +kernel) rfl rfl ?_
  exact X_if_ne (tgt := 33) (show decode (mB 66) 29 = .ok (.ifCond .ne 4, 3) by decide +kernel) rfl (pc' := 32) rfl kt kf
set_option maxRecDepth 4000 in
theorem b_X6c_takeClosers_32 {xs : Nat → Int32} {L d : Nat} {S : Nat → Shp} {I : Nat → Nat → Int32} {J : Nat → Nat → Int64} {R : Nat → Nat → Nat} {c : Nat × Nat} {Q : Option (Option Value) → MH → Prop} {x1 : Int32}  (k : Q (some none) (S, I, J, R, c)) : X xs L (d + 1) 66 32 [.ref 8, .int x1] [] (S, I, J, R, c) Q := by
  exact X_return (show decode (mB 66) 32 = .ok (.return_, 1) by decide +kernel) (by decide +kernel) k
set_option maxRecDepth 4000 in
theorem b_X6c_takeClosers_33 {xs : Nat → Int32} {L d : Nat} {S : Nat → Shp} {I : Nat → Nat → Int32} {J : Nat → Nat → Int64} {R : Nat → Nat → Nat} {c : Nat × Nat} {Q : Option (Option Value) → MH → Prop} {x1 : Int32} (hL : Lay S R)  (k : X xs L d 100 0 [.ref 4] [] (S, (u2 (u2 I 8 4 ((I 8 4) - 1)) 8 5 ((I 8 5) - 1)), J, R, c) (Kc xs L (d + 1) 66 60 [.ref 8, .int x1] [] Q)) : X xs L (d + 1) 66 33 [.ref 8, .int x1] [] (S, I, J, R, c) Q := by
  refine X_aload_n (q := 0) (show decode (mB 66) 33 = .ok (.aload_n 0, 1) by decide +kernel) (pc' := 34) rfl rfl rfl ?_
  refine X_dup (show decode (mB 66) 34 = .ok (.dup, 1) by decide +kernel) (pc' := 35) rfl rfl ?_
  refine X_getI (ci := 2) (f := 4) (x := I 8 4) (show decode (mB 66) 35 = .ok (.getfield 46, 3) by decide +kernel) (pc' := 38) rfl (ls_8 hL) (by decide +kernel) rfl rfl ?_
  refine X_iconst (v := 1) (show decode (mB 66) 38 = .ok (.iconst 1, 1) by decide +kernel) (pc' := 39) rfl rfl ?_
  refine X_isub (show decode (mB 66) 39 = .ok (.isub, 1) by decide +kernel) (pc' := 40) rfl ?_
  refine X_putI (ci := 2) (f := 4) (show decode (mB 66) 40 = .ok (.putfield 46, 3) by decide +kernel) (pc' := 43) rfl (ls_8 hL) (by decide +kernel) (by decide +kernel) rfl ?_
  refine X_aload_n (q := 0) (show decode (mB 66) 43 = .ok (.aload_n 0, 1) by decide +kernel) (pc' := 44) rfl rfl rfl ?_
  refine X_dup (show decode (mB 66) 44 = .ok (.dup, 1) by decide +kernel) (pc' := 45) rfl rfl ?_
  refine X_getI (ci := 2) (f := 5) (x := I 8 5) (show decode (mB 66) 45 = .ok (.getfield 49, 3) by decide +kernel) (pc' := 48) rfl (ls_8 hL) (by decide +kernel) rfl (by simp [u2, u1]) ?_
  refine X_iconst (v := 1) (show decode (mB 66) 48 = .ok (.iconst 1, 1) by decide +kernel) (pc' := 49) rfl rfl ?_
  refine X_isub (show decode (mB 66) 49 = .ok (.isub, 1) by decide +kernel) (pc' := 50) rfl ?_
  refine X_putI (ci := 2) (f := 5) (show decode (mB 66) 50 = .ok (.putfield 49, 3) by decide +kernel) (pc' := 53) rfl (ls_8 hL) (by decide +kernel) (by decide +kernel) rfl ?_
  refine X_aload_n (q := 0) (show decode (mB 66) 53 = .ok (.aload_n 0, 1) by decide +kernel) (pc' := 54) rfl rfl rfl ?_
  refine X_getR (ci := 2) (f := 0) (q := 4) (show decode (mB 66) 54 = .ok (.getfield 13, 3) by decide +kernel) (pc' := 57) rfl (ls_8 hL) (by decide +kernel) rfl (lr_8_0 hL) ?_
  exact X_callV (y := 100) (n := 0) (st := [.ref 4]) (as := [.ref 4]) (rest := []) (ls0 := [.ref 4]) (ci := 8) (show decode (mB 66) 57 = .ok (.invokevirtual 39, 3) by decide +kernel) (pc' := 60) rfl (by decide +kernel) (by decide +kernel) rfl (ls_4 hL) (by decide +kernel) rfl rfl rfl rfl rfl k
set_option maxRecDepth 4000 in
theorem b_X6c_takeClosers_60 {xs : Nat → Int32} {L d : Nat} {S : Nat → Shp} {I : Nat → Nat → Int32} {J : Nat → Nat → Int64} {R : Nat → Nat → Nat} {c : Nat × Nat} {Q : Option (Option Value) → MH → Prop} {x1 : Int32}  (k : X xs L (d + 1) 66 2 [.ref 8, .int (x1 + 1)] [] (S, I, J, R, c) Q) : X xs L (d + 1) 66 60 [.ref 8, .int x1] [] (S, I, J, R, c) Q := by
  refine X_iinc (q := 1) (v := x1 + 1) (ls' := [.ref 8, .int (x1 + 1)]) (show decode (mB 66) 60 = .ok (.iinc 1 1, 3) by decide +kernel) (pc' := 63) rfl rfl rfl rfl ?_
  refine X_goto (tgt := 2) (show decode (mB 66) 63 = .ok (.goto (-61), 3) by decide +kernel) rfl ?_
  exact k
set_option maxRecDepth 4000 in
theorem b_X6c_takeClosers_66 {xs : Nat → Int32} {L d : Nat} {S : Nat → Shp} {I : Nat → Nat → Int32} {J : Nat → Nat → Int64} {R : Nat → Nat → Nat} {c : Nat × Nat} {Q : Option (Option Value) → MH → Prop} {x1 : Int32}  (k : Q (some none) (S, I, J, R, c)) : X xs L (d + 1) 66 66 [.ref 8, .int x1] [] (S, I, J, R, c) Q := by
  exact X_return (show decode (mB 66) 66 = .ok (.return_, 1) by decide +kernel) (by decide +kernel) k
set_option maxRecDepth 4000 in
theorem b_X6k_takeClosers_0 {xs : Nat → Int32} {L d : Nat} {S : Nat → Shp} {I : Nat → Nat → Int32} {J : Nat → Nat → Int64} {R : Nat → Nat → Nat} {c : Nat × Nat} {Q : Option (Option Value) → MH → Prop}   (k : X xs L (d + 1) 66 2 [.ref 11, .int 0] [] (S, I, J, R, c) Q) : X xs L (d + 1) 66 0 [.ref 11, .null] [] (S, I, J, R, c) Q := by
  refine X_iconst (v := 0) (show decode (mB 66) 0 = .ok (.iconst 0, 1) by decide +kernel) (pc' := 1) rfl rfl ?_
  refine X_istore_n (q := 1) (ls' := [.ref 11, .int 0]) (show decode (mB 66) 1 = .ok (.istore_n 1, 1) by decide +kernel) (pc' := 2) rfl rfl rfl ?_
  exact k
set_option maxRecDepth 4000 in
theorem b_X6k_takeClosers_2 {xs : Nat → Int32} {L d : Nat} {S : Nat → Shp} {I : Nat → Nat → Int32} {J : Nat → Nat → Int64} {R : Nat → Nat → Nat} {c : Nat × Nat} {Q : Option (Option Value) → MH → Prop} {x1 : Int32}  (kt : 10 ≤ x1 → X xs L (d + 1) 66 66 [.ref 11, .int x1] [] (S, I, J, R, c) Q) (kf : ¬ (10 ≤ x1) → X xs L (d + 1) 66 8 [.ref 11, .int x1] [] (S, I, J, R, c) Q) : X xs L (d + 1) 66 2 [.ref 11, .int x1] [] (S, I, J, R, c) Q := by
  refine X_iload_n (q := 1) (show decode (mB 66) 2 = .ok (.iload_n 1, 1) by decide +kernel) (pc' := 3) rfl rfl rfl ?_
  refine X_bipush (v := 10) (show decode (mB 66) 3 = .ok (.bipush 10, 2) by decide +kernel) (pc' := 5) rfl (by decide +kernel) ?_
  exact X_icmp_ge (tgt := 66) (show decode (mB 66) 5 = .ok (.if_icmp .ge 61, 3) by decide +kernel) rfl (pc' := 8) rfl kt kf
set_option maxRecDepth 4000 in
theorem b_X6k_takeClosers_8 {xs : Nat → Int32} {L d : Nat} {S : Nat → Shp} {I : Nat → Nat → Int32} {J : Nat → Nat → Int64} {R : Nat → Nat → Nat} {c : Nat × Nat} {Q : Option (Option Value) → MH → Prop} {x1 : Int32} (hL : Lay S R)  (k : X xs L d 93 0 [.ref 4] [] (S, I, J, R, c) (Kc xs L (d + 1) 66 15 [.ref 11, .int x1] [] Q)) : X xs L (d + 1) 66 8 [.ref 11, .int x1] [] (S, I, J, R, c) Q := by
  refine X_aload_n (q := 0) (show decode (mB 66) 8 = .ok (.aload_n 0, 1) by decide +kernel) (pc' := 9) rfl rfl rfl ?_
  refine X_getR (ci := 4) (f := 0) (q := 4) (show decode (mB 66) 9 = .ok (.getfield 13, 3) by decide +kernel) (pc' := 12) rfl (ls_11 hL) (by decide +kernel) rfl (lr_11_0 hL) ?_
  exact X_callV (y := 93) (n := 0) (st := [.ref 4]) (as := [.ref 4]) (rest := []) (ls0 := [.ref 4]) (ci := 8) (show decode (mB 66) 12 = .ok (.invokevirtual 35, 3) by decide +kernel) (pc' := 15) rfl (by decide +kernel) (by decide +kernel) rfl (ls_4 hL) (by decide +kernel) rfl rfl rfl rfl rfl k
set_option maxRecDepth 4000 in
theorem b_X6k_takeClosers_15 {xs : Nat → Int32} {L d : Nat} {S : Nat → Shp} {I : Nat → Nat → Int32} {J : Nat → Nat → Int64} {R : Nat → Nat → Nat} {c : Nat × Nat} {Q : Option (Option Value) → MH → Prop} {x1 sx0 : Int32}  (kt : ¬ sx0 = 41 → X xs L (d + 1) 66 66 [.ref 11, .int x1] [] (S, I, J, R, c) Q) (kf : ¬ (¬ sx0 = 41) → X xs L (d + 1) 66 20 [.ref 11, .int x1] [] (S, I, J, R, c) Q) : X xs L (d + 1) 66 15 [.ref 11, .int x1] [.int sx0] (S, I, J, R, c) Q := by
  refine X_bipush (v := 41) (show decode (mB 66) 15 = .ok (.bipush 41, 2) by decide +kernel) (pc' := 17) rfl (by decide +kernel) ?_
  exact X_icmp_ne (tgt := 66) (show decode (mB 66) 17 = .ok (.if_icmp .ne 49, 3) by decide +kernel) rfl (pc' := 20) rfl kt kf
set_option maxRecDepth 4000 in
theorem b_X6k_takeClosers_20 {xs : Nat → Int32} {L d : Nat} {S : Nat → Shp} {I : Nat → Nat → Int32} {J : Nat → Nat → Int64} {R : Nat → Nat → Nat} {c : Nat × Nat} {Q : Option (Option Value) → MH → Prop} {x1 : Int32} (hL : Lay S R)  (k : X xs L d 68 0 [.ref 11, .int 1] [] (S, I, J, R, c) (Kc xs L (d + 1) 66 25 [.ref 11, .int x1] [] Q)) : X xs L (d + 1) 66 20 [.ref 11, .int x1] [] (S, I, J, R, c) Q := by
  refine X_aload_n (q := 0) (show decode (mB 66) 20 = .ok (.aload_n 0, 1) by decide +kernel) (pc' := 21) rfl rfl rfl ?_
  refine X_iconst (v := 1) (show decode (mB 66) 21 = .ok (.iconst 1, 1) by decide +kernel) (pc' := 22) rfl rfl ?_
  exact X_callV (y := 68) (n := 1) (st := [.int 1, .ref 11]) (as := [.ref 11, .int 1]) (rest := []) (ls0 := [.ref 11, .int 1]) (ci := 4) (show decode (mB 66) 22 = .ok (.invokevirtual 64, 3) by decide +kernel) (pc' := 25) rfl (by decide +kernel) (by decide +kernel) rfl (ls_11 hL) (by decide +kernel) rfl rfl rfl rfl rfl k
set_option maxRecDepth 4000 in
theorem b_X6k_takeClosers_25 {xs : Nat → Int32} {L d : Nat} {S : Nat → Shp} {I : Nat → Nat → Int32} {J : Nat → Nat → Int64} {R : Nat → Nat → Nat} {c : Nat × Nat} {Q : Option (Option Value) → MH → Prop} {x1 : Int32} (hL : Lay S R)  (kt : ¬ (I 11 4) = 0 → X xs L (d + 1) 66 33 [.ref 11, .int x1] [] (S, I, J, R, c) Q) (kf : ¬ (¬ (I 11 4) = 0) → X xs L (d + 1) 66 32 [.ref 11, .int x1] [] (S, I, J, R, c) Q) : X xs L (d + 1) 66 25 [.ref 11, .int x1] [] (S, I, J, R, c) Q := by
  refine X_aload_n (q := 0) (show decode (mB 66) 25 = .ok (.aload_n 0, 1) by decide +kernel) (pc' := 26) rfl rfl rfl ?_
  refine X_getI (ci := 4) (f := 4) (x := I 11 4) (show decode (mB 66) 26 = .ok (.getfield 46, 3) by decide +kernel) (pc' := 29) rfl (ls_11 hL) (by decide +kernel) rfl rfl ?_
  exact X_if_ne (tgt := 33) (show decode (mB 66) 29 = .ok (.ifCond .ne 4, 3) by decide +kernel) rfl (pc' := 32) rfl kt kf
set_option maxRecDepth 4000 in
theorem b_X6k_takeClosers_32 {xs : Nat → Int32} {L d : Nat} {S : Nat → Shp} {I : Nat → Nat → Int32} {J : Nat → Nat → Int64} {R : Nat → Nat → Nat} {c : Nat × Nat} {Q : Option (Option Value) → MH → Prop} {x1 : Int32}  (k : Q (some none) (S, I, J, R, c)) : X xs L (d + 1) 66 32 [.ref 11, .int x1] [] (S, I, J, R, c) Q := by
  exact X_return (show decode (mB 66) 32 = .ok (.return_, 1) by decide +kernel) (by decide +kernel) k
set_option maxRecDepth 4000 in
theorem b_X6k_takeClosers_33 {xs : Nat → Int32} {L d : Nat} {S : Nat → Shp} {I : Nat → Nat → Int32} {J : Nat → Nat → Int64} {R : Nat → Nat → Nat} {c : Nat × Nat} {Q : Option (Option Value) → MH → Prop} {x1 : Int32} (hL : Lay S R)  (k : X xs L d 100 0 [.ref 4] [] (S, (u2 (u2 I 11 4 ((I 11 4) - 1)) 11 5 ((I 11 5) - 1)), J, R, c) (Kc xs L (d + 1) 66 60 [.ref 11, .int x1] [] Q)) : X xs L (d + 1) 66 33 [.ref 11, .int x1] [] (S, I, J, R, c) Q := by
  refine X_aload_n (q := 0) (show decode (mB 66) 33 = .ok (.aload_n 0, 1) by decide +kernel) (pc' := 34) rfl rfl rfl ?_
  refine X_dup (show decode (mB 66) 34 = .ok (.dup, 1) by decide +kernel) (pc' := 35) rfl rfl ?_
  refine X_getI (ci := 4) (f := 4) (x := I 11 4) (show decode (mB 66) 35 = .ok (.getfield 46, 3) by decide +kernel) (pc' := 38) rfl (ls_11 hL) (by decide +kernel) rfl rfl ?_
  refine X_iconst (v := 1) (show decode (mB 66) 38 = .ok (.iconst 1, 1) by decide +kernel) (pc' := 39) rfl rfl ?_
  refine X_isub (show decode (mB 66) 39 = .ok (.isub, 1) by decide +kernel) (pc' := 40) rfl ?_
  refine X_putI (ci := 4) (f := 4) (show decode (mB 66) 40 = .ok (.putfield 46, 3) by decide +kernel) (pc' := 43) rfl (ls_11 hL) (by decide +kernel) (by decide +kernel) rfl ?_
  refine X_aload_n (q := 0) (show decode (mB 66) 43 = .ok (.aload_n 0, 1) by decide +kernel) (pc' := 44) rfl rfl rfl ?_
  refine X_dup (show decode (mB 66) 44 = .ok (.dup, 1) by decide +kernel) (pc' := 45) rfl rfl ?_
  refine X_getI (ci := 4) (f := 5) (x := I 11 5) (show decode (mB 66) 45 = .ok (.getfield 49, 3) by decide +kernel) (pc' := 48) rfl (ls_11 hL) (by decide +kernel) rfl (by simp [u2, u1]) ?_
  refine X_iconst (v := 1) (show decode (mB 66) 48 = .ok (.iconst 1, 1) by decide +kernel) (pc' := 49) rfl rfl ?_
  refine X_isub (show decode (mB 66) 49 = .ok (.isub, 1) by decide +kernel) (pc' := 50) rfl ?_
  refine X_putI (ci := 4) (f := 5) (show decode (mB 66) 50 = .ok (.putfield 49, 3) by decide +kernel) (pc' := 53) rfl (ls_11 hL) (by decide +kernel) (by decide +kernel) rfl ?_
  refine X_aload_n (q := 0) (show decode (mB 66) 53 = .ok (.aload_n 0, 1) by decide +kernel) (pc' := 54) rfl rfl rfl ?_
  refine X_getR (ci := 4) (f := 0) (q := 4) (show decode (mB 66) 54 = .ok (.getfield 13, 3) by decide +kernel) (pc' := 57) rfl (ls_11 hL) (by decide +kernel) rfl (lr_11_0 hL) ?_
  exact X_callV (y := 100) (n := 0) (st := [.ref 4]) (as := [.ref 4]) (rest := []) (ls0 := [.ref 4]) (ci := 8) (show decode (mB 66) 57 = .ok (.invokevirtual 39, 3) by decide +kernel) (pc' := 60) rfl (by decide +kernel) (by decide +kernel) rfl (ls_4 hL) (by decide +kernel) rfl rfl rfl rfl rfl k
set_option maxRecDepth 4000 in
theorem b_X6k_takeClosers_60 {xs : Nat → Int32} {L d : Nat} {S : Nat → Shp} {I : Nat → Nat → Int32} {J : Nat → Nat → Int64} {R : Nat → Nat → Nat} {c : Nat × Nat} {Q : Option (Option Value) → MH → Prop} {x1 : Int32}  (k : X xs L (d + 1) 66 2 [.ref 11, .int (x1 + 1)] [] (S, I, J, R, c) Q) : X xs L (d + 1) 66 60 [.ref 11, .int x1] [] (S, I, J, R, c) Q := by
  refine X_iinc (q := 1) (v := x1 + 1) (ls' := [.ref 11, .int (x1 + 1)]) (show decode (mB 66) 60 = .ok (.iinc 1 1, 3) by decide +kernel) (pc' := 63) rfl rfl rfl rfl ?_
  refine X_goto (tgt := 2) (show decode (mB 66) 63 = .ok (.goto (-61), 3) by decide +kernel) rfl ?_
  exact k
set_option maxRecDepth 4000 in
theorem b_X6k_takeClosers_66 {xs : Nat → Int32} {L d : Nat} {S : Nat → Shp} {I : Nat → Nat → Int32} {J : Nat → Nat → Int64} {R : Nat → Nat → Nat} {c : Nat × Nat} {Q : Option (Option Value) → MH → Prop} {x1 : Int32}  (k : Q (some none) (S, I, J, R, c)) : X xs L (d + 1) 66 66 [.ref 11, .int x1] [] (S, I, J, R, c) Q := by
  exact X_return (show decode (mB 66) 66 = .ok (.return_, 1) by decide +kernel) (by decide +kernel) k
set_option maxRecDepth 4000 in
theorem b_X6c_letWait_0 {xs : Nat → Int32} {L d : Nat} {S : Nat → Shp} {I : Nat → Nat → Int32} {J : Nat → Nat → Int64} {R : Nat → Nat → Nat} {c : Nat × Nat} {Q : Option (Option Value) → MH → Prop} {x1 : Int32} (hL : Lay S R)  (kt : 64 ≤ (I 8 4) → X xs L d 67 29 [.ref 8, .int x1] [] (S, I, J, R, c) Q) (kf : ¬ (64 ≤ (I 8 4)) → X xs L d 67 9 [.ref 8, .int x1] [] (S, I, J, R, c) Q) : X xs L d 67 0 [.ref 8, .int x1] [] (S, I, J, R, c) Q := by
  refine X_aload_n (q := 0) (show decode (mB 67) 0 = .ok (.aload_n 0, 1) by decide +kernel) (pc' := 1) rfl rfl rfl ?_
  refine X_getI (ci := 2) (f := 4) (x := I 8 4) (show decode (mB 67) 1 = .ok (.getfield 46, 3) by decide +kernel) (pc' := 4) rfl (ls_8 hL) (by decide +kernel) rfl rfl ?_
  refine X_bipush (v := 64) (show decode (mB 67) 4 = .ok (.bipush 64, 2) by decide +kernel) (pc' := 6) rfl (by decide +kernel) ?_
  exact X_icmp_ge (tgt := 29) (show decode (mB 67) 6 = .ok (.if_icmp .ge 23, 3) by decide +kernel) rfl (pc' := 9) rfl kt kf
set_option maxRecDepth 4000 in
theorem b_X6c_letWait_9 {xs : Nat → Int32} {L d : Nat} {S : Nat → Shp} {I : Nat → Nat → Int32} {J : Nat → Nat → Int64} {R : Nat → Nat → Nat} {c : Nat × Nat} {Q : Option (Option Value) → MH → Prop} {x1 : Int32} (hL : Lay S R) (hb18 : inb (I 8 4) 64 = true) (k : X xs L d 67 29 [.ref 8, .int x1] [] (S, (u2 (u2 I 9 ((I 8 4).toNatClampNeg) x1) 8 4 ((I 8 4) + 1)), J, R, c) Q) : X xs L d 67 9 [.ref 8, .int x1] [] (S, I, J, R, c) Q := by
  refine X_aload_n (q := 0) (show decode (mB 67) 9 = .ok (.aload_n 0, 1) by decide +kernel) (pc' := 10) rfl rfl rfl ?_
  refine X_getR (ci := 2) (f := 3) (q := 9) (show decode (mB 67) 10 = .ok (.getfield 9, 3) by decide +kernel) (pc' := 13) rfl (ls_8 hL) (by decide +kernel) rfl (lr_8_3 hL) ?_
  refine X_aload_n (q := 0) (show decode (mB 67) 13 = .ok (.aload_n 0, 1) by decide +kernel) (pc' := 14) rfl rfl rfl ?_
  refine X_getI (ci := 2) (f := 4) (x := I 8 4) (show decode (mB 67) 14 = .ok (.getfield 46, 3) by decide +kernel) (pc' := 17) rfl (ls_8 hL) (by decide +kernel) rfl rfl ?_
  refine X_iload_n (q := 1) (show decode (mB 67) 17 = .ok (.iload_n 1, 1) by decide +kernel) (pc' := 18) rfl rfl rfl ?_
  refine X_iastore (show decode (mB 67) 18 = .ok (.iastore, 1) by decide +kernel) (pc' := 19) rfl (ls_9 hL) hb18 ?_
  refine X_aload_n (q := 0) (show decode (mB 67) 19 = .ok (.aload_n 0, 1) by decide +kernel) (pc' := 20) rfl rfl rfl ?_
  refine X_dup (show decode (mB 67) 20 = .ok (.dup, 1) by decide +kernel) (pc' := 21) rfl rfl ?_
  refine X_getI (ci := 2) (f := 4) (x := I 8 4) (show decode (mB 67) 21 = .ok (.getfield 46, 3) by decide +kernel) (pc' := 24) rfl (ls_8 hL) (by decide +kernel) rfl (by simp [u2, u1]) ?_
  refine X_iconst (v := 1) (show decode (mB 67) 24 = .ok (.iconst 1, 1) by decide +kernel) (pc' := 25) rfl rfl ?_
  refine X_iadd (show decode (mB 67) 25 = .ok (.iadd, 1) by decide +kernel) (pc' := 26) rfl ?_
  refine X_putI (ci := 2) (f := 4) (show decode (mB 67) 26 = .ok (.putfield 46, 3) by decide +kernel) (pc' := 29) rfl (ls_8 hL) (by decide +kernel) (by decide +kernel) rfl ?_
  exact k
set_option maxRecDepth 4000 in
theorem b_X6c_letWait_29 {xs : Nat → Int32} {L d : Nat} {S : Nat → Shp} {I : Nat → Nat → Int32} {J : Nat → Nat → Int64} {R : Nat → Nat → Nat} {c : Nat × Nat} {Q : Option (Option Value) → MH → Prop} {x1 : Int32}  (k : Q (some none) (S, I, J, R, c)) : X xs L d 67 29 [.ref 8, .int x1] [] (S, I, J, R, c) Q := by
  exact X_return (show decode (mB 67) 29 = .ok (.return_, 1) by decide +kernel) (by decide +kernel) k
set_option maxRecDepth 4000 in
theorem b_X6k_letWait_0 {xs : Nat → Int32} {L d : Nat} {S : Nat → Shp} {I : Nat → Nat → Int32} {J : Nat → Nat → Int64} {R : Nat → Nat → Nat} {c : Nat × Nat} {Q : Option (Option Value) → MH → Prop} {x1 : Int32} (hL : Lay S R)  (kt : 64 ≤ (I 11 4) → X xs L d 67 29 [.ref 11, .int x1] [] (S, I, J, R, c) Q) (kf : ¬ (64 ≤ (I 11 4)) → X xs L d 67 9 [.ref 11, .int x1] [] (S, I, J, R, c) Q) : X xs L d 67 0 [.ref 11, .int x1] [] (S, I, J, R, c) Q := by
  refine X_aload_n (q := 0) (show decode (mB 67) 0 = .ok (.aload_n 0, 1) by decide +kernel) (pc' := 1) rfl rfl rfl ?_
  refine X_getI (ci := 4) (f := 4) (x := I 11 4) (show decode (mB 67) 1 = .ok (.getfield 46, 3) by decide +kernel) (pc' := 4) rfl (ls_11 hL) (by decide +kernel) rfl rfl ?_
  refine X_bipush (v := 64) (show decode (mB 67) 4 = .ok (.bipush 64, 2) by decide +kernel) (pc' := 6) rfl (by decide +kernel) ?_
  exact X_icmp_ge (tgt := 29) (show decode (mB 67) 6 = .ok (.if_icmp .ge 23, 3) by decide +kernel) rfl (pc' := 9) rfl kt kf
set_option maxRecDepth 4000 in
theorem b_X6k_letWait_9 {xs : Nat → Int32} {L d : Nat} {S : Nat → Shp} {I : Nat → Nat → Int32} {J : Nat → Nat → Int64} {R : Nat → Nat → Nat} {c : Nat × Nat} {Q : Option (Option Value) → MH → Prop} {x1 : Int32} (hL : Lay S R) (hb18 : inb (I 11 4) 64 = true) (k : X xs L d 67 29 [.ref 11, .int x1] [] (S, (u2 (u2 I 12 ((I 11 4).toNatClampNeg) x1) 11 4 ((I 11 4) + 1)), J, R, c) Q) : X xs L d 67 9 [.ref 11, .int x1] [] (S, I, J, R, c) Q := by
  refine X_aload_n (q := 0) (show decode (mB 67) 9 = .ok (.aload_n 0, 1) by decide +kernel) (pc' := 10) rfl rfl rfl ?_
  refine X_getR (ci := 4) (f := 3) (q := 12) (show decode (mB 67) 10 = .ok (.getfield 9, 3) by decide +kernel) (pc' := 13) rfl (ls_11 hL) (by decide +kernel) rfl (lr_11_3 hL) ?_
  refine X_aload_n (q := 0) (show decode (mB 67) 13 = .ok (.aload_n 0, 1) by decide +kernel) (pc' := 14) rfl rfl rfl ?_
  refine X_getI (ci := 4) (f := 4) (x := I 11 4) (show decode (mB 67) 14 = .ok (.getfield 46, 3) by decide +kernel) (pc' := 17) rfl (ls_11 hL) (by decide +kernel) rfl rfl ?_
  refine X_iload_n (q := 1) (show decode (mB 67) 17 = .ok (.iload_n 1, 1) by decide +kernel) (pc' := 18) rfl rfl rfl ?_
  refine X_iastore (show decode (mB 67) 18 = .ok (.iastore, 1) by decide +kernel) (pc' := 19) rfl (ls_12 hL) hb18 ?_
  refine X_aload_n (q := 0) (show decode (mB 67) 19 = .ok (.aload_n 0, 1) by decide +kernel) (pc' := 20) rfl rfl rfl ?_
  refine X_dup (show decode (mB 67) 20 = .ok (.dup, 1) by decide +kernel) (pc' := 21) rfl rfl ?_
  refine X_getI (ci := 4) (f := 4) (x := I 11 4) (show decode (mB 67) 21 = .ok (.getfield 46, 3) by decide +kernel) (pc' := 24) rfl (ls_11 hL) (by decide +kernel) rfl (by simp [u2, u1]) ?_
  refine X_iconst (v := 1) (show decode (mB 67) 24 = .ok (.iconst 1, 1) by decide +kernel) (pc' := 25) rfl rfl ?_
  refine X_iadd (show decode (mB 67) 25 = .ok (.iadd, 1) by decide +kernel) (pc' := 26) rfl ?_
  refine X_putI (ci := 4) (f := 4) (show decode (mB 67) 26 = .ok (.putfield 46, 3) by decide +kernel) (pc' := 29) rfl (ls_11 hL) (by decide +kernel) (by decide +kernel) rfl ?_
  exact k
set_option maxRecDepth 4000 in
theorem b_X6k_letWait_29 {xs : Nat → Int32} {L d : Nat} {S : Nat → Shp} {I : Nat → Nat → Int32} {J : Nat → Nat → Int64} {R : Nat → Nat → Nat} {c : Nat × Nat} {Q : Option (Option Value) → MH → Prop} {x1 : Int32}  (k : Q (some none) (S, I, J, R, c)) : X xs L d 67 29 [.ref 11, .int x1] [] (S, I, J, R, c) Q := by
  exact X_return (show decode (mB 67) 29 = .ok (.return_, 1) by decide +kernel) (by decide +kernel) k
set_option maxRecDepth 4000 in
theorem b_X6c_setFree_0 {xs : Nat → Int32} {L d : Nat} {S : Nat → Shp} {I : Nat → Nat → Int32} {J : Nat → Nat → Int64} {R : Nat → Nat → Nat} {c : Nat × Nat} {Q : Option (Option Value) → MH → Prop} {x1 : Int32} (hL : Lay S R)  (kt : (I 8 4) ≤ 0 → X xs L (d + 1) 68 79 [.ref 8, .int x1] [] (S, I, J, R, c) Q) (kf : ¬ ((I 8 4) ≤ 0) → X xs L (d + 1) 68 7 [.ref 8, .int x1] [] (S, I, J, R, c) Q) : X xs L (d + 1) 68 0 [.ref 8, .int x1] [] (S, I, J, R, c) Q := by
  refine X_aload_n (q := 0) (show decode (mB 68) 0 = .ok (.aload_n 0, 1) by decide +kernel) (pc' := 1) rfl rfl rfl ?_
  refine X_getI (ci := 2) (f := 4) (x := I 8 4) (show decode (mB 68) 1 = .ok (.getfield 46, 3) by decide +kernel) (pc' := 4) rfl (ls_8 hL) (by decide +kernel) rfl rfl ?_
  exact X_if_le (tgt := 79) (show decode (mB 68) 4 = .ok (.ifCond .le 75, 3) by decide +kernel) rfl (pc' := 7) rfl kt kf
set_option maxRecDepth 4000 in
theorem b_X6c_setFree_7 {xs : Nat → Int32} {L d : Nat} {S : Nat → Shp} {I : Nat → Nat → Int32} {J : Nat → Nat → Int64} {R : Nat → Nat → Nat} {c : Nat × Nat} {Q : Option (Option Value) → MH → Prop} {x1 : Int32} (hL : Lay S R) (hb17 : inb ((I 8 4) - 1) 64 = true) (k : X xs L d 69 0 [.int (I 9 ((I 8 4) - 1).toNatClampNeg)] [] (S, I, J, R, c) (Kc xs L (d + 1) 68 21 [.ref 8, .int x1] [] Q)) : X xs L (d + 1) 68 7 [.ref 8, .int x1] [] (S, I, J, R, c) Q := by
  refine X_aload_n (q := 0) (show decode (mB 68) 7 = .ok (.aload_n 0, 1) by decide +kernel) (pc' := 8) rfl rfl rfl ?_
  refine X_getR (ci := 2) (f := 3) (q := 9) (show decode (mB 68) 8 = .ok (.getfield 9, 3) by decide +kernel) (pc' := 11) rfl (ls_8 hL) (by decide +kernel) rfl (lr_8_3 hL) ?_
  refine X_aload_n (q := 0) (show decode (mB 68) 11 = .ok (.aload_n 0, 1) by decide +kernel) (pc' := 12) rfl rfl rfl ?_
  refine X_getI (ci := 2) (f := 4) (x := I 8 4) (show decode (mB 68) 12 = .ok (.getfield 46, 3) by decide +kernel) (pc' := 15) rfl (ls_8 hL) (by decide +kernel) rfl rfl ?_
  refine X_iconst (v := 1) (show decode (mB 68) 15 = .ok (.iconst 1, 1) by decide +kernel) (pc' := 16) rfl rfl ?_
  refine X_isub (show decode (mB 68) 16 = .ok (.isub, 1) by decide +kernel) (pc' := 17) rfl ?_
  refine X_iaload (w := I 9 ((I 8 4) - 1).toNatClampNeg) (show decode (mB 68) 17 = .ok (.iaload, 1) by decide +kernel) (pc' := 18) rfl (ls_9 hL) hb17 rfl ?_
  exact X_callS (y := 69) (n := 1) (st := [.int (I 9 ((I 8 4) - 1).toNatClampNeg)]) (as := [.int (I 9 ((I 8 4) - 1).toNatClampNeg)]) (rest := []) (ls0 := [.int (I 9 ((I 8 4) - 1).toNatClampNeg)]) (show decode (mB 68) 18 = .ok (.invokestatic 68, 3) by decide +kernel) (pc' := 21) rfl (by decide +kernel) (by decide +kernel) rfl rfl rfl rfl rfl rfl rfl rfl k
set_option maxRecDepth 4000 in
theorem b_X6c_setFree_21 {xs : Nat → Int32} {L d : Nat} {S : Nat → Shp} {I : Nat → Nat → Int32} {J : Nat → Nat → Int64} {R : Nat → Nat → Nat} {c : Nat × Nat} {Q : Option (Option Value) → MH → Prop} {x1 sx0 : Int32}  (kt : sx0 < x1 → X xs L (d + 1) 68 79 [.ref 8, .int x1] [] (S, I, J, R, c) Q) (kf : ¬ (sx0 < x1) → X xs L (d + 1) 68 25 [.ref 8, .int x1] [] (S, I, J, R, c) Q) : X xs L (d + 1) 68 21 [.ref 8, .int x1] [.int sx0] (S, I, J, R, c) Q := by
  refine X_iload_n (q := 1) (show decode (mB 68) 21 = .ok (.iload_n 1, 1) by decide +kernel) (pc' := 22) rfl rfl rfl ?_
  exact X_icmp_lt (tgt := 79) (show decode (mB 68) 22 = .ok (.if_icmp .lt 57, 3) by decide +kernel) rfl (pc' := 25) rfl kt kf
set_option maxRecDepth 4000 in
theorem b_X6c_setFree_25 {xs : Nat → Int32} {L d : Nat} {S : Nat → Shp} {I : Nat → Nat → Int32} {J : Nat → Nat → Int64} {R : Nat → Nat → Nat} {c : Nat × Nat} {Q : Option (Option Value) → MH → Prop} {x1 : Int32} {q_8_1 : Nat} (hL : Lay S R) (hq_8_1 : R 8 1 = q_8_1) (hb47 : inb ((I 8 4) - 1) 64 = true) (h_q_8_1 : LyCd S R q_8_1) (k : X xs L d 57 0 [.ref q_8_1, .int (-(I 9 ((I 8 4) - 1).toNatClampNeg))] [] (S, (u2 I 8 4 ((I 8 4) - 1)), J, R, c) (Kc xs L (d + 1) 68 52 [.ref 8, .int x1] [] Q)) : X xs L (d + 1) 68 25 [.ref 8, .int x1] [] (S, I, J, R, c) Q := by
  refine X_aload_n (q := 0) (show decode (mB 68) 25 = .ok (.aload_n 0, 1) by decide +kernel) (pc' := 26) rfl rfl rfl ?_
  refine X_dup (show decode (mB 68) 26 = .ok (.dup, 1) by decide +kernel) (pc' := 27) rfl rfl ?_
  refine X_getI (ci := 2) (f := 4) (x := I 8 4) (show decode (mB 68) 27 = .ok (.getfield 46, 3) by decide +kernel) (pc' := 30) rfl (ls_8 hL) (by decide +kernel) rfl rfl ?_
  refine X_iconst (v := 1) (show decode (mB 68) 30 = .ok (.iconst 1, 1) by decide +kernel) (pc' := 31) rfl rfl ?_
  refine X_isub (show decode (mB 68) 31 = .ok (.isub, 1) by decide +kernel) (pc' := 32) rfl ?_
  refine X_putI (ci := 2) (f := 4) (show decode (mB 68) 32 = .ok (.putfield 46, 3) by decide +kernel) (pc' := 35) rfl (ls_8 hL) (by decide +kernel) (by decide +kernel) rfl ?_
  refine X_aload_n (q := 0) (show decode (mB 68) 35 = .ok (.aload_n 0, 1) by decide +kernel) (pc' := 36) rfl rfl rfl ?_
  refine X_getR (ci := 2) (f := 1) (q := q_8_1) (show decode (mB 68) 36 = .ok (.getfield 26, 3) by decide +kernel) (pc' := 39) rfl (ls_8 hL) (by decide +kernel) rfl hq_8_1 ?_
  refine X_aload_n (q := 0) (show decode (mB 68) 39 = .ok (.aload_n 0, 1) by decide +kernel) (pc' := 40) rfl rfl rfl ?_
  refine X_getR (ci := 2) (f := 3) (q := 9) (show decode (mB 68) 40 = .ok (.getfield 9, 3) by decide +kernel) (pc' := 43) rfl (ls_8 hL) (by decide +kernel) rfl (lr_8_3 hL) ?_
  refine X_aload_n (q := 0) (show decode (mB 68) 43 = .ok (.aload_n 0, 1) by decide +kernel) (pc' := 44) rfl rfl rfl ?_
  refine X_getI (ci := 2) (f := 4) (x := (I 8 4) - 1) (show decode (mB 68) 44 = .ok (.getfield 46, 3) by decide +kernel) (pc' := 47) rfl (ls_8 hL) (by decide +kernel) rfl (by simp [u2, u1]) ?_
  refine X_iaload (w := I 9 ((I 8 4) - 1).toNatClampNeg) (show decode (mB 68) 47 = .ok (.iaload, 1) by decide +kernel) (pc' := 48) rfl (ls_9 hL) hb47 (by simp [u2, u1]) ?_
  refine X_ineg (show decode (mB 68) 48 = .ok (.ineg, 1) by decide +kernel) (pc' := 49) rfl ?_
  exact X_callV (y := 57) (n := 1) (st := [.int (-(I 9 ((I 8 4) - 1).toNatClampNeg)), .ref q_8_1]) (as := [.ref q_8_1, .int (-(I 9 ((I 8 4) - 1).toNatClampNeg))]) (rest := []) (ls0 := [.ref q_8_1, .int (-(I 9 ((I 8 4) - 1).toNatClampNeg))]) (ci := 5) (show decode (mB 68) 49 = .ok (.invokevirtual 75, 3) by decide +kernel) (pc' := 52) rfl (by decide +kernel) (by decide +kernel) rfl h_q_8_1.s0 (by decide +kernel) rfl rfl rfl rfl rfl k
set_option maxRecDepth 4000 in
theorem b_X6c_setFree_52 {xs : Nat → Int32} {L d : Nat} {S : Nat → Shp} {I : Nat → Nat → Int32} {J : Nat → Nat → Int64} {R : Nat → Nat → Nat} {c : Nat × Nat} {Q : Option (Option Value) → MH → Prop} {x1 : Int32} (hL : Lay S R) (hb60 : inb (I 8 4) 64 = true) (kt : ¬ (I 9 (I 8 4).toNatClampNeg) = 33 → X xs L (d + 1) 68 0 [.ref 8, .int x1] [] (S, I, J, R, c) Q) (kf : ¬ (¬ (I 9 (I 8 4).toNatClampNeg) = 33) → X xs L (d + 1) 68 66 [.ref 8, .int x1] [] (S, I, J, R, c) Q) : X xs L (d + 1) 68 52 [.ref 8, .int x1] [] (S, I, J, R, c) Q := by
  refine X_aload_n (q := 0) (show decode (mB 68) 52 = .ok (.aload_n 0, 1) by decide +kernel) (pc' := 53) rfl rfl rfl ?_
  refine X_getR (ci := 2) (f := 3) (q := 9) (show decode (mB 68) 53 = .ok (.getfield 9, 3) by decide +kernel) (pc' := 56) rfl (ls_8 hL) (by decide +kernel) rfl (lr_8_3 hL) ?_
  refine X_aload_n (q := 0) (show decode (mB 68) 56 = .ok (.aload_n 0, 1) by decide +kernel) (pc' := 57) rfl rfl rfl ?_
  refine X_getI (ci := 2) (f := 4) (x := I 8 4) (show decode (mB 68) 57 = .ok (.getfield 46, 3) by decide +kernel) (pc' := 60) rfl (ls_8 hL) (by decide +kernel) rfl rfl ?_
  refine X_iaload (w := I 9 (I 8 4).toNatClampNeg) (show decode (mB 68) 60 = .ok (.iaload, 1) by decide +kernel) (pc' := 61) rfl (ls_9 hL) hb60 rfl ?_
  refine X_bipush (v := 33) (show decode (mB 68) 61 = .ok (.bipush 33, 2) by decide +kernel) (pc' := 63) rfl (by decide +kernel) ?_
  exact X_icmp_ne (tgt := 0) (show decode (mB 68) 63 = .ok (.if_icmp .ne (-63), 3) by decide +kernel) rfl (pc' := 66) rfl kt kf
set_option maxRecDepth 4000 in
theorem b_X6c_setFree_66 {xs : Nat → Int32} {L d : Nat} {S : Nat → Shp} {I : Nat → Nat → Int32} {J : Nat → Nat → Int64} {R : Nat → Nat → Nat} {c : Nat × Nat} {Q : Option (Option Value) → MH → Prop} {x1 : Int32} (hL : Lay S R)  (k : X xs L (d + 1) 68 0 [.ref 8, .int x1] [] (S, (u2 I 8 5 ((I 8 5) - 1)), J, R, c) Q) : X xs L (d + 1) 68 66 [.ref 8, .int x1] [] (S, I, J, R, c) Q := by
  refine X_aload_n (q := 0) (show decode (mB 68) 66 = .ok (.aload_n 0, 1) by decide +kernel) (pc' := 67) rfl rfl rfl ?_
  refine X_dup (show decode (mB 68) 67 = .ok (.dup, 1) by decide +kernel) (pc' := 68) rfl rfl ?_
  refine X_getI (ci := 2) (f := 5) (x := I 8 5) (show decode (mB 68) 68 = .ok (.getfield 49, 3) by decide +kernel) (pc' := 71) rfl (ls_8 hL) (by decide +kernel) rfl rfl ?_
  refine X_iconst (v := 1) (show decode (mB 68) 71 = .ok (.iconst 1, 1) by decide +kernel) (pc' := 72) rfl rfl ?_
  refine X_isub (show decode (mB 68) 72 = .ok (.isub, 1) by decide +kernel) (pc' := 73) rfl ?_
  refine X_putI (ci := 2) (f := 5) (show decode (mB 68) 73 = .ok (.putfield 49, 3) by decide +kernel) (pc' := 76) rfl (ls_8 hL) (by decide +kernel) (by decide +kernel) rfl ?_
  refine X_goto (tgt := 0) (show decode (mB 68) 76 = .ok (.goto (-76), 3) by decide +kernel) rfl ?_
  exact k
set_option maxRecDepth 4000 in
theorem b_X6c_setFree_79 {xs : Nat → Int32} {L d : Nat} {S : Nat → Shp} {I : Nat → Nat → Int32} {J : Nat → Nat → Int64} {R : Nat → Nat → Nat} {c : Nat × Nat} {Q : Option (Option Value) → MH → Prop} {x1 : Int32}  (k : Q (some none) (S, I, J, R, c)) : X xs L (d + 1) 68 79 [.ref 8, .int x1] [] (S, I, J, R, c) Q := by
  exact X_return (show decode (mB 68) 79 = .ok (.return_, 1) by decide +kernel) (by decide +kernel) k
set_option maxRecDepth 4000 in
theorem b_X6k_setFree_0 {xs : Nat → Int32} {L d : Nat} {S : Nat → Shp} {I : Nat → Nat → Int32} {J : Nat → Nat → Int64} {R : Nat → Nat → Nat} {c : Nat × Nat} {Q : Option (Option Value) → MH → Prop} {x1 : Int32} (hL : Lay S R)  (kt : (I 11 4) ≤ 0 → X xs L (d + 1) 68 79 [.ref 11, .int x1] [] (S, I, J, R, c) Q) (kf : ¬ ((I 11 4) ≤ 0) → X xs L (d + 1) 68 7 [.ref 11, .int x1] [] (S, I, J, R, c) Q) : X xs L (d + 1) 68 0 [.ref 11, .int x1] [] (S, I, J, R, c) Q := by
  refine X_aload_n (q := 0) (show decode (mB 68) 0 = .ok (.aload_n 0, 1) by decide +kernel) (pc' := 1) rfl rfl rfl ?_
  refine X_getI (ci := 4) (f := 4) (x := I 11 4) (show decode (mB 68) 1 = .ok (.getfield 46, 3) by decide +kernel) (pc' := 4) rfl (ls_11 hL) (by decide +kernel) rfl rfl ?_
  exact X_if_le (tgt := 79) (show decode (mB 68) 4 = .ok (.ifCond .le 75, 3) by decide +kernel) rfl (pc' := 7) rfl kt kf
set_option maxRecDepth 4000 in
theorem b_X6k_setFree_7 {xs : Nat → Int32} {L d : Nat} {S : Nat → Shp} {I : Nat → Nat → Int32} {J : Nat → Nat → Int64} {R : Nat → Nat → Nat} {c : Nat × Nat} {Q : Option (Option Value) → MH → Prop} {x1 : Int32} (hL : Lay S R) (hb17 : inb ((I 11 4) - 1) 64 = true) (k : X xs L d 69 0 [.int (I 12 ((I 11 4) - 1).toNatClampNeg)] [] (S, I, J, R, c) (Kc xs L (d + 1) 68 21 [.ref 11, .int x1] [] Q)) : X xs L (d + 1) 68 7 [.ref 11, .int x1] [] (S, I, J, R, c) Q := by
  refine X_aload_n (q := 0) (show decode (mB 68) 7 = .ok (.aload_n 0, 1) by decide +kernel) (pc' := 8) rfl rfl rfl ?_
  refine X_getR (ci := 4) (f := 3) (q := 12) (show decode (mB 68) 8 = .ok (.getfield 9, 3) by decide +kernel) (pc' := 11) rfl (ls_11 hL) (by decide +kernel) rfl (lr_11_3 hL) ?_
  refine X_aload_n (q := 0) (show decode (mB 68) 11 = .ok (.aload_n 0, 1) by decide +kernel) (pc' := 12) rfl rfl rfl ?_
  refine X_getI (ci := 4) (f := 4) (x := I 11 4) (show decode (mB 68) 12 = .ok (.getfield 46, 3) by decide +kernel) (pc' := 15) rfl (ls_11 hL) (by decide +kernel) rfl rfl ?_
  refine X_iconst (v := 1) (show decode (mB 68) 15 = .ok (.iconst 1, 1) by decide +kernel) (pc' := 16) rfl rfl ?_
  refine X_isub (show decode (mB 68) 16 = .ok (.isub, 1) by decide +kernel) (pc' := 17) rfl ?_
  refine X_iaload (w := I 12 ((I 11 4) - 1).toNatClampNeg) (show decode (mB 68) 17 = .ok (.iaload, 1) by decide +kernel) (pc' := 18) rfl (ls_12 hL) hb17 rfl ?_
  exact X_callS (y := 69) (n := 1) (st := [.int (I 12 ((I 11 4) - 1).toNatClampNeg)]) (as := [.int (I 12 ((I 11 4) - 1).toNatClampNeg)]) (rest := []) (ls0 := [.int (I 12 ((I 11 4) - 1).toNatClampNeg)]) (show decode (mB 68) 18 = .ok (.invokestatic 68, 3) by decide +kernel) (pc' := 21) rfl (by decide +kernel) (by decide +kernel) rfl rfl rfl rfl rfl rfl rfl rfl k
set_option maxRecDepth 4000 in
theorem b_X6k_setFree_21 {xs : Nat → Int32} {L d : Nat} {S : Nat → Shp} {I : Nat → Nat → Int32} {J : Nat → Nat → Int64} {R : Nat → Nat → Nat} {c : Nat × Nat} {Q : Option (Option Value) → MH → Prop} {x1 sx0 : Int32}  (kt : sx0 < x1 → X xs L (d + 1) 68 79 [.ref 11, .int x1] [] (S, I, J, R, c) Q) (kf : ¬ (sx0 < x1) → X xs L (d + 1) 68 25 [.ref 11, .int x1] [] (S, I, J, R, c) Q) : X xs L (d + 1) 68 21 [.ref 11, .int x1] [.int sx0] (S, I, J, R, c) Q := by
  refine X_iload_n (q := 1) (show decode (mB 68) 21 = .ok (.iload_n 1, 1) by decide +kernel) (pc' := 22) rfl rfl rfl ?_
  exact X_icmp_lt (tgt := 79) (show decode (mB 68) 22 = .ok (.if_icmp .lt 57, 3) by decide +kernel) rfl (pc' := 25) rfl kt kf
set_option maxRecDepth 4000 in
theorem b_X6k_setFree_25 {xs : Nat → Int32} {L d : Nat} {S : Nat → Shp} {I : Nat → Nat → Int32} {J : Nat → Nat → Int64} {R : Nat → Nat → Nat} {c : Nat × Nat} {Q : Option (Option Value) → MH → Prop} {x1 : Int32} {q_11_1 : Nat} (hL : Lay S R) (hq_11_1 : R 11 1 = q_11_1) (hb47 : inb ((I 11 4) - 1) 64 = true) (h_q_11_1 : LyCd S R q_11_1) (k : X xs L d 57 0 [.ref q_11_1, .int (-(I 12 ((I 11 4) - 1).toNatClampNeg))] [] (S, (u2 I 11 4 ((I 11 4) - 1)), J, R, c) (Kc xs L (d + 1) 68 52 [.ref 11, .int x1] [] Q)) : X xs L (d + 1) 68 25 [.ref 11, .int x1] [] (S, I, J, R, c) Q := by
  refine X_aload_n (q := 0) (show decode (mB 68) 25 = .ok (.aload_n 0, 1) by decide +kernel) (pc' := 26) rfl rfl rfl ?_
  refine X_dup (show decode (mB 68) 26 = .ok (.dup, 1) by decide +kernel) (pc' := 27) rfl rfl ?_
  refine X_getI (ci := 4) (f := 4) (x := I 11 4) (show decode (mB 68) 27 = .ok (.getfield 46, 3) by decide +kernel) (pc' := 30) rfl (ls_11 hL) (by decide +kernel) rfl rfl ?_
  refine X_iconst (v := 1) (show decode (mB 68) 30 = .ok (.iconst 1, 1) by decide +kernel) (pc' := 31) rfl rfl ?_
  refine X_isub (show decode (mB 68) 31 = .ok (.isub, 1) by decide +kernel) (pc' := 32) rfl ?_
  refine X_putI (ci := 4) (f := 4) (show decode (mB 68) 32 = .ok (.putfield 46, 3) by decide +kernel) (pc' := 35) rfl (ls_11 hL) (by decide +kernel) (by decide +kernel) rfl ?_
  refine X_aload_n (q := 0) (show decode (mB 68) 35 = .ok (.aload_n 0, 1) by decide +kernel) (pc' := 36) rfl rfl rfl ?_
  refine X_getR (ci := 4) (f := 1) (q := q_11_1) (show decode (mB 68) 36 = .ok (.getfield 26, 3) by decide +kernel) (pc' := 39) rfl (ls_11 hL) (by decide +kernel) rfl hq_11_1 ?_
  refine X_aload_n (q := 0) (show decode (mB 68) 39 = .ok (.aload_n 0, 1) by decide +kernel) (pc' := 40) rfl rfl rfl ?_
  refine X_getR (ci := 4) (f := 3) (q := 12) (show decode (mB 68) 40 = .ok (.getfield 9, 3) by decide +kernel) (pc' := 43) rfl (ls_11 hL) (by decide +kernel) rfl (lr_11_3 hL) ?_
  refine X_aload_n (q := 0) (show decode (mB 68) 43 = .ok (.aload_n 0, 1) by decide +kernel) (pc' := 44) rfl rfl rfl ?_
  refine X_getI (ci := 4) (f := 4) (x := (I 11 4) - 1) (show decode (mB 68) 44 = .ok (.getfield 46, 3) by decide +kernel) (pc' := 47) rfl (ls_11 hL) (by decide +kernel) rfl (by simp [u2, u1]) ?_
  refine X_iaload (w := I 12 ((I 11 4) - 1).toNatClampNeg) (show decode (mB 68) 47 = .ok (.iaload, 1) by decide +kernel) (pc' := 48) rfl (ls_12 hL) hb47 (by simp [u2, u1]) ?_
  refine X_ineg (show decode (mB 68) 48 = .ok (.ineg, 1) by decide +kernel) (pc' := 49) rfl ?_
  exact X_callV (y := 57) (n := 1) (st := [.int (-(I 12 ((I 11 4) - 1).toNatClampNeg)), .ref q_11_1]) (as := [.ref q_11_1, .int (-(I 12 ((I 11 4) - 1).toNatClampNeg))]) (rest := []) (ls0 := [.ref q_11_1, .int (-(I 12 ((I 11 4) - 1).toNatClampNeg))]) (ci := 5) (show decode (mB 68) 49 = .ok (.invokevirtual 75, 3) by decide +kernel) (pc' := 52) rfl (by decide +kernel) (by decide +kernel) rfl h_q_11_1.s0 (by decide +kernel) rfl rfl rfl rfl rfl k
set_option maxRecDepth 4000 in
theorem b_X6k_setFree_52 {xs : Nat → Int32} {L d : Nat} {S : Nat → Shp} {I : Nat → Nat → Int32} {J : Nat → Nat → Int64} {R : Nat → Nat → Nat} {c : Nat × Nat} {Q : Option (Option Value) → MH → Prop} {x1 : Int32} (hL : Lay S R) (hb60 : inb (I 11 4) 64 = true) (kt : ¬ (I 12 (I 11 4).toNatClampNeg) = 33 → X xs L (d + 1) 68 0 [.ref 11, .int x1] [] (S, I, J, R, c) Q) (kf : ¬ (¬ (I 12 (I 11 4).toNatClampNeg) = 33) → X xs L (d + 1) 68 66 [.ref 11, .int x1] [] (S, I, J, R, c) Q) : X xs L (d + 1) 68 52 [.ref 11, .int x1] [] (S, I, J, R, c) Q := by
  refine X_aload_n (q := 0) (show decode (mB 68) 52 = .ok (.aload_n 0, 1) by decide +kernel) (pc' := 53) rfl rfl rfl ?_
  refine X_getR (ci := 4) (f := 3) (q := 12) (show decode (mB 68) 53 = .ok (.getfield 9, 3) by decide +kernel) (pc' := 56) rfl (ls_11 hL) (by decide +kernel) rfl (lr_11_3 hL) ?_
  refine X_aload_n (q := 0) (show decode (mB 68) 56 = .ok (.aload_n 0, 1) by decide +kernel) (pc' := 57) rfl rfl rfl ?_
  refine X_getI (ci := 4) (f := 4) (x := I 11 4) (show decode (mB 68) 57 = .ok (.getfield 46, 3) by decide +kernel) (pc' := 60) rfl (ls_11 hL) (by decide +kernel) rfl rfl ?_
  refine X_iaload (w := I 12 (I 11 4).toNatClampNeg) (show decode (mB 68) 60 = .ok (.iaload, 1) by decide +kernel) (pc' := 61) rfl (ls_12 hL) hb60 rfl ?_
  refine X_bipush (v := 33) (show decode (mB 68) 61 = .ok (.bipush 33, 2) by decide +kernel) (pc' := 63) rfl (by decide +kernel) ?_
  exact X_icmp_ne (tgt := 0) (show decode (mB 68) 63 = .ok (.if_icmp .ne (-63), 3) by decide +kernel) rfl (pc' := 66) rfl kt kf
set_option maxRecDepth 4000 in
theorem b_X6k_setFree_66 {xs : Nat → Int32} {L d : Nat} {S : Nat → Shp} {I : Nat → Nat → Int32} {J : Nat → Nat → Int64} {R : Nat → Nat → Nat} {c : Nat × Nat} {Q : Option (Option Value) → MH → Prop} {x1 : Int32} (hL : Lay S R)  (k : X xs L (d + 1) 68 0 [.ref 11, .int x1] [] (S, (u2 I 11 5 ((I 11 5) - 1)), J, R, c) Q) : X xs L (d + 1) 68 66 [.ref 11, .int x1] [] (S, I, J, R, c) Q := by
  refine X_aload_n (q := 0) (show decode (mB 68) 66 = .ok (.aload_n 0, 1) by decide +kernel) (pc' := 67) rfl rfl rfl ?_
  refine X_dup (show decode (mB 68) 67 = .ok (.dup, 1) by decide +kernel) (pc' := 68) rfl rfl ?_
  refine X_getI (ci := 4) (f := 5) (x := I 11 5) (show decode (mB 68) 68 = .ok (.getfield 49, 3) by decide +kernel) (pc' := 71) rfl (ls_11 hL) (by decide +kernel) rfl rfl ?_
  refine X_iconst (v := 1) (show decode (mB 68) 71 = .ok (.iconst 1, 1) by decide +kernel) (pc' := 72) rfl rfl ?_
  refine X_isub (show decode (mB 68) 72 = .ok (.isub, 1) by decide +kernel) (pc' := 73) rfl ?_
  refine X_putI (ci := 4) (f := 5) (show decode (mB 68) 73 = .ok (.putfield 49, 3) by decide +kernel) (pc' := 76) rfl (ls_11 hL) (by decide +kernel) (by decide +kernel) rfl ?_
  refine X_goto (tgt := 0) (show decode (mB 68) 76 = .ok (.goto (-76), 3) by decide +kernel) rfl ?_
  exact k
set_option maxRecDepth 4000 in
theorem b_X6k_setFree_79 {xs : Nat → Int32} {L d : Nat} {S : Nat → Shp} {I : Nat → Nat → Int32} {J : Nat → Nat → Int64} {R : Nat → Nat → Nat} {c : Nat × Nat} {Q : Option (Option Value) → MH → Prop} {x1 : Int32}  (k : Q (some none) (S, I, J, R, c)) : X xs L (d + 1) 68 79 [.ref 11, .int x1] [] (S, I, J, R, c) Q := by
  exact X_return (show decode (mB 68) 79 = .ok (.return_, 1) by decide +kernel) (by decide +kernel) k
set_option maxRecDepth 4000 in
theorem b_X6_strengthOf_0 {xs : Nat → Int32} {L d : Nat} {S : Nat → Shp} {I : Nat → Nat → Int32} {J : Nat → Nat → Int64} {R : Nat → Nat → Nat} {c : Nat × Nat} {Q : Option (Option Value) → MH → Prop} {x0 : Int32} {tgt : Nat}  (hsw : xnB 1 (.lookupswitch 51 #[(33, 49), (38, 47), (94, 45), (124, 43)]) (.int x0 :: []) = some (tgt, [])) (k : X xs L d 69 tgt [.int x0] [] (S, I, J, R, c) Q) : X xs L d 69 0 [.int x0] [] (S, I, J, R, c) Q := by
  refine X_iload_n (q := 0) (show decode (mB 69) 0 = .ok (.iload_n 0, 1) by decide +kernel) (pc' := 1) rfl rfl rfl ?_
  exact X_sw (show decode (mB 69) 1 = .ok (.lookupswitch 51 #[(33, 49), (38, 47), (94, 45), (124, 43)], 43) by decide +kernel) rfl rfl hsw k
set_option maxRecDepth 4000 in
theorem b_X6_strengthOf_44 {xs : Nat → Int32} {L d : Nat} {S : Nat → Shp} {I : Nat → Nat → Int32} {J : Nat → Nat → Int64} {R : Nat → Nat → Nat} {c : Nat × Nat} {Q : Option (Option Value) → MH → Prop} {x0 : Int32}  (k : Q (some (some (.int 1))) (S, I, J, R, c)) : X xs L d 69 44 [.int x0] [] (S, I, J, R, c) Q := by
  refine X_iconst (v := 1) (show decode (mB 69) 44 = .ok (.iconst 1, 1) by decide +kernel) (pc' := 45) rfl rfl ?_
  exact X_ireturn (ty := .int) (show decode (mB 69) 45 = .ok (.ireturn, 1) by decide +kernel) (by decide +kernel) rfl k
set_option maxRecDepth 4000 in
theorem b_X6_strengthOf_46 {xs : Nat → Int32} {L d : Nat} {S : Nat → Shp} {I : Nat → Nat → Int32} {J : Nat → Nat → Int64} {R : Nat → Nat → Nat} {c : Nat × Nat} {Q : Option (Option Value) → MH → Prop} {x0 : Int32}  (k : Q (some (some (.int 2))) (S, I, J, R, c)) : X xs L d 69 46 [.int x0] [] (S, I, J, R, c) Q := by
  refine X_iconst (v := 2) (show decode (mB 69) 46 = .ok (.iconst 2, 1) by decide +kernel) (pc' := 47) rfl rfl ?_
  exact X_ireturn (ty := .int) (show decode (mB 69) 47 = .ok (.ireturn, 1) by decide +kernel) (by decide +kernel) rfl k
set_option maxRecDepth 4000 in
theorem b_X6_strengthOf_48 {xs : Nat → Int32} {L d : Nat} {S : Nat → Shp} {I : Nat → Nat → Int32} {J : Nat → Nat → Int64} {R : Nat → Nat → Nat} {c : Nat × Nat} {Q : Option (Option Value) → MH → Prop} {x0 : Int32}  (k : Q (some (some (.int 3))) (S, I, J, R, c)) : X xs L d 69 48 [.int x0] [] (S, I, J, R, c) Q := by
  refine X_iconst (v := 3) (show decode (mB 69) 48 = .ok (.iconst 3, 1) by decide +kernel) (pc' := 49) rfl rfl ?_
  exact X_ireturn (ty := .int) (show decode (mB 69) 49 = .ok (.ireturn, 1) by decide +kernel) (by decide +kernel) rfl k
set_option maxRecDepth 4000 in
theorem b_X6_strengthOf_50 {xs : Nat → Int32} {L d : Nat} {S : Nat → Shp} {I : Nat → Nat → Int32} {J : Nat → Nat → Int64} {R : Nat → Nat → Nat} {c : Nat × Nat} {Q : Option (Option Value) → MH → Prop} {x0 : Int32}  (k : Q (some (some (.int 4))) (S, I, J, R, c)) : X xs L d 69 50 [.int x0] [] (S, I, J, R, c) Q := by
  refine X_iconst (v := 4) (show decode (mB 69) 50 = .ok (.iconst 4, 1) by decide +kernel) (pc' := 51) rfl rfl ?_
  exact X_ireturn (ty := .int) (show decode (mB 69) 51 = .ok (.ireturn, 1) by decide +kernel) (by decide +kernel) rfl k
set_option maxRecDepth 4000 in
theorem b_X6_strengthOf_52 {xs : Nat → Int32} {L d : Nat} {S : Nat → Shp} {I : Nat → Nat → Int32} {J : Nat → Nat → Int64} {R : Nat → Nat → Nat} {c : Nat × Nat} {Q : Option (Option Value) → MH → Prop} {x0 : Int32}  (k : Q (some (some (.int 0))) (S, I, J, R, c)) : X xs L d 69 52 [.int x0] [] (S, I, J, R, c) Q := by
  refine X_iconst (v := 0) (show decode (mB 69) 52 = .ok (.iconst 0, 1) by decide +kernel) (pc' := 53) rfl rfl ?_
  exact X_ireturn (ty := .int) (show decode (mB 69) 53 = .ok (.ireturn, 1) by decide +kernel) (by decide +kernel) rfl k
set_option maxRecDepth 4000 in
theorem b_X6c_takeAtom_0 {xs : Nat → Int32} {L d : Nat} {S : Nat → Shp} {I : Nat → Nat → Int32} {J : Nat → Nat → Int64} {R : Nat → Nat → Nat} {c : Nat × Nat} {Q : Option (Option Value) → MH → Prop}  (hL : Lay S R)  (kt : (I 8 2) < 300 → X xs L (d + 1) 70 12 [.ref 8] [] (S, I, J, R, c) Q) (kf : ¬ ((I 8 2) < 300) → X xs L (d + 1) 70 10 [.ref 8] [] (S, I, J, R, c) Q) : X xs L (d + 1) 70 0 [.ref 8] [] (S, I, J, R, c) Q := by
  refine X_aload_n (q := 0) (show decode (mB 70) 0 = .ok (.aload_n 0, 1) by decide +kernel) (pc' := 1) rfl rfl rfl ?_
  refine X_getI (ci := 2) (f := 2) (x := I 8 2) (show decode (mB 70) 1 = .ok (.getfield 22, 3) by decide +kernel) (pc' := 4) rfl (ls_8 hL) (by decide +kernel) rfl rfl ?_
  refine X_sipush (v := 300) (show decode (mB 70) 4 = .ok (.sipush 300, 3) by decide +kernel) (pc' := 7) rfl (by decide +kernel) ?_
  exact X_icmp_lt (tgt := 12) (show decode (mB 70) 7 = .ok (.if_icmp .lt 5, 3) by decide +kernel) rfl (pc' := 10) rfl kt kf
set_option maxRecDepth 4000 in
theorem b_X6c_takeAtom_10 {xs : Nat → Int32} {L d : Nat} {S : Nat → Shp} {I : Nat → Nat → Int32} {J : Nat → Nat → Int64} {R : Nat → Nat → Nat} {c : Nat × Nat} {Q : Option (Option Value) → MH → Prop}   (k : Q (some (some (.int 0))) (S, I, J, R, c)) : X xs L (d + 1) 70 10 [.ref 8] [] (S, I, J, R, c) Q := by
  refine X_iconst (v := 0) (show decode (mB 70) 10 = .ok (.iconst 0, 1) by decide +kernel) (pc' := 11) rfl rfl ?_
  exact X_ireturn (ty := .boolean) (show decode (mB 70) 11 = .ok (.ireturn, 1) by decide +kernel) (by decide +kernel) rfl k
set_option maxRecDepth 4000 in
theorem b_X6c_takeAtom_12 {xs : Nat → Int32} {L d : Nat} {S : Nat → Shp} {I : Nat → Nat → Int32} {J : Nat → Nat → Int64} {R : Nat → Nat → Nat} {c : Nat × Nat} {Q : Option (Option Value) → MH → Prop}  (hL : Lay S R)  (k : X xs L d 93 0 [.ref 4] [] (S, (u2 I 8 2 ((I 8 2) + 1)), J, R, c) (Kc xs L (d + 1) 70 29 [.ref 8] [] Q)) : X xs L (d + 1) 70 12 [.ref 8] [] (S, I, J, R, c) Q := by
  refine X_aload_n (q := 0) (show decode (mB 70) 12 = .ok (.aload_n 0, 1) by decide +kernel) (pc' := 13) rfl rfl rfl ?_
  refine X_dup (show decode (mB 70) 13 = .ok (.dup, 1) by decide +kernel) (pc' := 14) rfl rfl ?_
  refine X_getI (ci := 2) (f := 2) (x := I 8 2) (show decode (mB 70) 14 = .ok (.getfield 22, 3) by decide +kernel) (pc' := 17) rfl (ls_8 hL) (by decide +kernel) rfl rfl ?_
  refine X_iconst (v := 1) (show decode (mB 70) 17 = .ok (.iconst 1, 1) by decide +kernel) (pc' := 18) rfl rfl ?_
  refine X_iadd (show decode (mB 70) 18 = .ok (.iadd, 1) by decide +kernel) (pc' := 19) rfl ?_
  refine X_putI (ci := 2) (f := 2) (show decode (mB 70) 19 = .ok (.putfield 22, 3) by decide +kernel) (pc' := 22) rfl (ls_8 hL) (by decide +kernel) (by decide +kernel) rfl ?_
  refine X_aload_n (q := 0) (show decode (mB 70) 22 = .ok (.aload_n 0, 1) by decide +kernel) (pc' := 23) rfl rfl rfl ?_
  refine X_getR (ci := 2) (f := 0) (q := 4) (show decode (mB 70) 23 = .ok (.getfield 13, 3) by decide +kernel) (pc' := 26) rfl (ls_8 hL) (by decide +kernel) rfl (lr_8_0 hL) ?_
  exact X_callV (y := 93) (n := 0) (st := [.ref 4]) (as := [.ref 4]) (rest := []) (ls0 := [.ref 4]) (ci := 8) (show decode (mB 70) 26 = .ok (.invokevirtual 35, 3) by decide +kernel) (pc' := 29) rfl (by decide +kernel) (by decide +kernel) rfl (ls_4 hL) (by decide +kernel) rfl rfl rfl rfl rfl k
set_option maxRecDepth 4000 in
theorem b_X6c_takeAtom_29 {xs : Nat → Int32} {L d : Nat} {S : Nat → Shp} {I : Nat → Nat → Int32} {J : Nat → Nat → Int64} {R : Nat → Nat → Nat} {c : Nat × Nat} {Q : Option (Option Value) → MH → Prop} {sx0 : Int32}  (kt : sx0 = 5 → X xs L (d + 1) 70 38 [.ref 8] [] (S, I, J, R, c) Q) (kf : ¬ (sx0 = 5) → X xs L (d + 1) 70 33 [.ref 8] [] (S, I, J, R, c) Q) : X xs L (d + 1) 70 29 [.ref 8] [.int sx0] (S, I, J, R, c) Q := by
  refine X_iconst (v := 5) (show decode (mB 70) 29 = .ok (.iconst 5, 1) by decide +kernel) (pc' := 30) rfl rfl ?_
  exact X_icmp_eq (tgt := 38) (show decode (mB 70) 30 = .ok (.if_icmp .eq 8, 3) by decide +kernel) rfl (pc' := 33) rfl kt kf
set_option maxRecDepth 4000 in
theorem b_X6c_takeAtom_33 {xs : Nat → Int32} {L d : Nat} {S : Nat → Shp} {I : Nat → Nat → Int32} {J : Nat → Nat → Int64} {R : Nat → Nat → Nat} {c : Nat × Nat} {Q : Option (Option Value) → MH → Prop}  (hL : Lay S R)  (k : X xs L d 43 0 [.ref 8] [] (S, I, J, R, c) (Kc xs L (d + 1) 70 37 [.ref 8] [] Q)) : X xs L (d + 1) 70 33 [.ref 8] [] (S, I, J, R, c) Q := by
  refine X_aload_n (q := 0) (show decode (mB 70) 33 = .ok (.aload_n 0, 1) by decide +kernel) (pc' := 34) rfl rfl rfl ?_
  exact X_callV (y := 43) (n := 0) (st := [.ref 8]) (as := [.ref 8]) (rest := []) (ls0 := [.ref 8]) (ci := 2) (show decode (mB 70) 34 = .ok (.invokevirtual 78, 3) by decide +kernel) (pc' := 37) rfl (by decide +kernel) (by decide +kernel) rfl (ls_8 hL) (by decide +kernel) rfl rfl rfl rfl rfl k
set_option maxRecDepth 4000 in
theorem b_X6c_takeAtom_37 {xs : Nat → Int32} {L d : Nat} {S : Nat → Shp} {I : Nat → Nat → Int32} {J : Nat → Nat → Int64} {R : Nat → Nat → Nat} {c : Nat × Nat} {Q : Option (Option Value) → MH → Prop} {sx0 : Int32} (hz37 : sx0 = 0 ∨ sx0 = 1) (k : Q (some (some (.int sx0))) (S, I, J, R, c)) : X xs L (d + 1) 70 37 [.ref 8] [.int sx0] (S, I, J, R, c) Q := by
  exact X_ireturn (ty := .boolean) (show decode (mB 70) 37 = .ok (.ireturn, 1) by decide +kernel) (by decide +kernel) (nz hz37) k
set_option maxRecDepth 4000 in
theorem b_X6c_takeAtom_38 {xs : Nat → Int32} {L d : Nat} {S : Nat → Shp} {I : Nat → Nat → Int32} {J : Nat → Nat → Int64} {R : Nat → Nat → Nat} {c : Nat × Nat} {Q : Option (Option Value) → MH → Prop}  (hL : Lay S R)  (k : X xs L d 95 0 [.ref 4] [] (S, I, J, R, c) (Kc xs L (d + 1) 70 45 [.ref 8] [] Q)) : X xs L (d + 1) 70 38 [.ref 8] [] (S, I, J, R, c) Q := by
  refine X_aload_n (q := 0) (show decode (mB 70) 38 = .ok (.aload_n 0, 1) by decide +kernel) (pc' := 39) rfl rfl rfl ?_
  refine X_getR (ci := 2) (f := 0) (q := 4) (show decode (mB 70) 39 = .ok (.getfield 13, 3) by decide +kernel) (pc' := 42) rfl (ls_8 hL) (by decide +kernel) rfl (lr_8_0 hL) ?_
  exact X_callV (y := 95) (n := 0) (st := [.ref 4]) (as := [.ref 4]) (rest := []) (ls0 := [.ref 4]) (ci := 8) (show decode (mB 70) 42 = .ok (.invokevirtual 42, 3) by decide +kernel) (pc' := 45) rfl (by decide +kernel) (by decide +kernel) rfl (ls_4 hL) (by decide +kernel) rfl rfl rfl rfl rfl k
set_option maxRecDepth 4000 in
theorem b_X6c_takeAtom_45 {xs : Nat → Int32} {L d : Nat} {S : Nat → Shp} {I : Nat → Nat → Int32} {J : Nat → Nat → Int64} {R : Nat → Nat → Nat} {c : Nat × Nat} {Q : Option (Option Value) → MH → Prop} {sy0 : Int64}  (kt : (lg_cmp sy0 48) = 0 → X xs L (d + 1) 70 68 [.ref 8] [] (S, I, J, R, c) Q) (kf : ¬ ((lg_cmp sy0 48) = 0) → X xs L (d + 1) 70 52 [.ref 8] [] (S, I, J, R, c) Q) : X xs L (d + 1) 70 45 [.ref 8] [.long sy0] (S, I, J, R, c) Q := by
  refine X_ldc2 (v := 48) (show decode (mB 70) 45 = .ok (.ldc2_w 81, 3) by decide +kernel) (pc' := 48) rfl (by decide +kernel) ?_
  refine X_lcmp (show decode (mB 70) 48 = .ok (.lcmp, 1) by decide +kernel) (pc' := 49) rfl ?_
  exact X_if_eq (tgt := 68) (show decode (mB 70) 49 = .ok (.ifCond .eq 19, 3) by decide +kernel) rfl (pc' := 52) rfl kt kf
set_option maxRecDepth 4000 in
theorem b_X6c_takeAtom_52 {xs : Nat → Int32} {L d : Nat} {S : Nat → Shp} {I : Nat → Nat → Int32} {J : Nat → Nat → Int64} {R : Nat → Nat → Nat} {c : Nat × Nat} {Q : Option (Option Value) → MH → Prop}  (hL : Lay S R)  (k : X xs L d 95 0 [.ref 4] [] (S, I, J, R, c) (Kc xs L (d + 1) 70 59 [.ref 8] [] Q)) : X xs L (d + 1) 70 52 [.ref 8] [] (S, I, J, R, c) Q := by
  refine X_aload_n (q := 0) (show decode (mB 70) 52 = .ok (.aload_n 0, 1) by decide +kernel) (pc' := 53) rfl rfl rfl ?_
  refine X_getR (ci := 2) (f := 0) (q := 4) (show decode (mB 70) 53 = .ok (.getfield 13, 3) by decide +kernel) (pc' := 56) rfl (ls_8 hL) (by decide +kernel) rfl (lr_8_0 hL) ?_
  exact X_callV (y := 95) (n := 0) (st := [.ref 4]) (as := [.ref 4]) (rest := []) (ls0 := [.ref 4]) (ci := 8) (show decode (mB 70) 56 = .ok (.invokevirtual 42, 3) by decide +kernel) (pc' := 59) rfl (by decide +kernel) (by decide +kernel) rfl (ls_4 hL) (by decide +kernel) rfl rfl rfl rfl rfl k
set_option maxRecDepth 4000 in
theorem b_X6c_takeAtom_59 {xs : Nat → Int32} {L d : Nat} {S : Nat → Shp} {I : Nat → Nat → Int32} {J : Nat → Nat → Int64} {R : Nat → Nat → Nat} {c : Nat × Nat} {Q : Option (Option Value) → MH → Prop} {sy0 : Int64}  (kt : (lg_cmp sy0 49) = 0 → X xs L (d + 1) 70 68 [.ref 8] [] (S, I, J, R, c) Q) (kf : ¬ ((lg_cmp sy0 49) = 0) → X xs L (d + 1) 70 66 [.ref 8] [] (S, I, J, R, c) Q) : X xs L (d + 1) 70 59 [.ref 8] [.long sy0] (S, I, J, R, c) Q := by
  refine X_ldc2 (v := 49) (show decode (mB 70) 59 = .ok (.ldc2_w 83, 3) by decide +kernel) (pc' := 62) rfl (by decide +kernel) ?_
  refine X_lcmp (show decode (mB 70) 62 = .ok (.lcmp, 1) by decide +kernel) (pc' := 63) rfl ?_
  exact X_if_eq (tgt := 68) (show decode (mB 70) 63 = .ok (.ifCond .eq 5, 3) by decide +kernel) rfl (pc' := 66) rfl kt kf
set_option maxRecDepth 4000 in
theorem b_X6c_takeAtom_66 {xs : Nat → Int32} {L d : Nat} {S : Nat → Shp} {I : Nat → Nat → Int32} {J : Nat → Nat → Int64} {R : Nat → Nat → Nat} {c : Nat × Nat} {Q : Option (Option Value) → MH → Prop}   (k : Q (some (some (.int 0))) (S, I, J, R, c)) : X xs L (d + 1) 70 66 [.ref 8] [] (S, I, J, R, c) Q := by
  refine X_iconst (v := 0) (show decode (mB 70) 66 = .ok (.iconst 0, 1) by decide +kernel) (pc' := 67) rfl rfl ?_
  exact X_ireturn (ty := .boolean) (show decode (mB 70) 67 = .ok (.ireturn, 1) by decide +kernel) (by decide +kernel) rfl k
set_option maxRecDepth 4000 in
theorem b_X6c_takeAtom_68 {xs : Nat → Int32} {L d : Nat} {S : Nat → Shp} {I : Nat → Nat → Int32} {J : Nat → Nat → Int64} {R : Nat → Nat → Nat} {c : Nat × Nat} {Q : Option (Option Value) → MH → Prop} {q_8_1 : Nat} (hL : Lay S R) (hq_8_1 : R 8 1 = q_8_1) (k : X xs L d 95 0 [.ref 4] [] (S, I, J, R, c) (Kc xs L (d + 1) 70 79 [.ref 8] [.ref q_8_1] Q)) : X xs L (d + 1) 70 68 [.ref 8] [] (S, I, J, R, c) Q := by
  refine X_aload_n (q := 0) (show decode (mB 70) 68 = .ok (.aload_n 0, 1) by decide +kernel) (pc' := 69) rfl rfl rfl ?_
  refine X_getR (ci := 2) (f := 1) (q := q_8_1) (show decode (mB 70) 69 = .ok (.getfield 26, 3) by decide +kernel) (pc' := 72) rfl (ls_8 hL) (by decide +kernel) rfl hq_8_1 ?_
  refine X_aload_n (q := 0) (show decode (mB 70) 72 = .ok (.aload_n 0, 1) by decide +kernel) (pc' := 73) rfl rfl rfl ?_
  refine X_getR (ci := 2) (f := 0) (q := 4) (show decode (mB 70) 73 = .ok (.getfield 13, 3) by decide +kernel) (pc' := 76) rfl (ls_8 hL) (by decide +kernel) rfl (lr_8_0 hL) ?_
  exact X_callV (y := 95) (n := 0) (st := [.ref 4, .ref q_8_1]) (as := [.ref 4]) (rest := [.ref q_8_1]) (ls0 := [.ref 4]) (ci := 8) (show decode (mB 70) 76 = .ok (.invokevirtual 42, 3) by decide +kernel) (pc' := 79) rfl (by decide +kernel) (by decide +kernel) rfl (ls_4 hL) (by decide +kernel) rfl rfl rfl rfl rfl k
set_option maxRecDepth 4000 in
theorem b_X6c_takeAtom_79 {xs : Nat → Int32} {L d : Nat} {S : Nat → Shp} {I : Nat → Nat → Int32} {J : Nat → Nat → Int64} {R : Nat → Nat → Nat} {c : Nat × Nat} {Q : Option (Option Value) → MH → Prop} {sr0 : Nat} {sy1 : Int64} (h_sr0 : LyCd S R sr0) (k : X xs L d 57 0 [.ref sr0, .int ((-sy1).toInt32)] [] (S, I, J, R, c) (Kc xs L (d + 1) 70 84 [.ref 8] [] Q)) : X xs L (d + 1) 70 79 [.ref 8] [.long sy1, .ref sr0] (S, I, J, R, c) Q := by
  refine X_lneg (show decode (mB 70) 79 = .ok (.lneg, 1) by decide +kernel) (pc' := 80) rfl ?_
  refine X_l2i (show decode (mB 70) 80 = .ok (.l2i, 1) by decide +kernel) (pc' := 81) rfl ?_
  exact X_callV (y := 57) (n := 1) (st := [.int ((-sy1).toInt32), .ref sr0]) (as := [.ref sr0, .int ((-sy1).toInt32)]) (rest := []) (ls0 := [.ref sr0, .int ((-sy1).toInt32)]) (ci := 5) (show decode (mB 70) 81 = .ok (.invokevirtual 75, 3) by decide +kernel) (pc' := 84) rfl (by decide +kernel) (by decide +kernel) rfl h_sr0.s0 (by decide +kernel) rfl rfl rfl rfl rfl k
set_option maxRecDepth 4000 in
theorem b_X6c_takeAtom_84 {xs : Nat → Int32} {L d : Nat} {S : Nat → Shp} {I : Nat → Nat → Int32} {J : Nat → Nat → Int64} {R : Nat → Nat → Nat} {c : Nat × Nat} {Q : Option (Option Value) → MH → Prop}  (hL : Lay S R)  (k : X xs L d 100 0 [.ref 4] [] (S, I, J, R, c) (Kc xs L (d + 1) 70 91 [.ref 8] [] Q)) : X xs L (d + 1) 70 84 [.ref 8] [] (S, I, J, R, c) Q := by
  refine X_aload_n (q := 0) (show decode (mB 70) 84 = .ok (.aload_n 0, 1) by decide +kernel) (pc' := 85) rfl rfl rfl ?_
  refine X_getR (ci := 2) (f := 0) (q := 4) (show decode (mB 70) 85 = .ok (.getfield 13, 3) by decide +kernel) (pc' := 88) rfl (ls_8 hL) (by decide +kernel) rfl (lr_8_0 hL) ?_
  exact X_callV (y := 100) (n := 0) (st := [.ref 4]) (as := [.ref 4]) (rest := []) (ls0 := [.ref 4]) (ci := 8) (show decode (mB 70) 88 = .ok (.invokevirtual 39, 3) by decide +kernel) (pc' := 91) rfl (by decide +kernel) (by decide +kernel) rfl (ls_4 hL) (by decide +kernel) rfl rfl rfl rfl rfl k
set_option maxRecDepth 4000 in
theorem b_X6c_takeAtom_91 {xs : Nat → Int32} {L d : Nat} {S : Nat → Shp} {I : Nat → Nat → Int32} {J : Nat → Nat → Int64} {R : Nat → Nat → Nat} {c : Nat × Nat} {Q : Option (Option Value) → MH → Prop}   (k : Q (some (some (.int 1))) (S, I, J, R, c)) : X xs L (d + 1) 70 91 [.ref 8] [] (S, I, J, R, c) Q := by
  refine X_iconst (v := 1) (show decode (mB 70) 91 = .ok (.iconst 1, 1) by decide +kernel) (pc' := 92) rfl rfl ?_
  exact X_ireturn (ty := .boolean) (show decode (mB 70) 92 = .ok (.ireturn, 1) by decide +kernel) (by decide +kernel) rfl k
set_option maxRecDepth 4000 in
theorem b_X6k_takeAtom_0 {xs : Nat → Int32} {L d : Nat} {S : Nat → Shp} {I : Nat → Nat → Int32} {J : Nat → Nat → Int64} {R : Nat → Nat → Nat} {c : Nat × Nat} {Q : Option (Option Value) → MH → Prop}  (hL : Lay S R)  (kt : (I 11 2) < 300 → X xs L (d + 1) 70 12 [.ref 11] [] (S, I, J, R, c) Q) (kf : ¬ ((I 11 2) < 300) → X xs L (d + 1) 70 10 [.ref 11] [] (S, I, J, R, c) Q) : X xs L (d + 1) 70 0 [.ref 11] [] (S, I, J, R, c) Q := by
  refine X_aload_n (q := 0) (show decode (mB 70) 0 = .ok (.aload_n 0, 1) by decide +kernel) (pc' := 1) rfl rfl rfl ?_
  refine X_getI (ci := 4) (f := 2) (x := I 11 2) (show decode (mB 70) 1 = .ok (.getfield 22, 3) by decide +kernel) (pc' := 4) rfl (ls_11 hL) (by decide +kernel) rfl rfl ?_
  refine X_sipush (v := 300) (show decode (mB 70) 4 = .ok (.sipush 300, 3) by decide +kernel) (pc' := 7) rfl (by decide +kernel) ?_
  exact X_icmp_lt (tgt := 12) (show decode (mB 70) 7 = .ok (.if_icmp .lt 5, 3) by decide +kernel) rfl (pc' := 10) rfl kt kf
set_option maxRecDepth 4000 in
theorem b_X6k_takeAtom_10 {xs : Nat → Int32} {L d : Nat} {S : Nat → Shp} {I : Nat → Nat → Int32} {J : Nat → Nat → Int64} {R : Nat → Nat → Nat} {c : Nat × Nat} {Q : Option (Option Value) → MH → Prop}   (k : Q (some (some (.int 0))) (S, I, J, R, c)) : X xs L (d + 1) 70 10 [.ref 11] [] (S, I, J, R, c) Q := by
  refine X_iconst (v := 0) (show decode (mB 70) 10 = .ok (.iconst 0, 1) by decide +kernel) (pc' := 11) rfl rfl ?_
  exact X_ireturn (ty := .boolean) (show decode (mB 70) 11 = .ok (.ireturn, 1) by decide +kernel) (by decide +kernel) rfl k
set_option maxRecDepth 4000 in
theorem b_X6k_takeAtom_12 {xs : Nat → Int32} {L d : Nat} {S : Nat → Shp} {I : Nat → Nat → Int32} {J : Nat → Nat → Int64} {R : Nat → Nat → Nat} {c : Nat × Nat} {Q : Option (Option Value) → MH → Prop}  (hL : Lay S R)  (k : X xs L d 93 0 [.ref 4] [] (S, (u2 I 11 2 ((I 11 2) + 1)), J, R, c) (Kc xs L (d + 1) 70 29 [.ref 11] [] Q)) : X xs L (d + 1) 70 12 [.ref 11] [] (S, I, J, R, c) Q := by
  refine X_aload_n (q := 0) (show decode (mB 70) 12 = .ok (.aload_n 0, 1) by decide +kernel) (pc' := 13) rfl rfl rfl ?_
  refine X_dup (show decode (mB 70) 13 = .ok (.dup, 1) by decide +kernel) (pc' := 14) rfl rfl ?_
  refine X_getI (ci := 4) (f := 2) (x := I 11 2) (show decode (mB 70) 14 = .ok (.getfield 22, 3) by decide +kernel) (pc' := 17) rfl (ls_11 hL) (by decide +kernel) rfl rfl ?_
  refine X_iconst (v := 1) (show decode (mB 70) 17 = .ok (.iconst 1, 1) by decide +kernel) (pc' := 18) rfl rfl ?_
  refine X_iadd (show decode (mB 70) 18 = .ok (.iadd, 1) by decide +kernel) (pc' := 19) rfl ?_
  refine X_putI (ci := 4) (f := 2) (show decode (mB 70) 19 = .ok (.putfield 22, 3) by decide +kernel) (pc' := 22) rfl (ls_11 hL) (by decide +kernel) (by decide +kernel) rfl ?_
  refine X_aload_n (q := 0) (show decode (mB 70) 22 = .ok (.aload_n 0, 1) by decide +kernel) (pc' := 23) rfl rfl rfl ?_
  refine X_getR (ci := 4) (f := 0) (q := 4) (show decode (mB 70) 23 = .ok (.getfield 13, 3) by decide +kernel) (pc' := 26) rfl (ls_11 hL) (by decide +kernel) rfl (lr_11_0 hL) ?_
  exact X_callV (y := 93) (n := 0) (st := [.ref 4]) (as := [.ref 4]) (rest := []) (ls0 := [.ref 4]) (ci := 8) (show decode (mB 70) 26 = .ok (.invokevirtual 35, 3) by decide +kernel) (pc' := 29) rfl (by decide +kernel) (by decide +kernel) rfl (ls_4 hL) (by decide +kernel) rfl rfl rfl rfl rfl k
set_option maxRecDepth 4000 in
theorem b_X6k_takeAtom_29 {xs : Nat → Int32} {L d : Nat} {S : Nat → Shp} {I : Nat → Nat → Int32} {J : Nat → Nat → Int64} {R : Nat → Nat → Nat} {c : Nat × Nat} {Q : Option (Option Value) → MH → Prop} {sx0 : Int32}  (kt : sx0 = 5 → X xs L (d + 1) 70 38 [.ref 11] [] (S, I, J, R, c) Q) (kf : ¬ (sx0 = 5) → X xs L (d + 1) 70 33 [.ref 11] [] (S, I, J, R, c) Q) : X xs L (d + 1) 70 29 [.ref 11] [.int sx0] (S, I, J, R, c) Q := by
  refine X_iconst (v := 5) (show decode (mB 70) 29 = .ok (.iconst 5, 1) by decide +kernel) (pc' := 30) rfl rfl ?_
  exact X_icmp_eq (tgt := 38) (show decode (mB 70) 30 = .ok (.if_icmp .eq 8, 3) by decide +kernel) rfl (pc' := 33) rfl kt kf
set_option maxRecDepth 4000 in
theorem b_X6k_takeAtom_33 {xs : Nat → Int32} {L d : Nat} {S : Nat → Shp} {I : Nat → Nat → Int32} {J : Nat → Nat → Int64} {R : Nat → Nat → Nat} {c : Nat × Nat} {Q : Option (Option Value) → MH → Prop}  (hL : Lay S R)  (k : X xs L d 55 0 [.ref 11, .null] [] (S, I, J, R, c) (Kc xs L (d + 1) 70 37 [.ref 11] [] Q)) : X xs L (d + 1) 70 33 [.ref 11] [] (S, I, J, R, c) Q := by
  refine X_aload_n (q := 0) (show decode (mB 70) 33 = .ok (.aload_n 0, 1) by decide +kernel) (pc' := 34) rfl rfl rfl ?_
  exact X_callV (y := 55) (n := 0) (st := [.ref 11]) (as := [.ref 11]) (rest := []) (ls0 := [.ref 11, .null]) (ci := 4) (show decode (mB 70) 34 = .ok (.invokevirtual 78, 3) by decide +kernel) (pc' := 37) rfl (by decide +kernel) (by decide +kernel) rfl (ls_11 hL) (by decide +kernel) rfl rfl rfl rfl rfl k
set_option maxRecDepth 4000 in
theorem b_X6k_takeAtom_37 {xs : Nat → Int32} {L d : Nat} {S : Nat → Shp} {I : Nat → Nat → Int32} {J : Nat → Nat → Int64} {R : Nat → Nat → Nat} {c : Nat × Nat} {Q : Option (Option Value) → MH → Prop} {sx0 : Int32} (hz37 : sx0 = 0 ∨ sx0 = 1) (k : Q (some (some (.int sx0))) (S, I, J, R, c)) : X xs L (d + 1) 70 37 [.ref 11] [.int sx0] (S, I, J, R, c) Q := by
  exact X_ireturn (ty := .boolean) (show decode (mB 70) 37 = .ok (.ireturn, 1) by decide +kernel) (by decide +kernel) (nz hz37) k
set_option maxRecDepth 4000 in
theorem b_X6k_takeAtom_38 {xs : Nat → Int32} {L d : Nat} {S : Nat → Shp} {I : Nat → Nat → Int32} {J : Nat → Nat → Int64} {R : Nat → Nat → Nat} {c : Nat × Nat} {Q : Option (Option Value) → MH → Prop}  (hL : Lay S R)  (k : X xs L d 95 0 [.ref 4] [] (S, I, J, R, c) (Kc xs L (d + 1) 70 45 [.ref 11] [] Q)) : X xs L (d + 1) 70 38 [.ref 11] [] (S, I, J, R, c) Q := by
  refine X_aload_n (q := 0) (show decode (mB 70) 38 = .ok (.aload_n 0, 1) by decide +kernel) (pc' := 39) rfl rfl rfl ?_
  refine X_getR (ci := 4) (f := 0) (q := 4) (show decode (mB 70) 39 = .ok (.getfield 13, 3) by decide +kernel) (pc' := 42) rfl (ls_11 hL) (by decide +kernel) rfl (lr_11_0 hL) ?_
  exact X_callV (y := 95) (n := 0) (st := [.ref 4]) (as := [.ref 4]) (rest := []) (ls0 := [.ref 4]) (ci := 8) (show decode (mB 70) 42 = .ok (.invokevirtual 42, 3) by decide +kernel) (pc' := 45) rfl (by decide +kernel) (by decide +kernel) rfl (ls_4 hL) (by decide +kernel) rfl rfl rfl rfl rfl k
set_option maxRecDepth 4000 in
theorem b_X6k_takeAtom_45 {xs : Nat → Int32} {L d : Nat} {S : Nat → Shp} {I : Nat → Nat → Int32} {J : Nat → Nat → Int64} {R : Nat → Nat → Nat} {c : Nat × Nat} {Q : Option (Option Value) → MH → Prop} {sy0 : Int64}  (kt : (lg_cmp sy0 48) = 0 → X xs L (d + 1) 70 68 [.ref 11] [] (S, I, J, R, c) Q) (kf : ¬ ((lg_cmp sy0 48) = 0) → X xs L (d + 1) 70 52 [.ref 11] [] (S, I, J, R, c) Q) : X xs L (d + 1) 70 45 [.ref 11] [.long sy0] (S, I, J, R, c) Q := by
  refine X_ldc2 (v := 48) (show decode (mB 70) 45 = .ok (.ldc2_w 81, 3) by decide +kernel) (pc' := 48) rfl (by decide +kernel) ?_
  refine X_lcmp (show decode (mB 70) 48 = .ok (.lcmp, 1) by decide +kernel) (pc' := 49) rfl ?_
  exact X_if_eq (tgt := 68) (show decode (mB 70) 49 = .ok (.ifCond .eq 19, 3) by decide +kernel) rfl (pc' := 52) rfl kt kf
set_option maxRecDepth 4000 in
theorem b_X6k_takeAtom_52 {xs : Nat → Int32} {L d : Nat} {S : Nat → Shp} {I : Nat → Nat → Int32} {J : Nat → Nat → Int64} {R : Nat → Nat → Nat} {c : Nat × Nat} {Q : Option (Option Value) → MH → Prop}  (hL : Lay S R)  (k : X xs L d 95 0 [.ref 4] [] (S, I, J, R, c) (Kc xs L (d + 1) 70 59 [.ref 11] [] Q)) : X xs L (d + 1) 70 52 [.ref 11] [] (S, I, J, R, c) Q := by
  refine X_aload_n (q := 0) (show decode (mB 70) 52 = .ok (.aload_n 0, 1) by decide +kernel) (pc' := 53) rfl rfl rfl ?_
  refine X_getR (ci := 4) (f := 0) (q := 4) (show decode (mB 70) 53 = .ok (.getfield 13, 3) by decide +kernel) (pc' := 56) rfl (ls_11 hL) (by decide +kernel) rfl (lr_11_0 hL) ?_
  exact X_callV (y := 95) (n := 0) (st := [.ref 4]) (as := [.ref 4]) (rest := []) (ls0 := [.ref 4]) (ci := 8) (show decode (mB 70) 56 = .ok (.invokevirtual 42, 3) by decide +kernel) (pc' := 59) rfl (by decide +kernel) (by decide +kernel) rfl (ls_4 hL) (by decide +kernel) rfl rfl rfl rfl rfl k
set_option maxRecDepth 4000 in
theorem b_X6k_takeAtom_59 {xs : Nat → Int32} {L d : Nat} {S : Nat → Shp} {I : Nat → Nat → Int32} {J : Nat → Nat → Int64} {R : Nat → Nat → Nat} {c : Nat × Nat} {Q : Option (Option Value) → MH → Prop} {sy0 : Int64}  (kt : (lg_cmp sy0 49) = 0 → X xs L (d + 1) 70 68 [.ref 11] [] (S, I, J, R, c) Q) (kf : ¬ ((lg_cmp sy0 49) = 0) → X xs L (d + 1) 70 66 [.ref 11] [] (S, I, J, R, c) Q) : X xs L (d + 1) 70 59 [.ref 11] [.long sy0] (S, I, J, R, c) Q := by
  refine X_ldc2 (v := 49) (show decode (mB 70) 59 = .ok (.ldc2_w 83, 3) by decide +kernel) (pc' := 62) rfl (by decide +kernel) ?_
  refine X_lcmp (show decode (mB 70) 62 = .ok (.lcmp, 1) by decide +kernel) (pc' := 63) rfl ?_
  exact X_if_eq (tgt := 68) (show decode (mB 70) 63 = .ok (.ifCond .eq 5, 3) by decide +kernel) rfl (pc' := 66) rfl kt kf
set_option maxRecDepth 4000 in
theorem b_X6k_takeAtom_66 {xs : Nat → Int32} {L d : Nat} {S : Nat → Shp} {I : Nat → Nat → Int32} {J : Nat → Nat → Int64} {R : Nat → Nat → Nat} {c : Nat × Nat} {Q : Option (Option Value) → MH → Prop}   (k : Q (some (some (.int 0))) (S, I, J, R, c)) : X xs L (d + 1) 70 66 [.ref 11] [] (S, I, J, R, c) Q := by
  refine X_iconst (v := 0) (show decode (mB 70) 66 = .ok (.iconst 0, 1) by decide +kernel) (pc' := 67) rfl rfl ?_
  exact X_ireturn (ty := .boolean) (show decode (mB 70) 67 = .ok (.ireturn, 1) by decide +kernel) (by decide +kernel) rfl k
set_option maxRecDepth 4000 in
theorem b_X6k_takeAtom_68 {xs : Nat → Int32} {L d : Nat} {S : Nat → Shp} {I : Nat → Nat → Int32} {J : Nat → Nat → Int64} {R : Nat → Nat → Nat} {c : Nat × Nat} {Q : Option (Option Value) → MH → Prop} {q_11_1 : Nat} (hL : Lay S R) (hq_11_1 : R 11 1 = q_11_1) (k : X xs L d 95 0 [.ref 4] [] (S, I, J, R, c) (Kc xs L (d + 1) 70 79 [.ref 11] [.ref q_11_1] Q)) : X xs L (d + 1) 70 68 [.ref 11] [] (S, I, J, R, c) Q := by
  refine X_aload_n (q := 0) (show decode (mB 70) 68 = .ok (.aload_n 0, 1) by decide +kernel) (pc' := 69) rfl rfl rfl ?_
  refine X_getR (ci := 4) (f := 1) (q := q_11_1) (show decode (mB 70) 69 = .ok (.getfield 26, 3) by decide +kernel) (pc' := 72) rfl (ls_11 hL) (by decide +kernel) rfl hq_11_1 ?_
  refine X_aload_n (q := 0) (show decode (mB 70) 72 = .ok (.aload_n 0, 1) by decide +kernel) (pc' := 73) rfl rfl rfl ?_
  refine X_getR (ci := 4) (f := 0) (q := 4) (show decode (mB 70) 73 = .ok (.getfield 13, 3) by decide +kernel) (pc' := 76) rfl (ls_11 hL) (by decide +kernel) rfl (lr_11_0 hL) ?_
  exact X_callV (y := 95) (n := 0) (st := [.ref 4, .ref q_11_1]) (as := [.ref 4]) (rest := [.ref q_11_1]) (ls0 := [.ref 4]) (ci := 8) (show decode (mB 70) 76 = .ok (.invokevirtual 42, 3) by decide +kernel) (pc' := 79) rfl (by decide +kernel) (by decide +kernel) rfl (ls_4 hL) (by decide +kernel) rfl rfl rfl rfl rfl k
set_option maxRecDepth 4000 in
theorem b_X6k_takeAtom_79 {xs : Nat → Int32} {L d : Nat} {S : Nat → Shp} {I : Nat → Nat → Int32} {J : Nat → Nat → Int64} {R : Nat → Nat → Nat} {c : Nat × Nat} {Q : Option (Option Value) → MH → Prop} {sr0 : Nat} {sy1 : Int64} (h_sr0 : LyCd S R sr0) (k : X xs L d 57 0 [.ref sr0, .int ((-sy1).toInt32)] [] (S, I, J, R, c) (Kc xs L (d + 1) 70 84 [.ref 11] [] Q)) : X xs L (d + 1) 70 79 [.ref 11] [.long sy1, .ref sr0] (S, I, J, R, c) Q := by
  refine X_lneg (show decode (mB 70) 79 = .ok (.lneg, 1) by decide +kernel) (pc' := 80) rfl ?_
  refine X_l2i (show decode (mB 70) 80 = .ok (.l2i, 1) by decide +kernel) (pc' := 81) rfl ?_
  exact X_callV (y := 57) (n := 1) (st := [.int ((-sy1).toInt32), .ref sr0]) (as := [.ref sr0, .int ((-sy1).toInt32)]) (rest := []) (ls0 := [.ref sr0, .int ((-sy1).toInt32)]) (ci := 5) (show decode (mB 70) 81 = .ok (.invokevirtual 75, 3) by decide +kernel) (pc' := 84) rfl (by decide +kernel) (by decide +kernel) rfl h_sr0.s0 (by decide +kernel) rfl rfl rfl rfl rfl k
set_option maxRecDepth 4000 in
theorem b_X6k_takeAtom_84 {xs : Nat → Int32} {L d : Nat} {S : Nat → Shp} {I : Nat → Nat → Int32} {J : Nat → Nat → Int64} {R : Nat → Nat → Nat} {c : Nat × Nat} {Q : Option (Option Value) → MH → Prop}  (hL : Lay S R)  (k : X xs L d 100 0 [.ref 4] [] (S, I, J, R, c) (Kc xs L (d + 1) 70 91 [.ref 11] [] Q)) : X xs L (d + 1) 70 84 [.ref 11] [] (S, I, J, R, c) Q := by
  refine X_aload_n (q := 0) (show decode (mB 70) 84 = .ok (.aload_n 0, 1) by decide +kernel) (pc' := 85) rfl rfl rfl ?_
  refine X_getR (ci := 4) (f := 0) (q := 4) (show decode (mB 70) 85 = .ok (.getfield 13, 3) by decide +kernel) (pc' := 88) rfl (ls_11 hL) (by decide +kernel) rfl (lr_11_0 hL) ?_
  exact X_callV (y := 100) (n := 0) (st := [.ref 4]) (as := [.ref 4]) (rest := []) (ls0 := [.ref 4]) (ci := 8) (show decode (mB 70) 88 = .ok (.invokevirtual 39, 3) by decide +kernel) (pc' := 91) rfl (by decide +kernel) (by decide +kernel) rfl (ls_4 hL) (by decide +kernel) rfl rfl rfl rfl rfl k
set_option maxRecDepth 4000 in
theorem b_X6k_takeAtom_91 {xs : Nat → Int32} {L d : Nat} {S : Nat → Shp} {I : Nat → Nat → Int32} {J : Nat → Nat → Int64} {R : Nat → Nat → Nat} {c : Nat × Nat} {Q : Option (Option Value) → MH → Prop}   (k : Q (some (some (.int 1))) (S, I, J, R, c)) : X xs L (d + 1) 70 91 [.ref 11] [] (S, I, J, R, c) Q := by
  refine X_iconst (v := 1) (show decode (mB 70) 91 = .ok (.iconst 1, 1) by decide +kernel) (pc' := 92) rfl rfl ?_
  exact X_ireturn (ty := .boolean) (show decode (mB 70) 92 = .ok (.ireturn, 1) by decide +kernel) (by decide +kernel) rfl k
