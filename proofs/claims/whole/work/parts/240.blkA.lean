/-! ===== P1: blocks (by wip/whole/gen/blocks.py) ===== -/
set_option maxRecDepth 4000 in
theorem b_X8_put_0 {xs : Nat → Int32} {L d : Nat} {S : Nat → Shp} {I : Nat → Nat → Int32} {J : Nat → Nat → Int64} {R : Nat → Nat → Nat} {c : Nat × Nat} {Q : Option (Option Value) → MH → Prop} {x1 : Int32}  (k : X xs L d 80 3 [.ref 2, .int x1, .int 24] [] (S, I, J, R, c) Q) : X xs L d 80 0 [.ref 2, .int x1, .null] [] (S, I, J, R, c) Q := by
  refine X_bipush (v := 24) (show decode (mB 80) 0 = .ok (.bipush 24, 2) by decide +kernel) (pc' := 2) rfl (by decide +kernel) ?_
  refine X_istore_n (q := 2) (ls' := [.ref 2, .int x1, .int 24]) (show decode (mB 80) 2 = .ok (.istore_n 2, 1) by decide +kernel) (pc' := 3) rfl rfl rfl ?_
  exact k
set_option maxRecDepth 4000 in
theorem b_X8_put_3 {xs : Nat → Int32} {L d : Nat} {S : Nat → Shp} {I : Nat → Nat → Int32} {J : Nat → Nat → Int64} {R : Nat → Nat → Nat} {c : Nat × Nat} {Q : Option (Option Value) → MH → Prop} {x1 x2 : Int32}  (kt : x2 < 0 → X xs L d 80 46 [.ref 2, .int x1, .int x2] [] (S, I, J, R, c) Q) (kf : ¬ (x2 < 0) → X xs L d 80 7 [.ref 2, .int x1, .int x2] [] (S, I, J, R, c) Q) : X xs L d 80 3 [.ref 2, .int x1, .int x2] [] (S, I, J, R, c) Q := by
  refine X_iload_n (q := 2) (show decode (mB 80) 3 = .ok (.iload_n 2, 1) by decide +kernel) (pc' := 4) rfl rfl rfl ?_
  exact X_if_lt (tgt := 46) (show decode (mB 80) 4 = .ok (.ifCond .lt 42, 3) by decide +kernel) rfl (pc' := 7) rfl kt kf
set_option maxRecDepth 4000 in
theorem b_X8_put_7 {xs : Nat → Int32} {L d : Nat} {S : Nat → Shp} {I : Nat → Nat → Int32} {J : Nat → Nat → Int64} {R : Nat → Nat → Nat} {c : Nat × Nat} {Q : Option (Option Value) → MH → Prop} {x1 x2 : Int32} (hL : Lay S R)  (kt : 2000 ≤ (I 2 1) → X xs L d 80 40 [.ref 2, .int x1, .int x2] [] (S, I, J, R, c) Q) (kf : ¬ (2000 ≤ (I 2 1)) → X xs L d 80 17 [.ref 2, .int x1, .int x2] [] (S, I, J, R, c) Q) : X xs L d 80 7 [.ref 2, .int x1, .int x2] [] (S, I, J, R, c) Q := by
  refine X_aload_n (q := 0) (show decode (mB 80) 7 = .ok (.aload_n 0, 1) by decide +kernel) (pc' := 8) rfl rfl rfl ?_
  refine X_getI (ci := 7) (f := 1) (x := I 2 1) (show decode (mB 80) 8 = .ok (.getfield 13, 3) by decide +kernel) (pc' := 11) rfl (ls_2 hL) (by decide +kernel) rfl rfl ?_
  refine X_sipush (v := 2000) (show decode (mB 80) 11 = .ok (.sipush 2000, 3) by decide +kernel) (pc' := 14) rfl (by decide +kernel) ?_
  exact X_icmp_ge (tgt := 40) (show decode (mB 80) 14 = .ok (.if_icmp .ge 26, 3) by decide +kernel) rfl (pc' := 17) rfl kt kf
set_option maxRecDepth 4000 in
theorem b_X8_put_17 {xs : Nat → Int32} {L d : Nat} {S : Nat → Shp} {I : Nat → Nat → Int32} {J : Nat → Nat → Int64} {R : Nat → Nat → Nat} {c : Nat × Nat} {Q : Option (Option Value) → MH → Prop} {x1 x2 : Int32} (hL : Lay S R) (hb29 : inb (I 2 1) 2000 = true) (k : X xs L d 80 40 [.ref 2, .int x1, .int x2] [] (S, (u2 (u2 I 3 ((I 2 1).toNatClampNeg) (vp_nar .byte ((x1 >>> (x2 &&& 31)).toInt8.toInt32))) 2 1 ((I 2 1) + 1)), J, R, c) Q) : X xs L d 80 17 [.ref 2, .int x1, .int x2] [] (S, I, J, R, c) Q := by
  refine X_aload_n (q := 0) (show decode (mB 80) 17 = .ok (.aload_n 0, 1) by decide +kernel) (pc' := 18) rfl rfl rfl ?_
  refine X_getR (ci := 7) (f := 0) (q := 3) (show decode (mB 80) 18 = .ok (.getfield 9, 3) by decide +kernel) (pc' := 21) rfl (ls_2 hL) (by decide +kernel) rfl (lr_2_0 hL) ?_
  refine X_aload_n (q := 0) (show decode (mB 80) 21 = .ok (.aload_n 0, 1) by decide +kernel) (pc' := 22) rfl rfl rfl ?_
  refine X_getI (ci := 7) (f := 1) (x := I 2 1) (show decode (mB 80) 22 = .ok (.getfield 13, 3) by decide +kernel) (pc' := 25) rfl (ls_2 hL) (by decide +kernel) rfl rfl ?_
  refine X_iload_n (q := 1) (show decode (mB 80) 25 = .ok (.iload_n 1, 1) by decide +kernel) (pc' := 26) rfl rfl rfl ?_
  refine X_iload_n (q := 2) (show decode (mB 80) 26 = .ok (.iload_n 2, 1) by decide +kernel) (pc' := 27) rfl rfl rfl ?_
  refine X_ishr (show decode (mB 80) 27 = .ok (.ishr, 1) by decide +kernel) (pc' := 28) rfl ?_
  refine X_i2b (show decode (mB 80) 28 = .ok (.i2b, 1) by decide +kernel) (pc' := 29) rfl ?_
  refine X_bastore (show decode (mB 80) 29 = .ok (.bastore, 1) by decide +kernel) (pc' := 30) rfl (ls_3 hL) hb29 ?_
  refine X_aload_n (q := 0) (show decode (mB 80) 30 = .ok (.aload_n 0, 1) by decide +kernel) (pc' := 31) rfl rfl rfl ?_
  refine X_dup (show decode (mB 80) 31 = .ok (.dup, 1) by decide +kernel) (pc' := 32) rfl rfl ?_
  refine X_getI (ci := 7) (f := 1) (x := I 2 1) (show decode (mB 80) 32 = .ok (.getfield 13, 3) by decide +kernel) (pc' := 35) rfl (ls_2 hL) (by decide +kernel) rfl (by simp [u2, u1]) ?_
  refine X_iconst (v := 1) (show decode (mB 80) 35 = .ok (.iconst 1, 1) by decide +kernel) (pc' := 36) rfl rfl ?_
  refine X_iadd (show decode (mB 80) 36 = .ok (.iadd, 1) by decide +kernel) (pc' := 37) rfl ?_
  refine X_putI (ci := 7) (f := 1) (show decode (mB 80) 37 = .ok (.putfield 13, 3) by decide +kernel) (pc' := 40) rfl (ls_2 hL) (by decide +kernel) (by decide +kernel) rfl ?_
  exact k
set_option maxRecDepth 4000 in
theorem b_X8_put_40 {xs : Nat → Int32} {L d : Nat} {S : Nat → Shp} {I : Nat → Nat → Int32} {J : Nat → Nat → Int64} {R : Nat → Nat → Nat} {c : Nat × Nat} {Q : Option (Option Value) → MH → Prop} {x1 x2 : Int32}  (k : X xs L d 80 3 [.ref 2, .int x1, .int (x2 + (-8))] [] (S, I, J, R, c) Q) : X xs L d 80 40 [.ref 2, .int x1, .int x2] [] (S, I, J, R, c) Q := by
  refine X_iinc (q := 2) (v := x2 + (-8)) (ls' := [.ref 2, .int x1, .int (x2 + (-8))]) (show decode (mB 80) 40 = .ok (.iinc 2 (-8), 3) by decide +kernel) (pc' := 43) rfl rfl rfl rfl ?_
  refine X_goto (tgt := 3) (show decode (mB 80) 43 = .ok (.goto (-40), 3) by decide +kernel) rfl ?_
  exact k
set_option maxRecDepth 4000 in
theorem b_X8_put_46 {xs : Nat → Int32} {L d : Nat} {S : Nat → Shp} {I : Nat → Nat → Int32} {J : Nat → Nat → Int64} {R : Nat → Nat → Nat} {c : Nat × Nat} {Q : Option (Option Value) → MH → Prop} {x1 x2 : Int32}  (k : Q (some none) (S, I, J, R, c)) : X xs L d 80 46 [.ref 2, .int x1, .int x2] [] (S, I, J, R, c) Q := by
  exact X_return (show decode (mB 80) 46 = .ok (.return_, 1) by decide +kernel) (by decide +kernel) k
set_option maxRecDepth 4000 in
theorem b_X8_byteAt_0 {xs : Nat → Int32} {L d : Nat} {S : Nat → Shp} {I : Nat → Nat → Int32} {J : Nat → Nat → Int64} {R : Nat → Nat → Nat} {c : Nat × Nat} {Q : Option (Option Value) → MH → Prop} {x1 : Int32} (hL : Lay S R) (hb5 : inb x1 2000 = true) (k : Q (some (some (.int ((I 3 x1.toNatClampNeg) &&& 255)))) (S, I, J, R, c)) : X xs L d 81 0 [.ref 2, .int x1] [] (S, I, J, R, c) Q := by
  refine X_aload_n (q := 0) (show decode (mB 81) 0 = .ok (.aload_n 0, 1) by decide +kernel) (pc' := 1) rfl rfl rfl ?_
  refine X_getR (ci := 7) (f := 0) (q := 3) (show decode (mB 81) 1 = .ok (.getfield 9, 3) by decide +kernel) (pc' := 4) rfl (ls_2 hL) (by decide +kernel) rfl (lr_2_0 hL) ?_
  refine X_iload_n (q := 1) (show decode (mB 81) 4 = .ok (.iload_n 1, 1) by decide +kernel) (pc' := 5) rfl rfl rfl ?_
  refine X_baload (w := I 3 x1.toNatClampNeg) (show decode (mB 81) 5 = .ok (.baload, 1) by decide +kernel) (pc' := 6) rfl (ls_3 hL) hb5 rfl ?_
  refine X_sipush (v := 255) (show decode (mB 81) 6 = .ok (.sipush 255, 3) by decide +kernel) (pc' := 9) rfl (by decide +kernel) ?_
  refine X_iand (show decode (mB 81) 9 = .ok (.iand, 1) by decide +kernel) (pc' := 10) rfl ?_
  exact X_ireturn (ty := .int) (show decode (mB 81) 10 = .ok (.ireturn, 1) by decide +kernel) (by decide +kernel) rfl k
set_option maxRecDepth 4000 in
theorem b_X9_scan_0 {xs : Nat → Int32} {L d : Nat} {S : Nat → Shp} {I : Nat → Nat → Int32} {J : Nat → Nat → Int64} {R : Nat → Nat → Nat} {c : Nat × Nat} {Q : Option (Option Value) → MH → Prop}  (hL : Lay S R)  (k : X xs L (d + 1) 83 12 [.ref 4, .int 0, .null] [] (S, (u2 (u2 I 4 4 0) 4 5 0), J, R, c) Q) : X xs L (d + 1) 83 0 [.ref 4, .null, .null] [] (S, I, J, R, c) Q := by
  refine X_aload_n (q := 0) (show decode (mB 83) 0 = .ok (.aload_n 0, 1) by decide +kernel) (pc' := 1) rfl rfl rfl ?_
  refine X_iconst (v := 0) (show decode (mB 83) 1 = .ok (.iconst 0, 1) by decide +kernel) (pc' := 2) rfl rfl ?_
  refine X_putI (ci := 8) (f := 4) (show decode (mB 83) 2 = .ok (.putfield 26, 3) by decide +kernel) (pc' := 5) rfl (ls_4 hL) (by decide +kernel) (by decide +kernel) rfl ?_
  refine X_aload_n (q := 0) (show decode (mB 83) 5 = .ok (.aload_n 0, 1) by decide +kernel) (pc' := 6) rfl rfl rfl ?_
  refine X_iconst (v := 0) (show decode (mB 83) 6 = .ok (.iconst 0, 1) by decide +kernel) (pc' := 7) rfl rfl ?_
  refine X_putI (ci := 8) (f := 5) (show decode (mB 83) 7 = .ok (.putfield 30, 3) by decide +kernel) (pc' := 10) rfl (ls_4 hL) (by decide +kernel) (by decide +kernel) rfl ?_
  refine X_iconst (v := 0) (show decode (mB 83) 10 = .ok (.iconst 0, 1) by decide +kernel) (pc' := 11) rfl rfl ?_
  refine X_istore_n (q := 1) (ls' := [.ref 4, .int 0, .null]) (show decode (mB 83) 11 = .ok (.istore_n 1, 1) by decide +kernel) (pc' := 12) rfl rfl rfl ?_
  exact k
set_option maxRecDepth 4000 in
theorem b_X9_scan_12 {xs : Nat → Int32} {L d : Nat} {S : Nat → Shp} {I : Nat → Nat → Int32} {J : Nat → Nat → Int64} {R : Nat → Nat → Nat} {c : Nat × Nat} {Q : Option (Option Value) → MH → Prop} {x1 : Int32} {v2 : Value} (hL : Lay S R)  (kt : (I 2 1) ≤ x1 → X xs L (d + 1) 83 69 [.ref 4, .int x1, v2] [] (S, I, J, R, c) Q) (kf : ¬ ((I 2 1) ≤ x1) → X xs L (d + 1) 83 23 [.ref 4, .int x1, v2] [] (S, I, J, R, c) Q) : X xs L (d + 1) 83 12 [.ref 4, .int x1, v2] [] (S, I, J, R, c) Q := by
  refine X_iload_n (q := 1) (show decode (mB 83) 12 = .ok (.iload_n 1, 1) by decide +kernel) (pc' := 13) rfl rfl rfl ?_
  refine X_aload_n (q := 0) (show decode (mB 83) 13 = .ok (.aload_n 0, 1) by decide +kernel) (pc' := 14) rfl rfl rfl ?_
  refine X_getR (ci := 8) (f := 0) (q := 2) (show decode (mB 83) 14 = .ok (.getfield 22, 3) by decide +kernel) (pc' := 17) rfl (ls_4 hL) (by decide +kernel) rfl (lr_4_0 hL) ?_
  refine X_getI (ci := 7) (f := 1) (x := I 2 1) (show decode (mB 83) 17 = .ok (.getfield 33, 3) by decide +kernel) (pc' := 20) rfl (ls_2 hL) (by decide +kernel) rfl rfl ?_
  exact X_icmp_ge (tgt := 69) (show decode (mB 83) 20 = .ok (.if_icmp .ge 49, 3) by decide +kernel) rfl (pc' := 23) rfl kt kf
set_option maxRecDepth 4000 in
theorem b_X9_scan_23 {xs : Nat → Int32} {L d : Nat} {S : Nat → Shp} {I : Nat → Nat → Int32} {J : Nat → Nat → Int64} {R : Nat → Nat → Nat} {c : Nat × Nat} {Q : Option (Option Value) → MH → Prop} {x1 : Int32} {v2 : Value} (hL : Lay S R)  (k : X xs L d 81 0 [.ref 2, .int x1] [] (S, I, J, R, c) (Kc xs L (d + 1) 83 31 [.ref 4, .int x1, v2] [] Q)) : X xs L (d + 1) 83 23 [.ref 4, .int x1, v2] [] (S, I, J, R, c) Q := by
  refine X_aload_n (q := 0) (show decode (mB 83) 23 = .ok (.aload_n 0, 1) by decide +kernel) (pc' := 24) rfl rfl rfl ?_
  refine X_getR (ci := 8) (f := 0) (q := 2) (show decode (mB 83) 24 = .ok (.getfield 22, 3) by decide +kernel) (pc' := 27) rfl (ls_4 hL) (by decide +kernel) rfl (lr_4_0 hL) ?_
  refine X_iload_n (q := 1) (show decode (mB 83) 27 = .ok (.iload_n 1, 1) by decide +kernel) (pc' := 28) rfl rfl rfl ?_
  exact X_callV (y := 81) (n := 1) (st := [.int x1, .ref 2]) (as := [.ref 2, .int x1]) (rest := []) (ls0 := [.ref 2, .int x1]) (ci := 7) (show decode (mB 83) 28 = .ok (.invokevirtual 36, 3) by decide +kernel) (pc' := 31) rfl (by decide +kernel) (by decide +kernel) rfl (ls_2 hL) (by decide +kernel) rfl rfl rfl rfl rfl k
set_option maxRecDepth 4000 in
theorem b_X9_scan_31 {xs : Nat → Int32} {L d : Nat} {S : Nat → Shp} {I : Nat → Nat → Int32} {J : Nat → Nat → Int64} {R : Nat → Nat → Nat} {c : Nat × Nat} {Q : Option (Option Value) → MH → Prop} {x1 sx0 : Int32} {v2 : Value}  (kt : sx0 = 32 → X xs L (d + 1) 83 44 [.ref 4, .int x1, .int sx0] [] (S, I, J, R, c) Q) (kf : ¬ (sx0 = 32) → X xs L (d + 1) 83 38 [.ref 4, .int x1, .int sx0] [] (S, I, J, R, c) Q) : X xs L (d + 1) 83 31 [.ref 4, .int x1, v2] [.int sx0] (S, I, J, R, c) Q := by
  refine X_istore_n (q := 2) (ls' := [.ref 4, .int x1, .int sx0]) (show decode (mB 83) 31 = .ok (.istore_n 2, 1) by decide +kernel) (pc' := 32) rfl rfl rfl ?_
  refine X_iload_n (q := 2) (show decode (mB 83) 32 = .ok (.iload_n 2, 1) by decide +kernel) (pc' := 33) rfl rfl rfl ?_
  refine X_bipush (v := 32) (show decode (mB 83) 33 = .ok (.bipush 32, 2) by decide +kernel) (pc' := 35) rfl (by decide +kernel) ?_
  exact X_icmp_eq (tgt := 44) (show decode (mB 83) 35 = .ok (.if_icmp .eq 9, 3) by decide +kernel) rfl (pc' := 38) rfl kt kf
set_option maxRecDepth 4000 in
theorem b_X9_scan_38 {xs : Nat → Int32} {L d : Nat} {S : Nat → Shp} {I : Nat → Nat → Int32} {J : Nat → Nat → Int64} {R : Nat → Nat → Nat} {c : Nat × Nat} {Q : Option (Option Value) → MH → Prop} {x1 x2 : Int32}  (kt : ¬ x2 = 10 → X xs L (d + 1) 83 50 [.ref 4, .int x1, .int x2] [] (S, I, J, R, c) Q) (kf : ¬ (¬ x2 = 10) → X xs L (d + 1) 83 44 [.ref 4, .int x1, .int x2] [] (S, I, J, R, c) Q) : X xs L (d + 1) 83 38 [.ref 4, .int x1, .int x2] [] (S, I, J, R, c) Q := by
  refine X_iload_n (q := 2) (show decode (mB 83) 38 = .ok (.iload_n 2, 1) by decide +kernel) (pc' := 39) rfl rfl rfl ?_
  refine X_bipush (v := 10) (show decode (mB 83) 39 = .ok (.bipush 10, 2) by decide +kernel) (pc' := 41) rfl (by decide +kernel) ?_
  exact X_icmp_ne (tgt := 50) (show decode (mB 83) 41 = .ok (.if_icmp .ne 9, 3) by decide +kernel) rfl (pc' := 44) rfl kt kf
set_option maxRecDepth 4000 in
theorem b_X9_scan_44 {xs : Nat → Int32} {L d : Nat} {S : Nat → Shp} {I : Nat → Nat → Int32} {J : Nat → Nat → Int64} {R : Nat → Nat → Nat} {c : Nat × Nat} {Q : Option (Option Value) → MH → Prop} {x1 x2 : Int32}  (k : X xs L (d + 1) 83 66 [.ref 4, .int (x1 + 1), .int x2] [] (S, I, J, R, c) Q) : X xs L (d + 1) 83 44 [.ref 4, .int x1, .int x2] [] (S, I, J, R, c) Q := by
  refine X_iinc (q := 1) (v := x1 + 1) (ls' := [.ref 4, .int (x1 + 1), .int x2]) (show decode (mB 83) 44 = .ok (.iinc 1 1, 3) by decide +kernel) (pc' := 47) rfl rfl rfl rfl ?_
  refine X_goto (tgt := 66) (show decode (mB 83) 47 = .ok (.goto 19, 3) by decide +kernel) rfl ?_
  exact k
set_option maxRecDepth 4000 in
theorem b_X9_scan_50 {xs : Nat → Int32} {L d : Nat} {S : Nat → Shp} {I : Nat → Nat → Int32} {J : Nat → Nat → Int64} {R : Nat → Nat → Nat} {c : Nat × Nat} {Q : Option (Option Value) → MH → Prop} {x1 x2 : Int32}  (k : X xs L d 87 0 [.int x2] [] (S, I, J, R, c) (Kc xs L (d + 1) 83 59 [.ref 4, .int x1, .int x2] [.int x1, .ref 4, .int (x1 + 1)] Q)) : X xs L (d + 1) 83 50 [.ref 4, .int x1, .int x2] [] (S, I, J, R, c) Q := by
  refine X_iload_n (q := 1) (show decode (mB 83) 50 = .ok (.iload_n 1, 1) by decide +kernel) (pc' := 51) rfl rfl rfl ?_
  refine X_iconst (v := 1) (show decode (mB 83) 51 = .ok (.iconst 1, 1) by decide +kernel) (pc' := 52) rfl rfl ?_
  refine X_iadd (show decode (mB 83) 52 = .ok (.iadd, 1) by decide +kernel) (pc' := 53) rfl ?_
  refine X_aload_n (q := 0) (show decode (mB 83) 53 = .ok (.aload_n 0, 1) by decide +kernel) (pc' := 54) rfl rfl rfl ?_
  refine X_iload_n (q := 1) (show decode (mB 83) 54 = .ok (.iload_n 1, 1) by decide +kernel) (pc' := 55) rfl rfl rfl ?_
  refine X_iload_n (q := 2) (show decode (mB 83) 55 = .ok (.iload_n 2, 1) by decide +kernel) (pc' := 56) rfl rfl rfl ?_
  exact X_callS (y := 87) (n := 1) (st := [.int x2, .int x1, .ref 4, .int (x1 + 1)]) (as := [.int x2]) (rest := [.int x1, .ref 4, .int (x1 + 1)]) (ls0 := [.int x2]) (show decode (mB 83) 56 = .ok (.invokestatic 40, 3) by decide +kernel) (pc' := 59) rfl (by decide +kernel) (by decide +kernel) rfl rfl rfl rfl rfl rfl rfl rfl k
set_option maxRecDepth 4000 in
theorem b_X9_scan_59 {xs : Nat → Int32} {L d : Nat} {S : Nat → Shp} {I : Nat → Nat → Int32} {J : Nat → Nat → Int64} {R : Nat → Nat → Nat} {c : Nat × Nat} {Q : Option (Option Value) → MH → Prop} {x1 x2 sx0 sx2 sx3 : Int32} (hL : Lay S R)  (k : X xs L d 84 0 [.ref 4, .int sx2, .int sx3, .null, .null, .null, .null] [] (S, I, J, R, c) (Kc xs L (d + 1) 83 62 [.ref 4, .int x1, .int x2] [.int sx0] Q)) : X xs L (d + 1) 83 59 [.ref 4, .int x1, .int x2] [.int sx3, .int sx2, .ref 4, .int sx0] (S, I, J, R, c) Q := by
  exact X_callV (y := 84) (n := 2) (st := [.int sx3, .int sx2, .ref 4, .int sx0]) (as := [.ref 4, .int sx2, .int sx3]) (rest := [.int sx0]) (ls0 := [.ref 4, .int sx2, .int sx3, .null, .null, .null, .null]) (ci := 8) (show decode (mB 83) 59 = .ok (.invokevirtual 43, 3) by decide +kernel) (pc' := 62) rfl (by decide +kernel) (by decide +kernel) rfl (ls_4 hL) (by decide +kernel) rfl rfl rfl rfl rfl k
set_option maxRecDepth 4000 in
theorem b_X9_scan_62 {xs : Nat → Int32} {L d : Nat} {S : Nat → Shp} {I : Nat → Nat → Int32} {J : Nat → Nat → Int64} {R : Nat → Nat → Nat} {c : Nat × Nat} {Q : Option (Option Value) → MH → Prop} {x1 x2 sx0 sx1 : Int32}  (k : X xs L (d + 1) 83 66 [.ref 4, .int (if sx0 < sx1 then sx1 else sx0), .int x2] [] (S, I, J, R, c) Q) : X xs L (d + 1) 83 62 [.ref 4, .int x1, .int x2] [.int sx1, .int sx0] (S, I, J, R, c) Q := by
  refine X_max (show decode (mB 83) 62 = .ok (.invokestatic 47, 3) by decide +kernel) (pc' := 65) rfl (by decide +kernel) ⟨Nat.le_add_left 1 d, Nat.le_of_ble_eq_true rfl⟩ ?_
  refine X_istore_n (q := 1) (ls' := [.ref 4, .int (if sx0 < sx1 then sx1 else sx0), .int x2]) (show decode (mB 83) 65 = .ok (.istore_n 1, 1) by decide +kernel) (pc' := 66) rfl rfl rfl ?_
  exact k
set_option maxRecDepth 4000 in
theorem b_X9_scan_66 {xs : Nat → Int32} {L d : Nat} {S : Nat → Shp} {I : Nat → Nat → Int32} {J : Nat → Nat → Int64} {R : Nat → Nat → Nat} {c : Nat × Nat} {Q : Option (Option Value) → MH → Prop} {x1 x2 : Int32}  (k : X xs L (d + 1) 83 12 [.ref 4, .int x1, .int x2] [] (S, I, J, R, c) Q) : X xs L (d + 1) 83 66 [.ref 4, .int x1, .int x2] [] (S, I, J, R, c) Q := by
  refine X_goto (tgt := 12) (show decode (mB 83) 66 = .ok (.goto (-54), 3) by decide +kernel) rfl ?_
  exact k
set_option maxRecDepth 4000 in
theorem b_X9_scan_69 {xs : Nat → Int32} {L d : Nat} {S : Nat → Shp} {I : Nat → Nat → Int32} {J : Nat → Nat → Int64} {R : Nat → Nat → Nat} {c : Nat × Nat} {Q : Option (Option Value) → MH → Prop} {x1 : Int32} {v2 : Value} (hL : Lay S R) (hb78 : inb (I 4 4) 2001 = true) (hb94 : inb (I 4 4) 2001 = true) (k : Q (some none) (S, (u2 (u2 (u2 I 5 ((I 4 4).toNatClampNeg) 0) 6 ((I 4 4).toNatClampNeg) (I 2 1)) 4 4 ((I 4 4) + 1)), J, R, c)) : X xs L (d + 1) 83 69 [.ref 4, .int x1, v2] [] (S, I, J, R, c) Q := by
  refine X_aload_n (q := 0) (show decode (mB 83) 69 = .ok (.aload_n 0, 1) by decide +kernel) (pc' := 70) rfl rfl rfl ?_
  refine X_getR (ci := 8) (f := 1) (q := 5) (show decode (mB 83) 70 = .ok (.getfield 9, 3) by decide +kernel) (pc' := 73) rfl (ls_4 hL) (by decide +kernel) rfl (lr_4_1 hL) ?_
  refine X_aload_n (q := 0) (show decode (mB 83) 73 = .ok (.aload_n 0, 1) by decide +kernel) (pc' := 74) rfl rfl rfl ?_
  refine X_getI (ci := 8) (f := 4) (x := I 4 4) (show decode (mB 83) 74 = .ok (.getfield 26, 3) by decide +kernel) (pc' := 77) rfl (ls_4 hL) (by decide +kernel) rfl rfl ?_
  refine X_iconst (v := 0) (show decode (mB 83) 77 = .ok (.iconst 0, 1) by decide +kernel) (pc' := 78) rfl rfl ?_
  refine X_iastore (show decode (mB 83) 78 = .ok (.iastore, 1) by decide +kernel) (pc' := 79) rfl (ls_5 hL) hb78 ?_
  refine X_aload_n (q := 0) (show decode (mB 83) 79 = .ok (.aload_n 0, 1) by decide +kernel) (pc' := 80) rfl rfl rfl ?_
  refine X_getR (ci := 8) (f := 2) (q := 6) (show decode (mB 83) 80 = .ok (.getfield 15, 3) by decide +kernel) (pc' := 83) rfl (ls_4 hL) (by decide +kernel) rfl (lr_4_2 hL) ?_
  refine X_aload_n (q := 0) (show decode (mB 83) 83 = .ok (.aload_n 0, 1) by decide +kernel) (pc' := 84) rfl rfl rfl ?_
  refine X_getI (ci := 8) (f := 4) (x := I 4 4) (show decode (mB 83) 84 = .ok (.getfield 26, 3) by decide +kernel) (pc' := 87) rfl (ls_4 hL) (by decide +kernel) rfl (by simp [u2, u1]) ?_
  refine X_aload_n (q := 0) (show decode (mB 83) 87 = .ok (.aload_n 0, 1) by decide +kernel) (pc' := 88) rfl rfl rfl ?_
  refine X_getR (ci := 8) (f := 0) (q := 2) (show decode (mB 83) 88 = .ok (.getfield 22, 3) by decide +kernel) (pc' := 91) rfl (ls_4 hL) (by decide +kernel) rfl (lr_4_0 hL) ?_
  refine X_getI (ci := 7) (f := 1) (x := I 2 1) (show decode (mB 83) 91 = .ok (.getfield 33, 3) by decide +kernel) (pc' := 94) rfl (ls_2 hL) (by decide +kernel) rfl (by simp [u2, u1]) ?_
  refine X_iastore (show decode (mB 83) 94 = .ok (.iastore, 1) by decide +kernel) (pc' := 95) rfl (ls_6 hL) hb94 ?_
  refine X_aload_n (q := 0) (show decode (mB 83) 95 = .ok (.aload_n 0, 1) by decide +kernel) (pc' := 96) rfl rfl rfl ?_
  refine X_dup (show decode (mB 83) 96 = .ok (.dup, 1) by decide +kernel) (pc' := 97) rfl rfl ?_
  refine X_getI (ci := 8) (f := 4) (x := I 4 4) (show decode (mB 83) 97 = .ok (.getfield 26, 3) by decide +kernel) (pc' := 100) rfl (ls_4 hL) (by decide +kernel) rfl (by simp [u2, u1]) ?_
  refine X_iconst (v := 1) (show decode (mB 83) 100 = .ok (.iconst 1, 1) by decide +kernel) (pc' := 101) rfl rfl ?_
  refine X_iadd (show decode (mB 83) 101 = .ok (.iadd, 1) by decide +kernel) (pc' := 102) rfl ?_
  refine X_putI (ci := 8) (f := 4) (show decode (mB 83) 102 = .ok (.putfield 26, 3) by decide +kernel) (pc' := 105) rfl (ls_4 hL) (by decide +kernel) (by decide +kernel) rfl ?_
  exact X_return (show decode (mB 83) 105 = .ok (.return_, 1) by decide +kernel) (by decide +kernel) k
set_option maxRecDepth 4000 in
theorem b_X9_addToken_0 {xs : Nat → Int32} {L d : Nat} {S : Nat → Shp} {I : Nat → Nat → Int32} {J : Nat → Nat → Int64} {R : Nat → Nat → Nat} {c : Nat × Nat} {Q : Option (Option Value) → MH → Prop} {x1 x2 : Int32} (hL : Lay S R)  (k : X xs L d 85 0 [.ref 4, .int x1, .int x2, .null] [] (S, I, J, R, c) (Kc xs L (d + 1) 84 6 [.ref 4, .int x1, .int x2, .null, .null, .null, .null] [] Q)) : X xs L (d + 1) 84 0 [.ref 4, .int x1, .int x2, .null, .null, .null, .null] [] (S, I, J, R, c) Q := by
  refine X_aload_n (q := 0) (show decode (mB 84) 0 = .ok (.aload_n 0, 1) by decide +kernel) (pc' := 1) rfl rfl rfl ?_
  refine X_iload_n (q := 1) (show decode (mB 84) 1 = .ok (.iload_n 1, 1) by decide +kernel) (pc' := 2) rfl rfl rfl ?_
  refine X_iload_n (q := 2) (show decode (mB 84) 2 = .ok (.iload_n 2, 1) by decide +kernel) (pc' := 3) rfl rfl rfl ?_
  exact X_callV (y := 85) (n := 2) (st := [.int x2, .int x1, .ref 4]) (as := [.ref 4, .int x1, .int x2]) (rest := []) (ls0 := [.ref 4, .int x1, .int x2, .null]) (ci := 8) (show decode (mB 84) 3 = .ok (.invokevirtual 52, 3) by decide +kernel) (pc' := 6) rfl (by decide +kernel) (by decide +kernel) rfl (ls_4 hL) (by decide +kernel) rfl rfl rfl rfl rfl k
set_option maxRecDepth 4000 in
theorem b_X9_addToken_6 {xs : Nat → Int32} {L d : Nat} {S : Nat → Shp} {I : Nat → Nat → Int32} {J : Nat → Nat → Int64} {R : Nat → Nat → Nat} {c : Nat × Nat} {Q : Option (Option Value) → MH → Prop} {x1 x2 sx0 : Int32}  (k : X xs L (d + 1) 84 13 [.ref 4, .int x1, .int x2, .int sx0, .long 0, .null, .int x1] [] (S, I, J, R, c) Q) : X xs L (d + 1) 84 6 [.ref 4, .int x1, .int x2, .null, .null, .null, .null] [.int sx0] (S, I, J, R, c) Q := by
  refine X_istore_n (q := 3) (ls' := [.ref 4, .int x1, .int x2, .int sx0, .null, .null, .null]) (show decode (mB 84) 6 = .ok (.istore_n 3, 1) by decide +kernel) (pc' := 7) rfl rfl rfl ?_
  refine X_lconst (v := 0) (show decode (mB 84) 7 = .ok (.lconst 0, 1) by decide +kernel) (pc' := 8) rfl rfl ?_
  refine X_lstore (q := 4) (ls' := [.ref 4, .int x1, .int x2, .int sx0, .long 0, .null, .null]) (show decode (mB 84) 8 = .ok (.lstore 4, 2) by decide +kernel) (pc' := 10) rfl rfl ?_
  refine X_iload_n (q := 1) (show decode (mB 84) 10 = .ok (.iload_n 1, 1) by decide +kernel) (pc' := 11) rfl rfl rfl ?_
  refine X_istore (q := 6) (ls' := [.ref 4, .int x1, .int x2, .int sx0, .long 0, .null, .int x1]) (show decode (mB 84) 11 = .ok (.istore 6, 2) by decide +kernel) (pc' := 13) rfl rfl ?_
  exact k
set_option maxRecDepth 4000 in
theorem b_X9_addToken_13 {xs : Nat → Int32} {L d : Nat} {S : Nat → Shp} {I : Nat → Nat → Int32} {J : Nat → Nat → Int64} {R : Nat → Nat → Nat} {c : Nat × Nat} {Q : Option (Option Value) → MH → Prop} {x1 x2 x3 x6 : Int32} {y4 : Int64}  (kt : x3 ≤ x6 → X xs L (d + 1) 84 43 [.ref 4, .int x1, .int x2, .int x3, .long y4, .null, .int x6] [] (S, I, J, R, c) Q) (kf : ¬ (x3 ≤ x6) → X xs L (d + 1) 84 19 [.ref 4, .int x1, .int x2, .int x3, .long y4, .null, .int x6] [] (S, I, J, R, c) Q) : X xs L (d + 1) 84 13 [.ref 4, .int x1, .int x2, .int x3, .long y4, .null, .int x6] [] (S, I, J, R, c) Q := by
  refine X_iload (q := 6) (show decode (mB 84) 13 = .ok (.iload 6, 2) by decide +kernel) (pc' := 15) rfl rfl ?_
  refine X_iload_n (q := 3) (show decode (mB 84) 15 = .ok (.iload_n 3, 1) by decide +kernel) (pc' := 16) rfl rfl rfl ?_
  exact X_icmp_ge (tgt := 43) (show decode (mB 84) 16 = .ok (.if_icmp .ge 27, 3) by decide +kernel) rfl (pc' := 19) rfl kt kf
set_option maxRecDepth 4000 in
theorem b_X9_addToken_19 {xs : Nat → Int32} {L d : Nat} {S : Nat → Shp} {I : Nat → Nat → Int32} {J : Nat → Nat → Int64} {R : Nat → Nat → Nat} {c : Nat × Nat} {Q : Option (Option Value) → MH → Prop} {x1 x2 x3 x6 : Int32} {y4 : Int64} (hL : Lay S R)  (k : X xs L d 81 0 [.ref 2, .int x6] [] (S, I, J, R, c) (Kc xs L (d + 1) 84 33 [.ref 4, .int x1, .int x2, .int x3, .long y4, .null, .int x6] [.long (y4 <<< ((8 : Int32).toInt64 &&& 63))] Q)) : X xs L (d + 1) 84 19 [.ref 4, .int x1, .int x2, .int x3, .long y4, .null, .int x6] [] (S, I, J, R, c) Q := by
  refine X_lload (q := 4) (show decode (mB 84) 19 = .ok (.lload 4, 2) by decide +kernel) (pc' := 21) rfl rfl ?_
  refine X_bipush (v := 8) (show decode (mB 84) 21 = .ok (.bipush 8, 2) by decide +kernel) (pc' := 23) rfl (by decide +kernel) ?_
  refine X_lshl (show decode (mB 84) 23 = .ok (.lshl, 1) by decide +kernel) (pc' := 24) rfl ?_
  refine X_aload_n (q := 0) (show decode (mB 84) 24 = .ok (.aload_n 0, 1) by decide +kernel) (pc' := 25) rfl rfl rfl ?_
  refine X_getR (ci := 8) (f := 0) (q := 2) (show decode (mB 84) 25 = .ok (.getfield 22, 3) by decide +kernel) (pc' := 28) rfl (ls_4 hL) (by decide +kernel) rfl (lr_4_0 hL) ?_
  refine X_iload (q := 6) (show decode (mB 84) 28 = .ok (.iload 6, 2) by decide +kernel) (pc' := 30) rfl rfl ?_
  exact X_callV (y := 81) (n := 1) (st := [.int x6, .ref 2, .long (y4 <<< ((8 : Int32).toInt64 &&& 63))]) (as := [.ref 2, .int x6]) (rest := [.long (y4 <<< ((8 : Int32).toInt64 &&& 63))]) (ls0 := [.ref 2, .int x6]) (ci := 7) (show decode (mB 84) 30 = .ok (.invokevirtual 36, 3) by decide +kernel) (pc' := 33) rfl (by decide +kernel) (by decide +kernel) rfl (ls_2 hL) (by decide +kernel) rfl rfl rfl rfl rfl k
set_option maxRecDepth 4000 in
theorem b_X9_addToken_33 {xs : Nat → Int32} {L d : Nat} {S : Nat → Shp} {I : Nat → Nat → Int32} {J : Nat → Nat → Int64} {R : Nat → Nat → Nat} {c : Nat × Nat} {Q : Option (Option Value) → MH → Prop} {x1 x2 x3 x6 sx1 : Int32} {y4 sy0 : Int64}  (k : X xs L (d + 1) 84 13 [.ref 4, .int x1, .int x2, .int x3, .long (sy0 ||| (sx1.toInt64)), .null, .int (x6 + 1)] [] (S, I, J, R, c) Q) : X xs L (d + 1) 84 33 [.ref 4, .int x1, .int x2, .int x3, .long y4, .null, .int x6] [.int sx1, .long sy0] (S, I, J, R, c) Q := by
  refine X_i2l (show decode (mB 84) 33 = .ok (.i2l, 1) by decide +kernel) (pc' := 34) rfl ?_
  refine X_lor (show decode (mB 84) 34 = .ok (.lor, 1) by decide +kernel) (pc' := 35) rfl ?_
  refine X_lstore (q := 4) (ls' := [.ref 4, .int x1, .int x2, .int x3, .long (sy0 ||| (sx1.toInt64)), .null, .int x6]) (show decode (mB 84) 35 = .ok (.lstore 4, 2) by decide +kernel) (pc' := 37) rfl rfl ?_
  refine X_iinc (q := 6) (v := x6 + 1) (ls' := [.ref 4, .int x1, .int x2, .int x3, .long (sy0 ||| (sx1.toInt64)), .null, .int (x6 + 1)]) (show decode (mB 84) 37 = .ok (.iinc 6 1, 3) by decide +kernel) (pc' := 40) rfl rfl rfl rfl ?_
  refine X_goto (tgt := 13) (show decode (mB 84) 40 = .ok (.goto (-27), 3) by decide +kernel) rfl ?_
  exact k
set_option maxRecDepth 4000 in
theorem b_X9_addToken_43 {xs : Nat → Int32} {L d : Nat} {S : Nat → Shp} {I : Nat → Nat → Int32} {J : Nat → Nat → Int64} {R : Nat → Nat → Nat} {c : Nat × Nat} {Q : Option (Option Value) → MH → Prop} {x1 x2 x3 x6 : Int32} {y4 : Int64} (hL : Lay S R) (hb52 : inb (I 4 4) 2001 = true) (k : X xs L d 88 0 [.int x2] [] (S, (u2 I 5 ((I 4 4).toNatClampNeg) x2), J, R, c) (Kc xs L (d + 1) 84 60 [.ref 4, .int x1, .int x2, .int x3, .long y4, .null, .int x6] [.int (x3 - x1)] Q)) : X xs L (d + 1) 84 43 [.ref 4, .int x1, .int x2, .int x3, .long y4, .null, .int x6] [] (S, I, J, R, c) Q := by
  refine X_aload_n (q := 0) (show decode (mB 84) 43 = .ok (.aload_n 0, 1) by decide +kernel) (pc' := 44) rfl rfl rfl ?_
  refine X_getR (ci := 8) (f := 1) (q := 5) (show decode (mB 84) 44 = .ok (.getfield 9, 3) by decide +kernel) (pc' := 47) rfl (ls_4 hL) (by decide +kernel) rfl (lr_4_1 hL) ?_
  refine X_aload_n (q := 0) (show decode (mB 84) 47 = .ok (.aload_n 0, 1) by decide +kernel) (pc' := 48) rfl rfl rfl ?_
  refine X_getI (ci := 8) (f := 4) (x := I 4 4) (show decode (mB 84) 48 = .ok (.getfield 26, 3) by decide +kernel) (pc' := 51) rfl (ls_4 hL) (by decide +kernel) rfl rfl ?_
  refine X_iload_n (q := 2) (show decode (mB 84) 51 = .ok (.iload_n 2, 1) by decide +kernel) (pc' := 52) rfl rfl rfl ?_
  refine X_iastore (show decode (mB 84) 52 = .ok (.iastore, 1) by decide +kernel) (pc' := 53) rfl (ls_5 hL) hb52 ?_
  refine X_iload_n (q := 3) (show decode (mB 84) 53 = .ok (.iload_n 3, 1) by decide +kernel) (pc' := 54) rfl rfl rfl ?_
  refine X_iload_n (q := 1) (show decode (mB 84) 54 = .ok (.iload_n 1, 1) by decide +kernel) (pc' := 55) rfl rfl rfl ?_
  refine X_isub (show decode (mB 84) 55 = .ok (.isub, 1) by decide +kernel) (pc' := 56) rfl ?_
  refine X_iload_n (q := 2) (show decode (mB 84) 56 = .ok (.iload_n 2, 1) by decide +kernel) (pc' := 57) rfl rfl rfl ?_
  exact X_callS (y := 88) (n := 1) (st := [.int x2, .int (x3 - x1)]) (as := [.int x2]) (rest := [.int (x3 - x1)]) (ls0 := [.int x2]) (show decode (mB 84) 57 = .ok (.invokestatic 55, 3) by decide +kernel) (pc' := 60) rfl (by decide +kernel) (by decide +kernel) rfl rfl rfl rfl rfl rfl rfl rfl k
set_option maxRecDepth 4000 in
theorem b_X9_addToken_60 {xs : Nat → Int32} {L d : Nat} {S : Nat → Shp} {I : Nat → Nat → Int32} {J : Nat → Nat → Int64} {R : Nat → Nat → Nat} {c : Nat × Nat} {Q : Option (Option Value) → MH → Prop} {x1 x2 x3 x6 sx0 sx1 : Int32} {y4 : Int64}  (kt : sx0 ≤ sx1 → X xs L (d + 1) 84 76 [.ref 4, .int x1, .int x2, .int x3, .long y4, .null, .int x6] [] (S, I, J, R, c) Q) (kf : ¬ (sx0 ≤ sx1) → X xs L (d + 1) 84 63 [.ref 4, .int x1, .int x2, .int x3, .long y4, .null, .int x6] [] (S, I, J, R, c) Q) : X xs L (d + 1) 84 60 [.ref 4, .int x1, .int x2, .int x3, .long y4, .null, .int x6] [.int sx1, .int sx0] (S, I, J, R, c) Q := by
  exact X_icmp_le (tgt := 76) (show decode (mB 84) 60 = .ok (.if_icmp .le 16, 3) by decide +kernel) rfl (pc' := 63) rfl kt kf
set_option maxRecDepth 4000 in
theorem b_X9_addToken_63 {xs : Nat → Int32} {L d : Nat} {S : Nat → Shp} {I : Nat → Nat → Int32} {J : Nat → Nat → Int64} {R : Nat → Nat → Nat} {c : Nat × Nat} {Q : Option (Option Value) → MH → Prop} {x1 x2 x3 x6 : Int32} {y4 : Int64} (hL : Lay S R) (hb72 : inb (I 4 4) 2001 = true) (k : X xs L (d + 1) 84 99 [.ref 4, .int x1, .int x2, .int x3, .long y4, .null, .int x6] [] (S, (u2 I 5 ((I 4 4).toNatClampNeg) 1), J, R, c) Q) : X xs L (d + 1) 84 63 [.ref 4, .int x1, .int x2, .int x3, .long y4, .null, .int x6] [] (S, I, J, R, c) Q := by
  refine X_aload_n (q := 0) (show decode (mB 84) 63 = .ok (.aload_n 0, 1) by decide +kernel) (pc' := 64) rfl rfl rfl ?_
  refine X_getR (ci := 8) (f := 1) (q := 5) (show decode (mB 84) 64 = .ok (.getfield 9, 3) by decide +kernel) (pc' := 67) rfl (ls_4 hL) (by decide +kernel) rfl (lr_4_1 hL) ?_
  refine X_aload_n (q := 0) (show decode (mB 84) 67 = .ok (.aload_n 0, 1) by decide +kernel) (pc' := 68) rfl rfl rfl ?_
  refine X_getI (ci := 8) (f := 4) (x := I 4 4) (show decode (mB 84) 68 = .ok (.getfield 26, 3) by decide +kernel) (pc' := 71) rfl (ls_4 hL) (by decide +kernel) rfl rfl ?_
  refine X_iconst (v := 1) (show decode (mB 84) 71 = .ok (.iconst 1, 1) by decide +kernel) (pc' := 72) rfl rfl ?_
  refine X_iastore (show decode (mB 84) 72 = .ok (.iastore, 1) by decide +kernel) (pc' := 73) rfl (ls_5 hL) hb72 ?_
  refine X_goto (tgt := 99) (show decode (mB 84) 73 = .ok (.goto 26, 3) by decide +kernel) rfl ?_
  exact k
set_option maxRecDepth 4000 in
theorem b_X9_addToken_76 {xs : Nat → Int32} {L d : Nat} {S : Nat → Shp} {I : Nat → Nat → Int32} {J : Nat → Nat → Int64} {R : Nat → Nat → Nat} {c : Nat × Nat} {Q : Option (Option Value) → MH → Prop} {x1 x2 x3 x6 : Int32} {y4 : Int64}  (kt : ¬ x2 = 2 → X xs L (d + 1) 84 99 [.ref 4, .int x1, .int x2, .int x3, .long y4, .null, .int x6] [] (S, I, J, R, c) Q) (kf : ¬ (¬ x2 = 2) → X xs L (d + 1) 84 81 [.ref 4, .int x1, .int x2, .int x3, .long y4, .null, .int x6] [] (S, I, J, R, c) Q) : X xs L (d + 1) 84 76 [.ref 4, .int x1, .int x2, .int x3, .long y4, .null, .int x6] [] (S, I, J, R, c) Q := by
  refine X_iload_n (q := 2) (show decode (mB 84) 76 = .ok (.iload_n 2, 1) by decide +kernel) (pc' := 77) rfl rfl rfl ?_
  refine X_iconst (v := 2) (show decode (mB 84) 77 = .ok (.iconst 2, 1) by decide +kernel) (pc' := 78) rfl rfl ?_
  exact X_icmp_ne (tgt := 99) (show decode (mB 84) 78 = .ok (.if_icmp .ne 21, 3) by decide +kernel) rfl (pc' := 81) rfl kt kf
set_option maxRecDepth 4000 in
theorem b_X9_addToken_81 {xs : Nat → Int32} {L d : Nat} {S : Nat → Shp} {I : Nat → Nat → Int32} {J : Nat → Nat → Int64} {R : Nat → Nat → Nat} {c : Nat × Nat} {Q : Option (Option Value) → MH → Prop} {x1 x2 x3 x6 : Int32} {y4 : Int64}  (k : X xs L d 89 0 [.long y4, .null] [] (S, I, J, R, c) (Kc xs L (d + 1) 84 86 [.ref 4, .int x1, .int x2, .int x3, .long y4, .null, .int x6] [] Q)) : X xs L (d + 1) 84 81 [.ref 4, .int x1, .int x2, .int x3, .long y4, .null, .int x6] [] (S, I, J, R, c) Q := by
  refine X_lload (q := 4) (show decode (mB 84) 81 = .ok (.lload 4, 2) by decide +kernel) (pc' := 83) rfl rfl ?_
  exact X_callS (y := 89) (n := 1) (st := [.long y4]) (as := [.long y4]) (rest := []) (ls0 := [.long y4, .null]) (show decode (mB 84) 83 = .ok (.invokestatic 58, 3) by decide +kernel) (pc' := 86) rfl (by decide +kernel) (by decide +kernel) rfl rfl rfl rfl rfl rfl rfl rfl k
set_option maxRecDepth 4000 in
theorem b_X9_addToken_86 {xs : Nat → Int32} {L d : Nat} {S : Nat → Shp} {I : Nat → Nat → Int32} {J : Nat → Nat → Int64} {R : Nat → Nat → Nat} {c : Nat × Nat} {Q : Option (Option Value) → MH → Prop} {x1 x2 x3 x6 sx0 : Int32} {y4 : Int64}  (kt : sx0 = 0 → X xs L (d + 1) 84 99 [.ref 4, .int x1, .int x2, .int x3, .long y4, .null, .int x6] [] (S, I, J, R, c) Q) (kf : ¬ (sx0 = 0) → X xs L (d + 1) 84 89 [.ref 4, .int x1, .int x2, .int x3, .long y4, .null, .int x6] [] (S, I, J, R, c) Q) : X xs L (d + 1) 84 86 [.ref 4, .int x1, .int x2, .int x3, .long y4, .null, .int x6] [.int sx0] (S, I, J, R, c) Q := by
  exact X_if_eq (tgt := 99) (show decode (mB 84) 86 = .ok (.ifCond .eq 13, 3) by decide +kernel) rfl (pc' := 89) rfl kt kf
set_option maxRecDepth 4000 in
theorem b_X9_addToken_89 {xs : Nat → Int32} {L d : Nat} {S : Nat → Shp} {I : Nat → Nat → Int32} {J : Nat → Nat → Int64} {R : Nat → Nat → Nat} {c : Nat × Nat} {Q : Option (Option Value) → MH → Prop} {x1 x2 x3 x6 : Int32} {y4 : Int64} (hL : Lay S R) (hb98 : inb (I 4 4) 2001 = true) (k : X xs L (d + 1) 84 99 [.ref 4, .int x1, .int x2, .int x3, .long y4, .null, .int x6] [] (S, (u2 I 5 ((I 4 4).toNatClampNeg) 3), J, R, c) Q) : X xs L (d + 1) 84 89 [.ref 4, .int x1, .int x2, .int x3, .long y4, .null, .int x6] [] (S, I, J, R, c) Q := by
  refine X_aload_n (q := 0) (show decode (mB 84) 89 = .ok (.aload_n 0, 1) by decide +kernel) (pc' := 90) rfl rfl rfl ?_
  refine X_getR (ci := 8) (f := 1) (q := 5) (show decode (mB 84) 90 = .ok (.getfield 9, 3) by decide +kernel) (pc' := 93) rfl (ls_4 hL) (by decide +kernel) rfl (lr_4_1 hL) ?_
  refine X_aload_n (q := 0) (show decode (mB 84) 93 = .ok (.aload_n 0, 1) by decide +kernel) (pc' := 94) rfl rfl rfl ?_
  refine X_getI (ci := 8) (f := 4) (x := I 4 4) (show decode (mB 84) 94 = .ok (.getfield 26, 3) by decide +kernel) (pc' := 97) rfl (ls_4 hL) (by decide +kernel) rfl rfl ?_
  refine X_iconst (v := 3) (show decode (mB 84) 97 = .ok (.iconst 3, 1) by decide +kernel) (pc' := 98) rfl rfl ?_
  refine X_iastore (show decode (mB 84) 98 = .ok (.iastore, 1) by decide +kernel) (pc' := 99) rfl (ls_5 hL) hb98 ?_
  exact k
set_option maxRecDepth 4000 in
theorem b_X9_addToken_99 {xs : Nat → Int32} {L d : Nat} {S : Nat → Shp} {I : Nat → Nat → Int32} {J : Nat → Nat → Int64} {R : Nat → Nat → Nat} {c : Nat × Nat} {Q : Option (Option Value) → MH → Prop} {x1 x2 x3 x6 : Int32} {y4 : Int64} (hL : Lay S R) (hb108 : inb (I 4 4) 2001 = true) (hb119 : inb (I 4 4) 2001 = true) (k : Q (some (some (.int x3))) (S, (u2 (u2 I 6 ((I 4 4).toNatClampNeg) x1) 4 4 ((I 4 4) + 1)), (u2 J 7 ((I 4 4).toNatClampNeg) y4), R, c)) : X xs L (d + 1) 84 99 [.ref 4, .int x1, .int x2, .int x3, .long y4, .null, .int x6] [] (S, I, J, R, c) Q := by
  refine X_aload_n (q := 0) (show decode (mB 84) 99 = .ok (.aload_n 0, 1) by decide +kernel) (pc' := 100) rfl rfl rfl ?_
  refine X_getR (ci := 8) (f := 2) (q := 6) (show decode (mB 84) 100 = .ok (.getfield 15, 3) by decide +kernel) (pc' := 103) rfl (ls_4 hL) (by decide +kernel) rfl (lr_4_2 hL) ?_
  refine X_aload_n (q := 0) (show decode (mB 84) 103 = .ok (.aload_n 0, 1) by decide +kernel) (pc' := 104) rfl rfl rfl ?_
  refine X_getI (ci := 8) (f := 4) (x := I 4 4) (show decode (mB 84) 104 = .ok (.getfield 26, 3) by decide +kernel) (pc' := 107) rfl (ls_4 hL) (by decide +kernel) rfl rfl ?_
  refine X_iload_n (q := 1) (show decode (mB 84) 107 = .ok (.iload_n 1, 1) by decide +kernel) (pc' := 108) rfl rfl rfl ?_
  refine X_iastore (show decode (mB 84) 108 = .ok (.iastore, 1) by decide +kernel) (pc' := 109) rfl (ls_6 hL) hb108 ?_
  refine X_aload_n (q := 0) (show decode (mB 84) 109 = .ok (.aload_n 0, 1) by decide +kernel) (pc' := 110) rfl rfl rfl ?_
  refine X_getR (ci := 8) (f := 3) (q := 7) (show decode (mB 84) 110 = .ok (.getfield 18, 3) by decide +kernel) (pc' := 113) rfl (ls_4 hL) (by decide +kernel) rfl (lr_4_3 hL) ?_
  refine X_aload_n (q := 0) (show decode (mB 84) 113 = .ok (.aload_n 0, 1) by decide +kernel) (pc' := 114) rfl rfl rfl ?_
  refine X_getI (ci := 8) (f := 4) (x := I 4 4) (show decode (mB 84) 114 = .ok (.getfield 26, 3) by decide +kernel) (pc' := 117) rfl (ls_4 hL) (by decide +kernel) rfl (by simp [u2, u1]) ?_
  refine X_lload (q := 4) (show decode (mB 84) 117 = .ok (.lload 4, 2) by decide +kernel) (pc' := 119) rfl rfl ?_
  refine X_lastore (show decode (mB 84) 119 = .ok (.lastore, 1) by decide +kernel) (pc' := 120) rfl (ls_7 hL) hb119 ?_
  refine X_aload_n (q := 0) (show decode (mB 84) 120 = .ok (.aload_n 0, 1) by decide +kernel) (pc' := 121) rfl rfl rfl ?_
  refine X_dup (show decode (mB 84) 121 = .ok (.dup, 1) by decide +kernel) (pc' := 122) rfl rfl ?_
  refine X_getI (ci := 8) (f := 4) (x := I 4 4) (show decode (mB 84) 122 = .ok (.getfield 26, 3) by decide +kernel) (pc' := 125) rfl (ls_4 hL) (by decide +kernel) rfl (by simp [u2, u1]) ?_
  refine X_iconst (v := 1) (show decode (mB 84) 125 = .ok (.iconst 1, 1) by decide +kernel) (pc' := 126) rfl rfl ?_
  refine X_iadd (show decode (mB 84) 126 = .ok (.iadd, 1) by decide +kernel) (pc' := 127) rfl ?_
  refine X_putI (ci := 8) (f := 4) (show decode (mB 84) 127 = .ok (.putfield 26, 3) by decide +kernel) (pc' := 130) rfl (ls_4 hL) (by decide +kernel) (by decide +kernel) rfl ?_
  refine X_iload_n (q := 3) (show decode (mB 84) 130 = .ok (.iload_n 3, 1) by decide +kernel) (pc' := 131) rfl rfl rfl ?_
  exact X_ireturn (ty := .int) (show decode (mB 84) 131 = .ok (.ireturn, 1) by decide +kernel) (by decide +kernel) rfl k
set_option maxRecDepth 4000 in
theorem b_X9_stopOf_0 {xs : Nat → Int32} {L d : Nat} {S : Nat → Shp} {I : Nat → Nat → Int32} {J : Nat → Nat → Int64} {R : Nat → Nat → Nat} {c : Nat × Nat} {Q : Option (Option Value) → MH → Prop} {x1 x2 : Int32}  (k : X xs L (d + 1) 85 4 [.ref 4, .int x1, .int x2, .int (x1 + 1)] [] (S, I, J, R, c) Q) : X xs L (d + 1) 85 0 [.ref 4, .int x1, .int x2, .null] [] (S, I, J, R, c) Q := by
  refine X_iload_n (q := 1) (show decode (mB 85) 0 = .ok (.iload_n 1, 1) by decide +kernel) (pc' := 1) rfl rfl rfl ?_
  refine X_iconst (v := 1) (show decode (mB 85) 1 = .ok (.iconst 1, 1) by decide +kernel) (pc' := 2) rfl rfl ?_
  refine X_iadd (show decode (mB 85) 2 = .ok (.iadd, 1) by decide +kernel) (pc' := 3) rfl ?_
  refine X_istore_n (q := 3) (ls' := [.ref 4, .int x1, .int x2, .int (x1 + 1)]) (show decode (mB 85) 3 = .ok (.istore_n 3, 1) by decide +kernel) (pc' := 4) rfl rfl rfl ?_
  exact k
set_option maxRecDepth 4000 in
theorem b_X9_stopOf_4 {xs : Nat → Int32} {L d : Nat} {S : Nat → Shp} {I : Nat → Nat → Int32} {J : Nat → Nat → Int64} {R : Nat → Nat → Nat} {c : Nat × Nat} {Q : Option (Option Value) → MH → Prop} {x1 x2 x3 : Int32} (hL : Lay S R)  (kt : (I 2 1) ≤ x3 → X xs L (d + 1) 85 36 [.ref 4, .int x1, .int x2, .int x3] [] (S, I, J, R, c) Q) (kf : ¬ ((I 2 1) ≤ x3) → X xs L (d + 1) 85 15 [.ref 4, .int x1, .int x2, .int x3] [] (S, I, J, R, c) Q) : X xs L (d + 1) 85 4 [.ref 4, .int x1, .int x2, .int x3] [] (S, I, J, R, c) Q := by
  refine X_iload_n (q := 3) (show decode (mB 85) 4 = .ok (.iload_n 3, 1) by decide +kernel) (pc' := 5) rfl rfl rfl ?_
  refine X_aload_n (q := 0) (show decode (mB 85) 5 = .ok (.aload_n 0, 1) by decide +kernel) (pc' := 6) rfl rfl rfl ?_
  refine X_getR (ci := 8) (f := 0) (q := 2) (show decode (mB 85) 6 = .ok (.getfield 22, 3) by decide +kernel) (pc' := 9) rfl (ls_4 hL) (by decide +kernel) rfl (lr_4_0 hL) ?_
  refine X_getI (ci := 7) (f := 1) (x := I 2 1) (show decode (mB 85) 9 = .ok (.getfield 33, 3) by decide +kernel) (pc' := 12) rfl (ls_2 hL) (by decide +kernel) rfl rfl ?_
  exact X_icmp_ge (tgt := 36) (show decode (mB 85) 12 = .ok (.if_icmp .ge 24, 3) by decide +kernel) rfl (pc' := 15) rfl kt kf
set_option maxRecDepth 4000 in
theorem b_X9_stopOf_15 {xs : Nat → Int32} {L d : Nat} {S : Nat → Shp} {I : Nat → Nat → Int32} {J : Nat → Nat → Int64} {R : Nat → Nat → Nat} {c : Nat × Nat} {Q : Option (Option Value) → MH → Prop} {x1 x2 x3 : Int32} (hL : Lay S R)  (k : X xs L d 81 0 [.ref 2, .int x3] [] (S, I, J, R, c) (Kc xs L (d + 1) 85 24 [.ref 4, .int x1, .int x2, .int x3] [.int x2] Q)) : X xs L (d + 1) 85 15 [.ref 4, .int x1, .int x2, .int x3] [] (S, I, J, R, c) Q := by
  refine X_iload_n (q := 2) (show decode (mB 85) 15 = .ok (.iload_n 2, 1) by decide +kernel) (pc' := 16) rfl rfl rfl ?_
  refine X_aload_n (q := 0) (show decode (mB 85) 16 = .ok (.aload_n 0, 1) by decide +kernel) (pc' := 17) rfl rfl rfl ?_
  refine X_getR (ci := 8) (f := 0) (q := 2) (show decode (mB 85) 17 = .ok (.getfield 22, 3) by decide +kernel) (pc' := 20) rfl (ls_4 hL) (by decide +kernel) rfl (lr_4_0 hL) ?_
  refine X_iload_n (q := 3) (show decode (mB 85) 20 = .ok (.iload_n 3, 1) by decide +kernel) (pc' := 21) rfl rfl rfl ?_
  exact X_callV (y := 81) (n := 1) (st := [.int x3, .ref 2, .int x2]) (as := [.ref 2, .int x3]) (rest := [.int x2]) (ls0 := [.ref 2, .int x3]) (ci := 7) (show decode (mB 85) 21 = .ok (.invokevirtual 36, 3) by decide +kernel) (pc' := 24) rfl (by decide +kernel) (by decide +kernel) rfl (ls_2 hL) (by decide +kernel) rfl rfl rfl rfl rfl k
set_option maxRecDepth 4000 in
theorem b_X9_stopOf_24 {xs : Nat → Int32} {L d : Nat} {S : Nat → Shp} {I : Nat → Nat → Int32} {J : Nat → Nat → Int64} {R : Nat → Nat → Nat} {c : Nat × Nat} {Q : Option (Option Value) → MH → Prop} {x1 x2 x3 sx0 sx1 : Int32}  (k : X xs L d 86 0 [.int sx0, .int sx1] [] (S, I, J, R, c) (Kc xs L (d + 1) 85 27 [.ref 4, .int x1, .int x2, .int x3] [] Q)) : X xs L (d + 1) 85 24 [.ref 4, .int x1, .int x2, .int x3] [.int sx1, .int sx0] (S, I, J, R, c) Q := by
  exact X_callS (y := 86) (n := 2) (st := [.int sx1, .int sx0]) (as := [.int sx0, .int sx1]) (rest := []) (ls0 := [.int sx0, .int sx1]) (show decode (mB 85) 24 = .ok (.invokestatic 62, 3) by decide +kernel) (pc' := 27) rfl (by decide +kernel) (by decide +kernel) rfl rfl rfl rfl rfl rfl rfl rfl k
set_option maxRecDepth 4000 in
theorem b_X9_stopOf_27 {xs : Nat → Int32} {L d : Nat} {S : Nat → Shp} {I : Nat → Nat → Int32} {J : Nat → Nat → Int64} {R : Nat → Nat → Nat} {c : Nat × Nat} {Q : Option (Option Value) → MH → Prop} {x1 x2 x3 sx0 : Int32}  (kt : sx0 = 0 → X xs L (d + 1) 85 36 [.ref 4, .int x1, .int x2, .int x3] [] (S, I, J, R, c) Q) (kf : ¬ (sx0 = 0) → X xs L (d + 1) 85 30 [.ref 4, .int x1, .int x2, .int x3] [] (S, I, J, R, c) Q) : X xs L (d + 1) 85 27 [.ref 4, .int x1, .int x2, .int x3] [.int sx0] (S, I, J, R, c) Q := by
  exact X_if_eq (tgt := 36) (show decode (mB 85) 27 = .ok (.ifCond .eq 9, 3) by decide +kernel) rfl (pc' := 30) rfl kt kf
set_option maxRecDepth 4000 in
theorem b_X9_stopOf_30 {xs : Nat → Int32} {L d : Nat} {S : Nat → Shp} {I : Nat → Nat → Int32} {J : Nat → Nat → Int64} {R : Nat → Nat → Nat} {c : Nat × Nat} {Q : Option (Option Value) → MH → Prop} {x1 x2 x3 : Int32}  (k : X xs L (d + 1) 85 4 [.ref 4, .int x1, .int x2, .int (x3 + 1)] [] (S, I, J, R, c) Q) : X xs L (d + 1) 85 30 [.ref 4, .int x1, .int x2, .int x3] [] (S, I, J, R, c) Q := by
  refine X_iinc (q := 3) (v := x3 + 1) (ls' := [.ref 4, .int x1, .int x2, .int (x3 + 1)]) (show decode (mB 85) 30 = .ok (.iinc 3 1, 3) by decide +kernel) (pc' := 33) rfl rfl rfl rfl ?_
  refine X_goto (tgt := 4) (show decode (mB 85) 33 = .ok (.goto (-29), 3) by decide +kernel) rfl ?_
  exact k
set_option maxRecDepth 4000 in
theorem b_X9_stopOf_36 {xs : Nat → Int32} {L d : Nat} {S : Nat → Shp} {I : Nat → Nat → Int32} {J : Nat → Nat → Int64} {R : Nat → Nat → Nat} {c : Nat × Nat} {Q : Option (Option Value) → MH → Prop} {x1 x2 x3 : Int32}  (k : Q (some (some (.int x3))) (S, I, J, R, c)) : X xs L (d + 1) 85 36 [.ref 4, .int x1, .int x2, .int x3] [] (S, I, J, R, c) Q := by
  refine X_iload_n (q := 3) (show decode (mB 85) 36 = .ok (.iload_n 3, 1) by decide +kernel) (pc' := 37) rfl rfl rfl ?_
  exact X_ireturn (ty := .int) (show decode (mB 85) 37 = .ok (.ireturn, 1) by decide +kernel) (by decide +kernel) rfl k
set_option maxRecDepth 4000 in
theorem b_X9_goesOn_0 {xs : Nat → Int32} {L d : Nat} {S : Nat → Shp} {I : Nat → Nat → Int32} {J : Nat → Nat → Int64} {R : Nat → Nat → Nat} {c : Nat × Nat} {Q : Option (Option Value) → MH → Prop} {x0 x1 : Int32}  (kt : ¬ x0 = 2 → X xs L (d + 1) 86 31 [.int x0, .int x1] [] (S, I, J, R, c) Q) (kf : ¬ (¬ x0 = 2) → X xs L (d + 1) 86 5 [.int x0, .int x1] [] (S, I, J, R, c) Q) : X xs L (d + 1) 86 0 [.int x0, .int x1] [] (S, I, J, R, c) Q := by
  refine X_iload_n (q := 0) (show decode (mB 86) 0 = .ok (.iload_n 0, 1) by decide +kernel) (pc' := 1) rfl rfl rfl ?_
  refine X_iconst (v := 2) (show decode (mB 86) 1 = .ok (.iconst 2, 1) by decide +kernel) (pc' := 2) rfl rfl ?_
  exact X_icmp_ne (tgt := 31) (show decode (mB 86) 2 = .ok (.if_icmp .ne 29, 3) by decide +kernel) rfl (pc' := 5) rfl kt kf
set_option maxRecDepth 4000 in
theorem b_X9_goesOn_5 {xs : Nat → Int32} {L d : Nat} {S : Nat → Shp} {I : Nat → Nat → Int32} {J : Nat → Nat → Int64} {R : Nat → Nat → Nat} {c : Nat × Nat} {Q : Option (Option Value) → MH → Prop} {x0 x1 : Int32}  (k : X xs L d 90 0 [.int x1] [] (S, I, J, R, c) (Kc xs L (d + 1) 86 9 [.int x0, .int x1] [] Q)) : X xs L (d + 1) 86 5 [.int x0, .int x1] [] (S, I, J, R, c) Q := by
  refine X_iload_n (q := 1) (show decode (mB 86) 5 = .ok (.iload_n 1, 1) by decide +kernel) (pc' := 6) rfl rfl rfl ?_
  exact X_callS (y := 90) (n := 1) (st := [.int x1]) (as := [.int x1]) (rest := []) (ls0 := [.int x1]) (show decode (mB 86) 6 = .ok (.invokestatic 66, 3) by decide +kernel) (pc' := 9) rfl (by decide +kernel) (by decide +kernel) rfl rfl rfl rfl rfl rfl rfl rfl k
set_option maxRecDepth 4000 in
theorem b_X9_goesOn_9 {xs : Nat → Int32} {L d : Nat} {S : Nat → Shp} {I : Nat → Nat → Int32} {J : Nat → Nat → Int64} {R : Nat → Nat → Nat} {c : Nat × Nat} {Q : Option (Option Value) → MH → Prop} {x0 x1 sx0 : Int32}  (kt : ¬ sx0 = 0 → X xs L (d + 1) 86 25 [.int x0, .int x1] [] (S, I, J, R, c) Q) (kf : ¬ (¬ sx0 = 0) → X xs L (d + 1) 86 12 [.int x0, .int x1] [] (S, I, J, R, c) Q) : X xs L (d + 1) 86 9 [.int x0, .int x1] [.int sx0] (S, I, J, R, c) Q := by
  exact X_if_ne (tgt := 25) (show decode (mB 86) 9 = .ok (.ifCond .ne 16, 3) by decide +kernel) rfl (pc' := 12) rfl kt kf
set_option maxRecDepth 4000 in
theorem b_X9_goesOn_12 {xs : Nat → Int32} {L d : Nat} {S : Nat → Shp} {I : Nat → Nat → Int32} {J : Nat → Nat → Int64} {R : Nat → Nat → Nat} {c : Nat × Nat} {Q : Option (Option Value) → MH → Prop} {x0 x1 : Int32}  (k : X xs L d 92 0 [.int x1] [] (S, I, J, R, c) (Kc xs L (d + 1) 86 16 [.int x0, .int x1] [] Q)) : X xs L (d + 1) 86 12 [.int x0, .int x1] [] (S, I, J, R, c) Q := by
  refine X_iload_n (q := 1) (show decode (mB 86) 12 = .ok (.iload_n 1, 1) by decide +kernel) (pc' := 13) rfl rfl rfl ?_
  exact X_callS (y := 92) (n := 1) (st := [.int x1]) (as := [.int x1]) (rest := []) (ls0 := [.int x1]) (show decode (mB 86) 13 = .ok (.invokestatic 70, 3) by decide +kernel) (pc' := 16) rfl (by decide +kernel) (by decide +kernel) rfl rfl rfl rfl rfl rfl rfl rfl k
set_option maxRecDepth 4000 in
theorem b_X9_goesOn_16 {xs : Nat → Int32} {L d : Nat} {S : Nat → Shp} {I : Nat → Nat → Int32} {J : Nat → Nat → Int64} {R : Nat → Nat → Nat} {c : Nat × Nat} {Q : Option (Option Value) → MH → Prop} {x0 x1 sx0 : Int32}  (kt : ¬ sx0 = 0 → X xs L (d + 1) 86 25 [.int x0, .int x1] [] (S, I, J, R, c) Q) (kf : ¬ (¬ sx0 = 0) → X xs L (d + 1) 86 19 [.int x0, .int x1] [] (S, I, J, R, c) Q) : X xs L (d + 1) 86 16 [.int x0, .int x1] [.int sx0] (S, I, J, R, c) Q := by
  exact X_if_ne (tgt := 25) (show decode (mB 86) 16 = .ok (.ifCond .ne 9, 3) by decide +kernel) rfl (pc' := 19) rfl kt kf
set_option maxRecDepth 4000 in
theorem b_X9_goesOn_19 {xs : Nat → Int32} {L d : Nat} {S : Nat → Shp} {I : Nat → Nat → Int32} {J : Nat → Nat → Int64} {R : Nat → Nat → Nat} {c : Nat × Nat} {Q : Option (Option Value) → MH → Prop} {x0 x1 : Int32}  (kt : ¬ x1 = 95 → X xs L (d + 1) 86 29 [.int x0, .int x1] [] (S, I, J, R, c) Q) (kf : ¬ (¬ x1 = 95) → X xs L (d + 1) 86 25 [.int x0, .int x1] [] (S, I, J, R, c) Q) : X xs L (d + 1) 86 19 [.int x0, .int x1] [] (S, I, J, R, c) Q := by
  refine X_iload_n (q := 1) (show decode (mB 86) 19 = .ok (.iload_n 1, 1) by decide +kernel) (pc' := 20) rfl rfl rfl ?_
  refine X_bipush (v := 95) (show decode (mB 86) 20 = .ok (.bipush 95, 2) by decide +kernel) (pc' := 22) rfl (by decide +kernel) ?_
  exact X_icmp_ne (tgt := 29) (show decode (mB 86) 22 = .ok (.if_icmp .ne 7, 3) by decide +kernel) rfl (pc' := 25) rfl kt kf
set_option maxRecDepth 4000 in
theorem b_X9_goesOn_25 {xs : Nat → Int32} {L d : Nat} {S : Nat → Shp} {I : Nat → Nat → Int32} {J : Nat → Nat → Int64} {R : Nat → Nat → Nat} {c : Nat × Nat} {Q : Option (Option Value) → MH → Prop} {x0 x1 : Int32}  (k : X xs L (d + 1) 86 30 [.int x0, .int x1] [.int 1] (S, I, J, R, c) Q) : X xs L (d + 1) 86 25 [.int x0, .int x1] [] (S, I, J, R, c) Q := by
  refine X_iconst (v := 1) (show decode (mB 86) 25 = .ok (.iconst 1, 1) by decide +kernel) (pc' := 26) rfl rfl ?_
  refine X_goto (tgt := 30) (show decode (mB 86) 26 = .ok (.goto 4, 3) by decide +kernel) rfl ?_
  exact k
set_option maxRecDepth 4000 in
theorem b_X9_goesOn_29 {xs : Nat → Int32} {L d : Nat} {S : Nat → Shp} {I : Nat → Nat → Int32} {J : Nat → Nat → Int64} {R : Nat → Nat → Nat} {c : Nat × Nat} {Q : Option (Option Value) → MH → Prop} {x0 x1 : Int32}  (k : X xs L (d + 1) 86 30 [.int x0, .int x1] [.int 0] (S, I, J, R, c) Q) : X xs L (d + 1) 86 29 [.int x0, .int x1] [] (S, I, J, R, c) Q := by
  refine X_iconst (v := 0) (show decode (mB 86) 29 = .ok (.iconst 0, 1) by decide +kernel) (pc' := 30) rfl rfl ?_
  exact k
set_option maxRecDepth 4000 in
theorem b_X9_goesOn_30 {xs : Nat → Int32} {L d : Nat} {S : Nat → Shp} {I : Nat → Nat → Int32} {J : Nat → Nat → Int64} {R : Nat → Nat → Nat} {c : Nat × Nat} {Q : Option (Option Value) → MH → Prop} {x0 x1 sx0 : Int32} (hz30 : sx0 = 0 ∨ sx0 = 1) (k : Q (some (some (.int sx0))) (S, I, J, R, c)) : X xs L (d + 1) 86 30 [.int x0, .int x1] [.int sx0] (S, I, J, R, c) Q := by
  exact X_ireturn (ty := .boolean) (show decode (mB 86) 30 = .ok (.ireturn, 1) by decide +kernel) (by decide +kernel) (nz hz30) k
set_option maxRecDepth 4000 in
theorem b_X9_goesOn_31 {xs : Nat → Int32} {L d : Nat} {S : Nat → Shp} {I : Nat → Nat → Int32} {J : Nat → Nat → Int64} {R : Nat → Nat → Nat} {c : Nat × Nat} {Q : Option (Option Value) → MH → Prop} {x0 x1 : Int32}  (kt : ¬ x0 = 4 → X xs L (d + 1) 86 56 [.int x0, .int x1] [] (S, I, J, R, c) Q) (kf : ¬ (¬ x0 = 4) → X xs L (d + 1) 86 36 [.int x0, .int x1] [] (S, I, J, R, c) Q) : X xs L (d + 1) 86 31 [.int x0, .int x1] [] (S, I, J, R, c) Q := by
  refine X_iload_n (q := 0) (show decode (mB 86) 31 = .ok (.iload_n 0, 1) by decide +kernel) (pc' := 32) rfl rfl rfl ?_
  refine X_iconst (v := 4) (show decode (mB 86) 32 = .ok (.iconst 4, 1) by decide +kernel) (pc' := 33) rfl rfl ?_
  exact X_icmp_ne (tgt := 56) (show decode (mB 86) 33 = .ok (.if_icmp .ne 23, 3) by decide +kernel) rfl (pc' := 36) rfl kt kf
set_option maxRecDepth 4000 in
theorem b_X9_goesOn_36 {xs : Nat → Int32} {L d : Nat} {S : Nat → Shp} {I : Nat → Nat → Int32} {J : Nat → Nat → Int64} {R : Nat → Nat → Nat} {c : Nat × Nat} {Q : Option (Option Value) → MH → Prop} {x0 x1 : Int32}  (k : X xs L d 91 0 [.int x1] [] (S, I, J, R, c) (Kc xs L (d + 1) 86 40 [.int x0, .int x1] [] Q)) : X xs L (d + 1) 86 36 [.int x0, .int x1] [] (S, I, J, R, c) Q := by
  refine X_iload_n (q := 1) (show decode (mB 86) 36 = .ok (.iload_n 1, 1) by decide +kernel) (pc' := 37) rfl rfl rfl ?_
  exact X_callS (y := 91) (n := 1) (st := [.int x1]) (as := [.int x1]) (rest := []) (ls0 := [.int x1]) (show decode (mB 86) 37 = .ok (.invokestatic 73, 3) by decide +kernel) (pc' := 40) rfl (by decide +kernel) (by decide +kernel) rfl rfl rfl rfl rfl rfl rfl rfl k
set_option maxRecDepth 4000 in
theorem b_X9_goesOn_40 {xs : Nat → Int32} {L d : Nat} {S : Nat → Shp} {I : Nat → Nat → Int32} {J : Nat → Nat → Int64} {R : Nat → Nat → Nat} {c : Nat × Nat} {Q : Option (Option Value) → MH → Prop} {x0 x1 sx0 : Int32}  (kt : ¬ sx0 = 0 → X xs L (d + 1) 86 50 [.int x0, .int x1] [] (S, I, J, R, c) Q) (kf : ¬ (¬ sx0 = 0) → X xs L (d + 1) 86 43 [.int x0, .int x1] [] (S, I, J, R, c) Q) : X xs L (d + 1) 86 40 [.int x0, .int x1] [.int sx0] (S, I, J, R, c) Q := by
  exact X_if_ne (tgt := 50) (show decode (mB 86) 40 = .ok (.ifCond .ne 10, 3) by decide +kernel) rfl (pc' := 43) rfl kt kf
set_option maxRecDepth 4000 in
theorem b_X9_goesOn_43 {xs : Nat → Int32} {L d : Nat} {S : Nat → Shp} {I : Nat → Nat → Int32} {J : Nat → Nat → Int64} {R : Nat → Nat → Nat} {c : Nat × Nat} {Q : Option (Option Value) → MH → Prop} {x0 x1 : Int32}  (k : X xs L d 92 0 [.int x1] [] (S, I, J, R, c) (Kc xs L (d + 1) 86 47 [.int x0, .int x1] [] Q)) : X xs L (d + 1) 86 43 [.int x0, .int x1] [] (S, I, J, R, c) Q := by
  refine X_iload_n (q := 1) (show decode (mB 86) 43 = .ok (.iload_n 1, 1) by decide +kernel) (pc' := 44) rfl rfl rfl ?_
  exact X_callS (y := 92) (n := 1) (st := [.int x1]) (as := [.int x1]) (rest := []) (ls0 := [.int x1]) (show decode (mB 86) 44 = .ok (.invokestatic 70, 3) by decide +kernel) (pc' := 47) rfl (by decide +kernel) (by decide +kernel) rfl rfl rfl rfl rfl rfl rfl rfl k
set_option maxRecDepth 4000 in
theorem b_X9_goesOn_47 {xs : Nat → Int32} {L d : Nat} {S : Nat → Shp} {I : Nat → Nat → Int32} {J : Nat → Nat → Int64} {R : Nat → Nat → Nat} {c : Nat × Nat} {Q : Option (Option Value) → MH → Prop} {x0 x1 sx0 : Int32}  (kt : sx0 = 0 → X xs L (d + 1) 86 54 [.int x0, .int x1] [] (S, I, J, R, c) Q) (kf : ¬ (sx0 = 0) → X xs L (d + 1) 86 50 [.int x0, .int x1] [] (S, I, J, R, c) Q) : X xs L (d + 1) 86 47 [.int x0, .int x1] [.int sx0] (S, I, J, R, c) Q := by
  exact X_if_eq (tgt := 54) (show decode (mB 86) 47 = .ok (.ifCond .eq 7, 3) by decide +kernel) rfl (pc' := 50) rfl kt kf
set_option maxRecDepth 4000 in
theorem b_X9_goesOn_50 {xs : Nat → Int32} {L d : Nat} {S : Nat → Shp} {I : Nat → Nat → Int32} {J : Nat → Nat → Int64} {R : Nat → Nat → Nat} {c : Nat × Nat} {Q : Option (Option Value) → MH → Prop} {x0 x1 : Int32}  (k : X xs L (d + 1) 86 55 [.int x0, .int x1] [.int 1] (S, I, J, R, c) Q) : X xs L (d + 1) 86 50 [.int x0, .int x1] [] (S, I, J, R, c) Q := by
  refine X_iconst (v := 1) (show decode (mB 86) 50 = .ok (.iconst 1, 1) by decide +kernel) (pc' := 51) rfl rfl ?_
  refine X_goto (tgt := 55) (show decode (mB 86) 51 = .ok (.goto 4, 3) by decide +kernel) rfl ?_
  exact k
set_option maxRecDepth 4000 in
theorem b_X9_goesOn_54 {xs : Nat → Int32} {L d : Nat} {S : Nat → Shp} {I : Nat → Nat → Int32} {J : Nat → Nat → Int64} {R : Nat → Nat → Nat} {c : Nat × Nat} {Q : Option (Option Value) → MH → Prop} {x0 x1 : Int32}  (k : X xs L (d + 1) 86 55 [.int x0, .int x1] [.int 0] (S, I, J, R, c) Q) : X xs L (d + 1) 86 54 [.int x0, .int x1] [] (S, I, J, R, c) Q := by
  refine X_iconst (v := 0) (show decode (mB 86) 54 = .ok (.iconst 0, 1) by decide +kernel) (pc' := 55) rfl rfl ?_
  exact k
set_option maxRecDepth 4000 in
theorem b_X9_goesOn_55 {xs : Nat → Int32} {L d : Nat} {S : Nat → Shp} {I : Nat → Nat → Int32} {J : Nat → Nat → Int64} {R : Nat → Nat → Nat} {c : Nat × Nat} {Q : Option (Option Value) → MH → Prop} {x0 x1 sx0 : Int32} (hz55 : sx0 = 0 ∨ sx0 = 1) (k : Q (some (some (.int sx0))) (S, I, J, R, c)) : X xs L (d + 1) 86 55 [.int x0, .int x1] [.int sx0] (S, I, J, R, c) Q := by
  exact X_ireturn (ty := .boolean) (show decode (mB 86) 55 = .ok (.ireturn, 1) by decide +kernel) (by decide +kernel) (nz hz55) k
set_option maxRecDepth 4000 in
theorem b_X9_goesOn_56 {xs : Nat → Int32} {L d : Nat} {S : Nat → Shp} {I : Nat → Nat → Int32} {J : Nat → Nat → Int64} {R : Nat → Nat → Nat} {c : Nat × Nat} {Q : Option (Option Value) → MH → Prop} {x0 x1 : Int32}  (kt : ¬ x0 = 5 → X xs L (d + 1) 86 72 [.int x0, .int x1] [] (S, I, J, R, c) Q) (kf : ¬ (¬ x0 = 5) → X xs L (d + 1) 86 61 [.int x0, .int x1] [] (S, I, J, R, c) Q) : X xs L (d + 1) 86 56 [.int x0, .int x1] [] (S, I, J, R, c) Q := by
  refine X_iload_n (q := 0) (show decode (mB 86) 56 = .ok (.iload_n 0, 1) by decide +kernel) (pc' := 57) rfl rfl rfl ?_
  refine X_iconst (v := 5) (show decode (mB 86) 57 = .ok (.iconst 5, 1) by decide +kernel) (pc' := 58) rfl rfl ?_
  exact X_icmp_ne (tgt := 72) (show decode (mB 86) 58 = .ok (.if_icmp .ne 14, 3) by decide +kernel) rfl (pc' := 61) rfl kt kf
set_option maxRecDepth 4000 in
theorem b_X9_goesOn_61 {xs : Nat → Int32} {L d : Nat} {S : Nat → Shp} {I : Nat → Nat → Int32} {J : Nat → Nat → Int64} {R : Nat → Nat → Nat} {c : Nat × Nat} {Q : Option (Option Value) → MH → Prop} {x0 x1 : Int32}  (k : X xs L d 92 0 [.int x1] [] (S, I, J, R, c) (Kc xs L (d + 1) 86 65 [.int x0, .int x1] [] Q)) : X xs L (d + 1) 86 61 [.int x0, .int x1] [] (S, I, J, R, c) Q := by
  refine X_iload_n (q := 1) (show decode (mB 86) 61 = .ok (.iload_n 1, 1) by decide +kernel) (pc' := 62) rfl rfl rfl ?_
  exact X_callS (y := 92) (n := 1) (st := [.int x1]) (as := [.int x1]) (rest := []) (ls0 := [.int x1]) (show decode (mB 86) 62 = .ok (.invokestatic 70, 3) by decide +kernel) (pc' := 65) rfl (by decide +kernel) (by decide +kernel) rfl rfl rfl rfl rfl rfl rfl rfl k
set_option maxRecDepth 4000 in
theorem b_X9_goesOn_65 {xs : Nat → Int32} {L d : Nat} {S : Nat → Shp} {I : Nat → Nat → Int32} {J : Nat → Nat → Int64} {R : Nat → Nat → Nat} {c : Nat × Nat} {Q : Option (Option Value) → MH → Prop} {x0 x1 sx0 : Int32}  (kt : sx0 = 0 → X xs L (d + 1) 86 72 [.int x0, .int x1] [] (S, I, J, R, c) Q) (kf : ¬ (sx0 = 0) → X xs L (d + 1) 86 68 [.int x0, .int x1] [] (S, I, J, R, c) Q) : X xs L (d + 1) 86 65 [.int x0, .int x1] [.int sx0] (S, I, J, R, c) Q := by
  exact X_if_eq (tgt := 72) (show decode (mB 86) 65 = .ok (.ifCond .eq 7, 3) by decide +kernel) rfl (pc' := 68) rfl kt kf
set_option maxRecDepth 4000 in
theorem b_X9_goesOn_68 {xs : Nat → Int32} {L d : Nat} {S : Nat → Shp} {I : Nat → Nat → Int32} {J : Nat → Nat → Int64} {R : Nat → Nat → Nat} {c : Nat × Nat} {Q : Option (Option Value) → MH → Prop} {x0 x1 : Int32}  (k : X xs L (d + 1) 86 73 [.int x0, .int x1] [.int 1] (S, I, J, R, c) Q) : X xs L (d + 1) 86 68 [.int x0, .int x1] [] (S, I, J, R, c) Q := by
  refine X_iconst (v := 1) (show decode (mB 86) 68 = .ok (.iconst 1, 1) by decide +kernel) (pc' := 69) rfl rfl ?_
  refine X_goto (tgt := 73) (show decode (mB 86) 69 = .ok (.goto 4, 3) by decide +kernel) rfl ?_
  exact k
set_option maxRecDepth 4000 in
theorem b_X9_goesOn_72 {xs : Nat → Int32} {L d : Nat} {S : Nat → Shp} {I : Nat → Nat → Int32} {J : Nat → Nat → Int64} {R : Nat → Nat → Nat} {c : Nat × Nat} {Q : Option (Option Value) → MH → Prop} {x0 x1 : Int32}  (k : X xs L (d + 1) 86 73 [.int x0, .int x1] [.int 0] (S, I, J, R, c) Q) : X xs L (d + 1) 86 72 [.int x0, .int x1] [] (S, I, J, R, c) Q := by
  refine X_iconst (v := 0) (show decode (mB 86) 72 = .ok (.iconst 0, 1) by decide +kernel) (pc' := 73) rfl rfl ?_
  exact k
set_option maxRecDepth 4000 in
theorem b_X9_goesOn_73 {xs : Nat → Int32} {L d : Nat} {S : Nat → Shp} {I : Nat → Nat → Int32} {J : Nat → Nat → Int64} {R : Nat → Nat → Nat} {c : Nat × Nat} {Q : Option (Option Value) → MH → Prop} {x0 x1 sx0 : Int32} (hz73 : sx0 = 0 ∨ sx0 = 1) (k : Q (some (some (.int sx0))) (S, I, J, R, c)) : X xs L (d + 1) 86 73 [.int x0, .int x1] [.int sx0] (S, I, J, R, c) Q := by
  exact X_ireturn (ty := .boolean) (show decode (mB 86) 73 = .ok (.ireturn, 1) by decide +kernel) (by decide +kernel) (nz hz73) k
set_option maxRecDepth 4000 in
theorem b_X9_kindOf_0 {xs : Nat → Int32} {L d : Nat} {S : Nat → Shp} {I : Nat → Nat → Int32} {J : Nat → Nat → Int64} {R : Nat → Nat → Nat} {c : Nat × Nat} {Q : Option (Option Value) → MH → Prop} {x0 : Int32}  (k : X xs L d 90 0 [.int x0] [] (S, I, J, R, c) (Kc xs L (d + 1) 87 4 [.int x0] [] Q)) : X xs L (d + 1) 87 0 [.int x0] [] (S, I, J, R, c) Q := by
  refine X_iload_n (q := 0) (show decode (mB 87) 0 = .ok (.iload_n 0, 1) by decide +kernel) (pc' := 1) rfl rfl rfl ?_
  exact X_callS (y := 90) (n := 1) (st := [.int x0]) (as := [.int x0]) (rest := []) (ls0 := [.int x0]) (show decode (mB 87) 1 = .ok (.invokestatic 66, 3) by decide +kernel) (pc' := 4) rfl (by decide +kernel) (by decide +kernel) rfl rfl rfl rfl rfl rfl rfl rfl k
set_option maxRecDepth 4000 in
theorem b_X9_kindOf_4 {xs : Nat → Int32} {L d : Nat} {S : Nat → Shp} {I : Nat → Nat → Int32} {J : Nat → Nat → Int64} {R : Nat → Nat → Nat} {c : Nat × Nat} {Q : Option (Option Value) → MH → Prop} {x0 sx0 : Int32}  (kt : sx0 = 0 → X xs L (d + 1) 87 9 [.int x0] [] (S, I, J, R, c) Q) (kf : ¬ (sx0 = 0) → X xs L (d + 1) 87 7 [.int x0] [] (S, I, J, R, c) Q) : X xs L (d + 1) 87 4 [.int x0] [.int sx0] (S, I, J, R, c) Q := by
  exact X_if_eq (tgt := 9) (show decode (mB 87) 4 = .ok (.ifCond .eq 5, 3) by decide +kernel) rfl (pc' := 7) rfl kt kf
set_option maxRecDepth 4000 in
theorem b_X9_kindOf_7 {xs : Nat → Int32} {L d : Nat} {S : Nat → Shp} {I : Nat → Nat → Int32} {J : Nat → Nat → Int64} {R : Nat → Nat → Nat} {c : Nat × Nat} {Q : Option (Option Value) → MH → Prop} {x0 : Int32}  (k : Q (some (some (.int 2))) (S, I, J, R, c)) : X xs L (d + 1) 87 7 [.int x0] [] (S, I, J, R, c) Q := by
  refine X_iconst (v := 2) (show decode (mB 87) 7 = .ok (.iconst 2, 1) by decide +kernel) (pc' := 8) rfl rfl ?_
  exact X_ireturn (ty := .int) (show decode (mB 87) 8 = .ok (.ireturn, 1) by decide +kernel) (by decide +kernel) rfl k
set_option maxRecDepth 4000 in
theorem b_X9_kindOf_9 {xs : Nat → Int32} {L d : Nat} {S : Nat → Shp} {I : Nat → Nat → Int32} {J : Nat → Nat → Int64} {R : Nat → Nat → Nat} {c : Nat × Nat} {Q : Option (Option Value) → MH → Prop} {x0 : Int32}  (k : X xs L d 91 0 [.int x0] [] (S, I, J, R, c) (Kc xs L (d + 1) 87 13 [.int x0] [] Q)) : X xs L (d + 1) 87 9 [.int x0] [] (S, I, J, R, c) Q := by
  refine X_iload_n (q := 0) (show decode (mB 87) 9 = .ok (.iload_n 0, 1) by decide +kernel) (pc' := 10) rfl rfl rfl ?_
  exact X_callS (y := 91) (n := 1) (st := [.int x0]) (as := [.int x0]) (rest := []) (ls0 := [.int x0]) (show decode (mB 87) 10 = .ok (.invokestatic 73, 3) by decide +kernel) (pc' := 13) rfl (by decide +kernel) (by decide +kernel) rfl rfl rfl rfl rfl rfl rfl rfl k
set_option maxRecDepth 4000 in
theorem b_X9_kindOf_13 {xs : Nat → Int32} {L d : Nat} {S : Nat → Shp} {I : Nat → Nat → Int32} {J : Nat → Nat → Int64} {R : Nat → Nat → Nat} {c : Nat × Nat} {Q : Option (Option Value) → MH → Prop} {x0 sx0 : Int32}  (kt : sx0 = 0 → X xs L (d + 1) 87 18 [.int x0] [] (S, I, J, R, c) Q) (kf : ¬ (sx0 = 0) → X xs L (d + 1) 87 16 [.int x0] [] (S, I, J, R, c) Q) : X xs L (d + 1) 87 13 [.int x0] [.int sx0] (S, I, J, R, c) Q := by
  exact X_if_eq (tgt := 18) (show decode (mB 87) 13 = .ok (.ifCond .eq 5, 3) by decide +kernel) rfl (pc' := 16) rfl kt kf
set_option maxRecDepth 4000 in
theorem b_X9_kindOf_16 {xs : Nat → Int32} {L d : Nat} {S : Nat → Shp} {I : Nat → Nat → Int32} {J : Nat → Nat → Int64} {R : Nat → Nat → Nat} {c : Nat × Nat} {Q : Option (Option Value) → MH → Prop} {x0 : Int32}  (k : Q (some (some (.int 4))) (S, I, J, R, c)) : X xs L (d + 1) 87 16 [.int x0] [] (S, I, J, R, c) Q := by
  refine X_iconst (v := 4) (show decode (mB 87) 16 = .ok (.iconst 4, 1) by decide +kernel) (pc' := 17) rfl rfl ?_
  exact X_ireturn (ty := .int) (show decode (mB 87) 17 = .ok (.ireturn, 1) by decide +kernel) (by decide +kernel) rfl k
set_option maxRecDepth 4000 in
theorem b_X9_kindOf_18 {xs : Nat → Int32} {L d : Nat} {S : Nat → Shp} {I : Nat → Nat → Int32} {J : Nat → Nat → Int64} {R : Nat → Nat → Nat} {c : Nat × Nat} {Q : Option (Option Value) → MH → Prop} {x0 : Int32}  (k : X xs L d 92 0 [.int x0] [] (S, I, J, R, c) (Kc xs L (d + 1) 87 22 [.int x0] [] Q)) : X xs L (d + 1) 87 18 [.int x0] [] (S, I, J, R, c) Q := by
  refine X_iload_n (q := 0) (show decode (mB 87) 18 = .ok (.iload_n 0, 1) by decide +kernel) (pc' := 19) rfl rfl rfl ?_
  exact X_callS (y := 92) (n := 1) (st := [.int x0]) (as := [.int x0]) (rest := []) (ls0 := [.int x0]) (show decode (mB 87) 19 = .ok (.invokestatic 70, 3) by decide +kernel) (pc' := 22) rfl (by decide +kernel) (by decide +kernel) rfl rfl rfl rfl rfl rfl rfl rfl k
set_option maxRecDepth 4000 in
theorem b_X9_kindOf_22 {xs : Nat → Int32} {L d : Nat} {S : Nat → Shp} {I : Nat → Nat → Int32} {J : Nat → Nat → Int64} {R : Nat → Nat → Nat} {c : Nat × Nat} {Q : Option (Option Value) → MH → Prop} {x0 sx0 : Int32}  (kt : sx0 = 0 → X xs L (d + 1) 87 27 [.int x0] [] (S, I, J, R, c) Q) (kf : ¬ (sx0 = 0) → X xs L (d + 1) 87 25 [.int x0] [] (S, I, J, R, c) Q) : X xs L (d + 1) 87 22 [.int x0] [.int sx0] (S, I, J, R, c) Q := by
  exact X_if_eq (tgt := 27) (show decode (mB 87) 22 = .ok (.ifCond .eq 5, 3) by decide +kernel) rfl (pc' := 25) rfl kt kf
set_option maxRecDepth 4000 in
theorem b_X9_kindOf_25 {xs : Nat → Int32} {L d : Nat} {S : Nat → Shp} {I : Nat → Nat → Int32} {J : Nat → Nat → Int64} {R : Nat → Nat → Nat} {c : Nat × Nat} {Q : Option (Option Value) → MH → Prop} {x0 : Int32}  (k : Q (some (some (.int 5))) (S, I, J, R, c)) : X xs L (d + 1) 87 25 [.int x0] [] (S, I, J, R, c) Q := by
  refine X_iconst (v := 5) (show decode (mB 87) 25 = .ok (.iconst 5, 1) by decide +kernel) (pc' := 26) rfl rfl ?_
  exact X_ireturn (ty := .int) (show decode (mB 87) 26 = .ok (.ireturn, 1) by decide +kernel) (by decide +kernel) rfl k
set_option maxRecDepth 4000 in
theorem b_X9_kindOf_27 {xs : Nat → Int32} {L d : Nat} {S : Nat → Shp} {I : Nat → Nat → Int32} {J : Nat → Nat → Int64} {R : Nat → Nat → Nat} {c : Nat × Nat} {Q : Option (Option Value) → MH → Prop} {x0 : Int32} {tgt : Nat}  (hsw : xnB 28 (.lookupswitch 94 #[(33, 92), (38, 92), (40, 92), (41, 92), (44, 92), (46, 92), (59, 92), (61, 92), (94, 92), (124, 92)]) (.int x0 :: []) = some (tgt, [])) (k : X xs L (d + 1) 87 tgt [.int x0] [] (S, I, J, R, c) Q) : X xs L (d + 1) 87 27 [.int x0] [] (S, I, J, R, c) Q := by
  refine X_iload_n (q := 0) (show decode (mB 87) 27 = .ok (.iload_n 0, 1) by decide +kernel) (pc' := 28) rfl rfl rfl ?_
  exact X_sw (show decode (mB 87) 28 = .ok (.lookupswitch 94 #[(33, 92), (38, 92), (40, 92), (41, 92), (44, 92), (46, 92), (59, 92), (61, 92), (94, 92), (124, 92)], 92) by decide +kernel) rfl rfl hsw k
set_option maxRecDepth 4000 in
theorem b_X9_kindOf_120 {xs : Nat → Int32} {L d : Nat} {S : Nat → Shp} {I : Nat → Nat → Int32} {J : Nat → Nat → Int64} {R : Nat → Nat → Nat} {c : Nat × Nat} {Q : Option (Option Value) → MH → Prop} {x0 : Int32}  (k : Q (some (some (.int x0))) (S, I, J, R, c)) : X xs L (d + 1) 87 120 [.int x0] [] (S, I, J, R, c) Q := by
  refine X_iload_n (q := 0) (show decode (mB 87) 120 = .ok (.iload_n 0, 1) by decide +kernel) (pc' := 121) rfl rfl rfl ?_
  exact X_ireturn (ty := .int) (show decode (mB 87) 121 = .ok (.ireturn, 1) by decide +kernel) (by decide +kernel) rfl k
set_option maxRecDepth 4000 in
theorem b_X9_kindOf_122 {xs : Nat → Int32} {L d : Nat} {S : Nat → Shp} {I : Nat → Nat → Int32} {J : Nat → Nat → Int64} {R : Nat → Nat → Nat} {c : Nat × Nat} {Q : Option (Option Value) → MH → Prop} {x0 : Int32}  (k : Q (some (some (.int 1))) (S, I, J, R, c)) : X xs L (d + 1) 87 122 [.int x0] [] (S, I, J, R, c) Q := by
  refine X_iconst (v := 1) (show decode (mB 87) 122 = .ok (.iconst 1, 1) by decide +kernel) (pc' := 123) rfl rfl ?_
  exact X_ireturn (ty := .int) (show decode (mB 87) 123 = .ok (.ireturn, 1) by decide +kernel) (by decide +kernel) rfl k
set_option maxRecDepth 4000 in
theorem b_X9_longest_0 {xs : Nat → Int32} {L d : Nat} {S : Nat → Shp} {I : Nat → Nat → Int32} {J : Nat → Nat → Int64} {R : Nat → Nat → Nat} {c : Nat × Nat} {Q : Option (Option Value) → MH → Prop} {x0 : Int32}  (kt : ¬ x0 = 2 → X xs L d 88 8 [.int x0] [] (S, I, J, R, c) Q) (kf : ¬ (¬ x0 = 2) → X xs L d 88 5 [.int x0] [] (S, I, J, R, c) Q) : X xs L d 88 0 [.int x0] [] (S, I, J, R, c) Q := by
  refine X_iload_n (q := 0) (show decode (mB 88) 0 = .ok (.iload_n 0, 1) by decide +kernel) (pc' := 1) rfl rfl rfl ?_
  refine X_iconst (v := 2) (show decode (mB 88) 1 = .ok (.iconst 2, 1) by decide +kernel) (pc' := 2) rfl rfl ?_
  exact X_icmp_ne (tgt := 8) (show decode (mB 88) 2 = .ok (.if_icmp .ne 6, 3) by decide +kernel) rfl (pc' := 5) rfl kt kf
set_option maxRecDepth 4000 in
theorem b_X9_longest_5 {xs : Nat → Int32} {L d : Nat} {S : Nat → Shp} {I : Nat → Nat → Int32} {J : Nat → Nat → Int64} {R : Nat → Nat → Nat} {c : Nat × Nat} {Q : Option (Option Value) → MH → Prop} {x0 : Int32}  (k : Q (some (some (.int 8))) (S, I, J, R, c)) : X xs L d 88 5 [.int x0] [] (S, I, J, R, c) Q := by
  refine X_bipush (v := 8) (show decode (mB 88) 5 = .ok (.bipush 8, 2) by decide +kernel) (pc' := 7) rfl (by decide +kernel) ?_
  exact X_ireturn (ty := .int) (show decode (mB 88) 7 = .ok (.ireturn, 1) by decide +kernel) (by decide +kernel) rfl k
set_option maxRecDepth 4000 in
theorem b_X9_longest_8 {xs : Nat → Int32} {L d : Nat} {S : Nat → Shp} {I : Nat → Nat → Int32} {J : Nat → Nat → Int64} {R : Nat → Nat → Nat} {c : Nat × Nat} {Q : Option (Option Value) → MH → Prop} {x0 : Int32}  (kt : ¬ x0 = 4 → X xs L d 88 15 [.int x0] [] (S, I, J, R, c) Q) (kf : ¬ (¬ x0 = 4) → X xs L d 88 13 [.int x0] [] (S, I, J, R, c) Q) : X xs L d 88 8 [.int x0] [] (S, I, J, R, c) Q := by
  refine X_iload_n (q := 0) (show decode (mB 88) 8 = .ok (.iload_n 0, 1) by decide +kernel) (pc' := 9) rfl rfl rfl ?_
  refine X_iconst (v := 4) (show decode (mB 88) 9 = .ok (.iconst 4, 1) by decide +kernel) (pc' := 10) rfl rfl ?_
  exact X_icmp_ne (tgt := 15) (show decode (mB 88) 10 = .ok (.if_icmp .ne 5, 3) by decide +kernel) rfl (pc' := 13) rfl kt kf
set_option maxRecDepth 4000 in
theorem b_X9_longest_13 {xs : Nat → Int32} {L d : Nat} {S : Nat → Shp} {I : Nat → Nat → Int32} {J : Nat → Nat → Int64} {R : Nat → Nat → Nat} {c : Nat × Nat} {Q : Option (Option Value) → MH → Prop} {x0 : Int32}  (k : Q (some (some (.int 4))) (S, I, J, R, c)) : X xs L d 88 13 [.int x0] [] (S, I, J, R, c) Q := by
  refine X_iconst (v := 4) (show decode (mB 88) 13 = .ok (.iconst 4, 1) by decide +kernel) (pc' := 14) rfl rfl ?_
  exact X_ireturn (ty := .int) (show decode (mB 88) 14 = .ok (.ireturn, 1) by decide +kernel) (by decide +kernel) rfl k
set_option maxRecDepth 4000 in
theorem b_X9_longest_15 {xs : Nat → Int32} {L d : Nat} {S : Nat → Shp} {I : Nat → Nat → Int32} {J : Nat → Nat → Int64} {R : Nat → Nat → Nat} {c : Nat × Nat} {Q : Option (Option Value) → MH → Prop} {x0 : Int32}  (kt : ¬ x0 = 5 → X xs L d 88 24 [.int x0] [] (S, I, J, R, c) Q) (kf : ¬ (¬ x0 = 5) → X xs L d 88 20 [.int x0] [] (S, I, J, R, c) Q) : X xs L d 88 15 [.int x0] [] (S, I, J, R, c) Q := by
  refine X_iload_n (q := 0) (show decode (mB 88) 15 = .ok (.iload_n 0, 1) by decide +kernel) (pc' := 16) rfl rfl rfl ?_
  refine X_iconst (v := 5) (show decode (mB 88) 16 = .ok (.iconst 5, 1) by decide +kernel) (pc' := 17) rfl rfl ?_
  exact X_icmp_ne (tgt := 24) (show decode (mB 88) 17 = .ok (.if_icmp .ne 7, 3) by decide +kernel) rfl (pc' := 20) rfl kt kf
set_option maxRecDepth 4000 in
theorem b_X9_longest_20 {xs : Nat → Int32} {L d : Nat} {S : Nat → Shp} {I : Nat → Nat → Int32} {J : Nat → Nat → Int64} {R : Nat → Nat → Nat} {c : Nat × Nat} {Q : Option (Option Value) → MH → Prop} {x0 : Int32}  (k : X xs L d 88 25 [.int x0] [.int 4] (S, I, J, R, c) Q) : X xs L d 88 20 [.int x0] [] (S, I, J, R, c) Q := by
  refine X_iconst (v := 4) (show decode (mB 88) 20 = .ok (.iconst 4, 1) by decide +kernel) (pc' := 21) rfl rfl ?_
  refine X_goto (tgt := 25) (show decode (mB 88) 21 = .ok (.goto 4, 3) by decide +kernel) rfl ?_
  exact k
set_option maxRecDepth 4000 in
theorem b_X9_longest_24 {xs : Nat → Int32} {L d : Nat} {S : Nat → Shp} {I : Nat → Nat → Int32} {J : Nat → Nat → Int64} {R : Nat → Nat → Nat} {c : Nat × Nat} {Q : Option (Option Value) → MH → Prop} {x0 : Int32}  (k : X xs L d 88 25 [.int x0] [.int 1] (S, I, J, R, c) Q) : X xs L d 88 24 [.int x0] [] (S, I, J, R, c) Q := by
  refine X_iconst (v := 1) (show decode (mB 88) 24 = .ok (.iconst 1, 1) by decide +kernel) (pc' := 25) rfl rfl ?_
  exact k
set_option maxRecDepth 4000 in
theorem b_X9_longest_25 {xs : Nat → Int32} {L d : Nat} {S : Nat → Shp} {I : Nat → Nat → Int32} {J : Nat → Nat → Int64} {R : Nat → Nat → Nat} {c : Nat × Nat} {Q : Option (Option Value) → MH → Prop} {x0 sx0 : Int32}  (k : Q (some (some (.int sx0))) (S, I, J, R, c)) : X xs L d 88 25 [.int x0] [.int sx0] (S, I, J, R, c) Q := by
  exact X_ireturn (ty := .int) (show decode (mB 88) 25 = .ok (.ireturn, 1) by decide +kernel) (by decide +kernel) rfl k
set_option maxRecDepth 4000 in
theorem b_X9_isReserved_0 {xs : Nat → Int32} {L d : Nat} {S : Nat → Shp} {I : Nat → Nat → Int32} {J : Nat → Nat → Int64} {R : Nat → Nat → Nat} {c : Nat × Nat} {Q : Option (Option Value) → MH → Prop} {y0 : Int64}  (kt : (lg_cmp y0 452824429940) = 0 → X xs L d 89 72 [.long y0, .null] [] (S, I, J, R, c) Q) (kf : ¬ ((lg_cmp y0 452824429940) = 0) → X xs L d 89 8 [.long y0, .null] [] (S, I, J, R, c) Q) : X xs L d 89 0 [.long y0, .null] [] (S, I, J, R, c) Q := by
  refine X_lload_n (q := 0) (show decode (mB 89) 0 = .ok (.lload_n 0, 1) by decide +kernel) (pc' := 1) rfl rfl rfl ?_
  refine X_ldc2 (v := 452824429940) (show decode (mB 89) 1 = .ok (.ldc2_w 76, 3) by decide +kernel) (pc' := 4) rfl (by decide +kernel) ?_
  refine X_lcmp (show decode (mB 89) 4 = .ok (.lcmp, 1) by decide +kernel) (pc' := 5) rfl ?_
  exact X_if_eq (tgt := 72) (show decode (mB 89) 5 = .ok (.ifCond .eq 67, 3) by decide +kernel) rfl (pc' := 8) rfl kt kf
set_option maxRecDepth 4000 in
theorem b_X9_isReserved_8 {xs : Nat → Int32} {L d : Nat} {S : Nat → Shp} {I : Nat → Nat → Int32} {J : Nat → Nat → Int64} {R : Nat → Nat → Nat} {c : Nat × Nat} {Q : Option (Option Value) → MH → Prop} {y0 : Int64}  (kt : (lg_cmp y0 2003399269) = 0 → X xs L d 89 72 [.long y0, .null] [] (S, I, J, R, c) Q) (kf : ¬ ((lg_cmp y0 2003399269) = 0) → X xs L d 89 16 [.long y0, .null] [] (S, I, J, R, c) Q) : X xs L d 89 8 [.long y0, .null] [] (S, I, J, R, c) Q := by
  refine X_lload_n (q := 0) (show decode (mB 89) 8 = .ok (.lload_n 0, 1) by decide +kernel) (pc' := 9) rfl rfl rfl ?_
  refine X_ldc2 (v := 2003399269) (show decode (mB 89) 9 = .ok (.ldc2_w 78, 3) by decide +kernel) (pc' := 12) rfl (by decide +kernel) ?_
  refine X_lcmp (show decode (mB 89) 12 = .ok (.lcmp, 1) by decide +kernel) (pc' := 13) rfl ?_
  exact X_if_eq (tgt := 72) (show decode (mB 89) 13 = .ok (.ifCond .eq 59, 3) by decide +kernel) rfl (pc' := 16) rfl kt kf
set_option maxRecDepth 4000 in
theorem b_X9_isReserved_16 {xs : Nat → Int32} {L d : Nat} {S : Nat → Shp} {I : Nat → Nat → Int32} {J : Nat → Nat → Int64} {R : Nat → Nat → Nat} {c : Nat × Nat} {Q : Option (Option Value) → MH → Prop} {y0 : Int64}  (kt : (lg_cmp y0 465491485544) = 0 → X xs L d 89 72 [.long y0, .null] [] (S, I, J, R, c) Q) (kf : ¬ ((lg_cmp y0 465491485544) = 0) → X xs L d 89 24 [.long y0, .null] [] (S, I, J, R, c) Q) : X xs L d 89 16 [.long y0, .null] [] (S, I, J, R, c) Q := by
  refine X_lload_n (q := 0) (show decode (mB 89) 16 = .ok (.lload_n 0, 1) by decide +kernel) (pc' := 17) rfl rfl rfl ?_
  refine X_ldc2 (v := 465491485544) (show decode (mB 89) 17 = .ok (.ldc2_w 80, 3) by decide +kernel) (pc' := 20) rfl (by decide +kernel) ?_
  refine X_lcmp (show decode (mB 89) 20 = .ok (.lcmp, 1) by decide +kernel) (pc' := 21) rfl ?_
  exact X_if_eq (tgt := 72) (show decode (mB 89) 21 = .ok (.ifCond .eq 51, 3) by decide +kernel) rfl (pc' := 24) rfl kt kf
set_option maxRecDepth 4000 in
theorem b_X9_isReserved_24 {xs : Nat → Int32} {L d : Nat} {S : Nat → Shp} {I : Nat → Nat → Int32} {J : Nat → Nat → Int64} {R : Nat → Nat → Nat} {c : Nat × Nat} {Q : Option (Option Value) → MH → Prop} {y0 : Int64}  (kt : (lg_cmp y0 444150998382) = 0 → X xs L d 89 72 [.long y0, .null] [] (S, I, J, R, c) Q) (kf : ¬ ((lg_cmp y0 444150998382) = 0) → X xs L d 89 32 [.long y0, .null] [] (S, I, J, R, c) Q) : X xs L d 89 24 [.long y0, .null] [] (S, I, J, R, c) Q := by
  refine X_lload_n (q := 0) (show decode (mB 89) 24 = .ok (.lload_n 0, 1) by decide +kernel) (pc' := 25) rfl rfl rfl ?_
  refine X_ldc2 (v := 444150998382) (show decode (mB 89) 25 = .ok (.ldc2_w 82, 3) by decide +kernel) (pc' := 28) rfl (by decide +kernel) ?_
  refine X_lcmp (show decode (mB 89) 28 = .ok (.lcmp, 1) by decide +kernel) (pc' := 29) rfl ?_
  exact X_if_eq (tgt := 72) (show decode (mB 89) 29 = .ok (.ifCond .eq 43, 3) by decide +kernel) rfl (pc' := 32) rfl kt kf
set_option maxRecDepth 4000 in
theorem b_X9_isReserved_32 {xs : Nat → Int32} {L d : Nat} {S : Nat → Shp} {I : Nat → Nat → Int32} {J : Nat → Nat → Int64} {R : Nat → Nat → Nat} {c : Nat × Nat} {Q : Option (Option Value) → MH → Prop} {y0 : Int64}  (kt : (lg_cmp y0 1952998766) = 0 → X xs L d 89 72 [.long y0, .null] [] (S, I, J, R, c) Q) (kf : ¬ ((lg_cmp y0 1952998766) = 0) → X xs L d 89 40 [.long y0, .null] [] (S, I, J, R, c) Q) : X xs L d 89 32 [.long y0, .null] [] (S, I, J, R, c) Q := by
  refine X_lload_n (q := 0) (show decode (mB 89) 32 = .ok (.lload_n 0, 1) by decide +kernel) (pc' := 33) rfl rfl rfl ?_
  refine X_ldc2 (v := 1952998766) (show decode (mB 89) 33 = .ok (.ldc2_w 84, 3) by decide +kernel) (pc' := 36) rfl (by decide +kernel) ?_
  refine X_lcmp (show decode (mB 89) 36 = .ok (.lcmp, 1) by decide +kernel) (pc' := 37) rfl ?_
  exact X_if_eq (tgt := 72) (show decode (mB 89) 37 = .ok (.ifCond .eq 35, 3) by decide +kernel) rfl (pc' := 40) rfl kt kf
set_option maxRecDepth 4000 in
theorem b_X9_isReserved_40 {xs : Nat → Int32} {L d : Nat} {S : Nat → Shp} {I : Nat → Nat → Int32} {J : Nat → Nat → Int64} {R : Nat → Nat → Nat} {c : Nat × Nat} {Q : Option (Option Value) → MH → Prop} {y0 : Int64}  (kt : (lg_cmp y0 26995) = 0 → X xs L d 89 72 [.long y0, .null] [] (S, I, J, R, c) Q) (kf : ¬ ((lg_cmp y0 26995) = 0) → X xs L d 89 48 [.long y0, .null] [] (S, I, J, R, c) Q) : X xs L d 89 40 [.long y0, .null] [] (S, I, J, R, c) Q := by
  refine X_lload_n (q := 0) (show decode (mB 89) 40 = .ok (.lload_n 0, 1) by decide +kernel) (pc' := 41) rfl rfl rfl ?_
  refine X_ldc2 (v := 26995) (show decode (mB 89) 41 = .ok (.ldc2_w 86, 3) by decide +kernel) (pc' := 44) rfl (by decide +kernel) ?_
  refine X_lcmp (show decode (mB 89) 44 = .ok (.lcmp, 1) by decide +kernel) (pc' := 45) rfl ?_
  exact X_if_eq (tgt := 72) (show decode (mB 89) 45 = .ok (.ifCond .eq 27, 3) by decide +kernel) rfl (pc' := 48) rfl kt kf
set_option maxRecDepth 4000 in
theorem b_X9_isReserved_48 {xs : Nat → Int32} {L d : Nat} {S : Nat → Shp} {I : Nat → Nat → Int32} {J : Nat → Nat → Int64} {R : Nat → Nat → Nat} {c : Nat × Nat} {Q : Option (Option Value) → MH → Prop} {y0 : Int64}  (kt : (lg_cmp y0 26982) = 0 → X xs L d 89 72 [.long y0, .null] [] (S, I, J, R, c) Q) (kf : ¬ ((lg_cmp y0 26982) = 0) → X xs L d 89 56 [.long y0, .null] [] (S, I, J, R, c) Q) : X xs L d 89 48 [.long y0, .null] [] (S, I, J, R, c) Q := by
  refine X_lload_n (q := 0) (show decode (mB 89) 48 = .ok (.lload_n 0, 1) by decide +kernel) (pc' := 49) rfl rfl rfl ?_
  refine X_ldc2 (v := 26982) (show decode (mB 89) 49 = .ok (.ldc2_w 88, 3) by decide +kernel) (pc' := 52) rfl (by decide +kernel) ?_
  refine X_lcmp (show decode (mB 89) 52 = .ok (.lcmp, 1) by decide +kernel) (pc' := 53) rfl ?_
  exact X_if_eq (tgt := 72) (show decode (mB 89) 53 = .ok (.ifCond .eq 19, 3) by decide +kernel) rfl (pc' := 56) rfl kt kf
set_option maxRecDepth 4000 in
theorem b_X9_isReserved_56 {xs : Nat → Int32} {L d : Nat} {S : Nat → Shp} {I : Nat → Nat → Int32} {J : Nat → Nat → Int64} {R : Nat → Nat → Nat} {c : Nat × Nat} {Q : Option (Option Value) → MH → Prop} {y0 : Int64}  (kt : (lg_cmp y0 24948) = 0 → X xs L d 89 72 [.long y0, .null] [] (S, I, J, R, c) Q) (kf : ¬ ((lg_cmp y0 24948) = 0) → X xs L d 89 64 [.long y0, .null] [] (S, I, J, R, c) Q) : X xs L d 89 56 [.long y0, .null] [] (S, I, J, R, c) Q := by
  refine X_lload_n (q := 0) (show decode (mB 89) 56 = .ok (.lload_n 0, 1) by decide +kernel) (pc' := 57) rfl rfl rfl ?_
  refine X_ldc2 (v := 24948) (show decode (mB 89) 57 = .ok (.ldc2_w 90, 3) by decide +kernel) (pc' := 60) rfl (by decide +kernel) ?_
  refine X_lcmp (show decode (mB 89) 60 = .ok (.lcmp, 1) by decide +kernel) (pc' := 61) rfl ?_
  exact X_if_eq (tgt := 72) (show decode (mB 89) 61 = .ok (.ifCond .eq 11, 3) by decide +kernel) rfl (pc' := 64) rfl kt kf
set_option maxRecDepth 4000 in
theorem b_X9_isReserved_64 {xs : Nat → Int32} {L d : Nat} {S : Nat → Shp} {I : Nat → Nat → Int32} {J : Nat → Nat → Int64} {R : Nat → Nat → Nat} {c : Nat × Nat} {Q : Option (Option Value) → MH → Prop} {y0 : Int64}  (kt : ¬ (lg_cmp y0 29807) = 0 → X xs L d 89 76 [.long y0, .null] [] (S, I, J, R, c) Q) (kf : ¬ (¬ (lg_cmp y0 29807) = 0) → X xs L d 89 72 [.long y0, .null] [] (S, I, J, R, c) Q) : X xs L d 89 64 [.long y0, .null] [] (S, I, J, R, c) Q := by
  refine X_lload_n (q := 0) (show decode (mB 89) 64 = .ok (.lload_n 0, 1) by decide +kernel) (pc' := 65) rfl rfl rfl ?_
  refine X_ldc2 (v := 29807) (show decode (mB 89) 65 = .ok (.ldc2_w 92, 3) by decide +kernel) (pc' := 68) rfl (by decide +kernel) ?_
  refine X_lcmp (show decode (mB 89) 68 = .ok (.lcmp, 1) by decide +kernel) (pc' := 69) rfl ?_
  exact X_if_ne (tgt := 76) (show decode (mB 89) 69 = .ok (.ifCond .ne 7, 3) by decide +kernel) rfl (pc' := 72) rfl kt kf
set_option maxRecDepth 4000 in
theorem b_X9_isReserved_72 {xs : Nat → Int32} {L d : Nat} {S : Nat → Shp} {I : Nat → Nat → Int32} {J : Nat → Nat → Int64} {R : Nat → Nat → Nat} {c : Nat × Nat} {Q : Option (Option Value) → MH → Prop} {y0 : Int64}  (k : X xs L d 89 77 [.long y0, .null] [.int 1] (S, I, J, R, c) Q) : X xs L d 89 72 [.long y0, .null] [] (S, I, J, R, c) Q := by
  refine X_iconst (v := 1) (show decode (mB 89) 72 = .ok (.iconst 1, 1) by decide +kernel) (pc' := 73) rfl rfl ?_
  refine X_goto (tgt := 77) (show decode (mB 89) 73 = .ok (.goto 4, 3) by decide +kernel) rfl ?_
  exact k
set_option maxRecDepth 4000 in
theorem b_X9_isReserved_76 {xs : Nat → Int32} {L d : Nat} {S : Nat → Shp} {I : Nat → Nat → Int32} {J : Nat → Nat → Int64} {R : Nat → Nat → Nat} {c : Nat × Nat} {Q : Option (Option Value) → MH → Prop} {y0 : Int64}  (k : X xs L d 89 77 [.long y0, .null] [.int 0] (S, I, J, R, c) Q) : X xs L d 89 76 [.long y0, .null] [] (S, I, J, R, c) Q := by
  refine X_iconst (v := 0) (show decode (mB 89) 76 = .ok (.iconst 0, 1) by decide +kernel) (pc' := 77) rfl rfl ?_
  exact k
set_option maxRecDepth 4000 in
theorem b_X9_isReserved_77 {xs : Nat → Int32} {L d : Nat} {S : Nat → Shp} {I : Nat → Nat → Int32} {J : Nat → Nat → Int64} {R : Nat → Nat → Nat} {c : Nat × Nat} {Q : Option (Option Value) → MH → Prop} {y0 : Int64} {sx0 : Int32} (hz77 : sx0 = 0 ∨ sx0 = 1) (k : Q (some (some (.int sx0))) (S, I, J, R, c)) : X xs L d 89 77 [.long y0, .null] [.int sx0] (S, I, J, R, c) Q := by
  exact X_ireturn (ty := .boolean) (show decode (mB 89) 77 = .ok (.ireturn, 1) by decide +kernel) (by decide +kernel) (nz hz77) k
set_option maxRecDepth 4000 in
theorem b_X9_isSmall_0 {xs : Nat → Int32} {L d : Nat} {S : Nat → Shp} {I : Nat → Nat → Int32} {J : Nat → Nat → Int64} {R : Nat → Nat → Nat} {c : Nat × Nat} {Q : Option (Option Value) → MH → Prop} {x0 : Int32}  (kt : x0 < 97 → X xs L d 90 16 [.int x0] [] (S, I, J, R, c) Q) (kf : ¬ (x0 < 97) → X xs L d 90 6 [.int x0] [] (S, I, J, R, c) Q) : X xs L d 90 0 [.int x0] [] (S, I, J, R, c) Q := by
  refine X_iload_n (q := 0) (show decode (mB 90) 0 = .ok (.iload_n 0, 1) by decide +kernel) (pc' := 1) rfl rfl rfl ?_
  refine X_bipush (v := 97) (show decode (mB 90) 1 = .ok (.bipush 97, 2) by decide +kernel) (pc' := 3) rfl (by decide +kernel) ?_
  exact X_icmp_lt (tgt := 16) (show decode (mB 90) 3 = .ok (.if_icmp .lt 13, 3) by decide +kernel) rfl (pc' := 6) rfl kt kf
set_option maxRecDepth 4000 in
theorem b_X9_isSmall_6 {xs : Nat → Int32} {L d : Nat} {S : Nat → Shp} {I : Nat → Nat → Int32} {J : Nat → Nat → Int64} {R : Nat → Nat → Nat} {c : Nat × Nat} {Q : Option (Option Value) → MH → Prop} {x0 : Int32}  (kt : 122 < x0 → X xs L d 90 16 [.int x0] [] (S, I, J, R, c) Q) (kf : ¬ (122 < x0) → X xs L d 90 12 [.int x0] [] (S, I, J, R, c) Q) : X xs L d 90 6 [.int x0] [] (S, I, J, R, c) Q := by
  refine X_iload_n (q := 0) (show decode (mB 90) 6 = .ok (.iload_n 0, 1) by decide +kernel) (pc' := 7) rfl rfl rfl ?_
  refine X_bipush (v := 122) (show decode (mB 90) 7 = .ok (.bipush 122, 2) by decide +kernel) (pc' := 9) rfl (by decide +kernel) ?_
  exact X_icmp_gt (tgt := 16) (show decode (mB 90) 9 = .ok (.if_icmp .gt 7, 3) by decide +kernel) rfl (pc' := 12) rfl kt kf
set_option maxRecDepth 4000 in
theorem b_X9_isSmall_12 {xs : Nat → Int32} {L d : Nat} {S : Nat → Shp} {I : Nat → Nat → Int32} {J : Nat → Nat → Int64} {R : Nat → Nat → Nat} {c : Nat × Nat} {Q : Option (Option Value) → MH → Prop} {x0 : Int32}  (k : X xs L d 90 17 [.int x0] [.int 1] (S, I, J, R, c) Q) : X xs L d 90 12 [.int x0] [] (S, I, J, R, c) Q := by
  refine X_iconst (v := 1) (show decode (mB 90) 12 = .ok (.iconst 1, 1) by decide +kernel) (pc' := 13) rfl rfl ?_
  refine X_goto (tgt := 17) (show decode (mB 90) 13 = .ok (.goto 4, 3) by decide +kernel) rfl ?_
  exact k
set_option maxRecDepth 4000 in
theorem b_X9_isSmall_16 {xs : Nat → Int32} {L d : Nat} {S : Nat → Shp} {I : Nat → Nat → Int32} {J : Nat → Nat → Int64} {R : Nat → Nat → Nat} {c : Nat × Nat} {Q : Option (Option Value) → MH → Prop} {x0 : Int32}  (k : X xs L d 90 17 [.int x0] [.int 0] (S, I, J, R, c) Q) : X xs L d 90 16 [.int x0] [] (S, I, J, R, c) Q := by
  refine X_iconst (v := 0) (show decode (mB 90) 16 = .ok (.iconst 0, 1) by decide +kernel) (pc' := 17) rfl rfl ?_
  exact k
set_option maxRecDepth 4000 in
theorem b_X9_isSmall_17 {xs : Nat → Int32} {L d : Nat} {S : Nat → Shp} {I : Nat → Nat → Int32} {J : Nat → Nat → Int64} {R : Nat → Nat → Nat} {c : Nat × Nat} {Q : Option (Option Value) → MH → Prop} {x0 sx0 : Int32} (hz17 : sx0 = 0 ∨ sx0 = 1) (k : Q (some (some (.int sx0))) (S, I, J, R, c)) : X xs L d 90 17 [.int x0] [.int sx0] (S, I, J, R, c) Q := by
  exact X_ireturn (ty := .boolean) (show decode (mB 90) 17 = .ok (.ireturn, 1) by decide +kernel) (by decide +kernel) (nz hz17) k
set_option maxRecDepth 4000 in
theorem b_X9_isCapital_0 {xs : Nat → Int32} {L d : Nat} {S : Nat → Shp} {I : Nat → Nat → Int32} {J : Nat → Nat → Int64} {R : Nat → Nat → Nat} {c : Nat × Nat} {Q : Option (Option Value) → MH → Prop} {x0 : Int32}  (kt : x0 < 65 → X xs L d 91 16 [.int x0] [] (S, I, J, R, c) Q) (kf : ¬ (x0 < 65) → X xs L d 91 6 [.int x0] [] (S, I, J, R, c) Q) : X xs L d 91 0 [.int x0] [] (S, I, J, R, c) Q := by
  refine X_iload_n (q := 0) (show decode (mB 91) 0 = .ok (.iload_n 0, 1) by decide +kernel) (pc' := 1) rfl rfl rfl ?_
  refine X_bipush (v := 65) (show decode (mB 91) 1 = .ok (.bipush 65, 2) by decide +kernel) (pc' := 3) rfl (by decide +kernel) ?_
  exact X_icmp_lt (tgt := 16) (show decode (mB 91) 3 = .ok (.if_icmp .lt 13, 3) by decide +kernel) rfl (pc' := 6) rfl kt kf
set_option maxRecDepth 4000 in
theorem b_X9_isCapital_6 {xs : Nat → Int32} {L d : Nat} {S : Nat → Shp} {I : Nat → Nat → Int32} {J : Nat → Nat → Int64} {R : Nat → Nat → Nat} {c : Nat × Nat} {Q : Option (Option Value) → MH → Prop} {x0 : Int32}  (kt : 90 < x0 → X xs L d 91 16 [.int x0] [] (S, I, J, R, c) Q) (kf : ¬ (90 < x0) → X xs L d 91 12 [.int x0] [] (S, I, J, R, c) Q) : X xs L d 91 6 [.int x0] [] (S, I, J, R, c) Q := by
  refine X_iload_n (q := 0) (show decode (mB 91) 6 = .ok (.iload_n 0, 1) by decide +kernel) (pc' := 7) rfl rfl rfl ?_
  refine X_bipush (v := 90) (show decode (mB 91) 7 = .ok (.bipush 90, 2) by decide +kernel) (pc' := 9) rfl (by decide +kernel) ?_
  exact X_icmp_gt (tgt := 16) (show decode (mB 91) 9 = .ok (.if_icmp .gt 7, 3) by decide +kernel) rfl (pc' := 12) rfl kt kf
set_option maxRecDepth 4000 in
theorem b_X9_isCapital_12 {xs : Nat → Int32} {L d : Nat} {S : Nat → Shp} {I : Nat → Nat → Int32} {J : Nat → Nat → Int64} {R : Nat → Nat → Nat} {c : Nat × Nat} {Q : Option (Option Value) → MH → Prop} {x0 : Int32}  (k : X xs L d 91 17 [.int x0] [.int 1] (S, I, J, R, c) Q) : X xs L d 91 12 [.int x0] [] (S, I, J, R, c) Q := by
  refine X_iconst (v := 1) (show decode (mB 91) 12 = .ok (.iconst 1, 1) by decide +kernel) (pc' := 13) rfl rfl ?_
  refine X_goto (tgt := 17) (show decode (mB 91) 13 = .ok (.goto 4, 3) by decide +kernel) rfl ?_
  exact k
set_option maxRecDepth 4000 in
theorem b_X9_isCapital_16 {xs : Nat → Int32} {L d : Nat} {S : Nat → Shp} {I : Nat → Nat → Int32} {J : Nat → Nat → Int64} {R : Nat → Nat → Nat} {c : Nat × Nat} {Q : Option (Option Value) → MH → Prop} {x0 : Int32}  (k : X xs L d 91 17 [.int x0] [.int 0] (S, I, J, R, c) Q) : X xs L d 91 16 [.int x0] [] (S, I, J, R, c) Q := by
  refine X_iconst (v := 0) (show decode (mB 91) 16 = .ok (.iconst 0, 1) by decide +kernel) (pc' := 17) rfl rfl ?_
  exact k
set_option maxRecDepth 4000 in
theorem b_X9_isCapital_17 {xs : Nat → Int32} {L d : Nat} {S : Nat → Shp} {I : Nat → Nat → Int32} {J : Nat → Nat → Int64} {R : Nat → Nat → Nat} {c : Nat × Nat} {Q : Option (Option Value) → MH → Prop} {x0 sx0 : Int32} (hz17 : sx0 = 0 ∨ sx0 = 1) (k : Q (some (some (.int sx0))) (S, I, J, R, c)) : X xs L d 91 17 [.int x0] [.int sx0] (S, I, J, R, c) Q := by
  exact X_ireturn (ty := .boolean) (show decode (mB 91) 17 = .ok (.ireturn, 1) by decide +kernel) (by decide +kernel) (nz hz17) k
set_option maxRecDepth 4000 in
theorem b_X9_isDigit_0 {xs : Nat → Int32} {L d : Nat} {S : Nat → Shp} {I : Nat → Nat → Int32} {J : Nat → Nat → Int64} {R : Nat → Nat → Nat} {c : Nat × Nat} {Q : Option (Option Value) → MH → Prop} {x0 : Int32}  (kt : x0 < 48 → X xs L d 92 16 [.int x0] [] (S, I, J, R, c) Q) (kf : ¬ (x0 < 48) → X xs L d 92 6 [.int x0] [] (S, I, J, R, c) Q) : X xs L d 92 0 [.int x0] [] (S, I, J, R, c) Q := by
  refine X_iload_n (q := 0) (show decode (mB 92) 0 = .ok (.iload_n 0, 1) by decide +kernel) (pc' := 1) rfl rfl rfl ?_
  refine X_bipush (v := 48) (show decode (mB 92) 1 = .ok (.bipush 48, 2) by decide +kernel) (pc' := 3) rfl (by decide +kernel) ?_
  exact X_icmp_lt (tgt := 16) (show decode (mB 92) 3 = .ok (.if_icmp .lt 13, 3) by decide +kernel) rfl (pc' := 6) rfl kt kf
set_option maxRecDepth 4000 in
theorem b_X9_isDigit_6 {xs : Nat → Int32} {L d : Nat} {S : Nat → Shp} {I : Nat → Nat → Int32} {J : Nat → Nat → Int64} {R : Nat → Nat → Nat} {c : Nat × Nat} {Q : Option (Option Value) → MH → Prop} {x0 : Int32}  (kt : 57 < x0 → X xs L d 92 16 [.int x0] [] (S, I, J, R, c) Q) (kf : ¬ (57 < x0) → X xs L d 92 12 [.int x0] [] (S, I, J, R, c) Q) : X xs L d 92 6 [.int x0] [] (S, I, J, R, c) Q := by
  refine X_iload_n (q := 0) (show decode (mB 92) 6 = .ok (.iload_n 0, 1) by decide +kernel) (pc' := 7) rfl rfl rfl ?_
  refine X_bipush (v := 57) (show decode (mB 92) 7 = .ok (.bipush 57, 2) by decide +kernel) (pc' := 9) rfl (by decide +kernel) ?_
  exact X_icmp_gt (tgt := 16) (show decode (mB 92) 9 = .ok (.if_icmp .gt 7, 3) by decide +kernel) rfl (pc' := 12) rfl kt kf
set_option maxRecDepth 4000 in
theorem b_X9_isDigit_12 {xs : Nat → Int32} {L d : Nat} {S : Nat → Shp} {I : Nat → Nat → Int32} {J : Nat → Nat → Int64} {R : Nat → Nat → Nat} {c : Nat × Nat} {Q : Option (Option Value) → MH → Prop} {x0 : Int32}  (k : X xs L d 92 17 [.int x0] [.int 1] (S, I, J, R, c) Q) : X xs L d 92 12 [.int x0] [] (S, I, J, R, c) Q := by
  refine X_iconst (v := 1) (show decode (mB 92) 12 = .ok (.iconst 1, 1) by decide +kernel) (pc' := 13) rfl rfl ?_
  refine X_goto (tgt := 17) (show decode (mB 92) 13 = .ok (.goto 4, 3) by decide +kernel) rfl ?_
  exact k
set_option maxRecDepth 4000 in
theorem b_X9_isDigit_16 {xs : Nat → Int32} {L d : Nat} {S : Nat → Shp} {I : Nat → Nat → Int32} {J : Nat → Nat → Int64} {R : Nat → Nat → Nat} {c : Nat × Nat} {Q : Option (Option Value) → MH → Prop} {x0 : Int32}  (k : X xs L d 92 17 [.int x0] [.int 0] (S, I, J, R, c) Q) : X xs L d 92 16 [.int x0] [] (S, I, J, R, c) Q := by
  refine X_iconst (v := 0) (show decode (mB 92) 16 = .ok (.iconst 0, 1) by decide +kernel) (pc' := 17) rfl rfl ?_
  exact k
set_option maxRecDepth 4000 in
theorem b_X9_isDigit_17 {xs : Nat → Int32} {L d : Nat} {S : Nat → Shp} {I : Nat → Nat → Int32} {J : Nat → Nat → Int64} {R : Nat → Nat → Nat} {c : Nat × Nat} {Q : Option (Option Value) → MH → Prop} {x0 sx0 : Int32} (hz17 : sx0 = 0 ∨ sx0 = 1) (k : Q (some (some (.int sx0))) (S, I, J, R, c)) : X xs L d 92 17 [.int x0] [.int sx0] (S, I, J, R, c) Q := by
  exact X_ireturn (ty := .boolean) (show decode (mB 92) 17 = .ok (.ireturn, 1) by decide +kernel) (by decide +kernel) (nz hz17) k
set_option maxRecDepth 4000 in
theorem b_X9_kind_0 {xs : Nat → Int32} {L d : Nat} {S : Nat → Shp} {I : Nat → Nat → Int32} {J : Nat → Nat → Int64} {R : Nat → Nat → Nat} {c : Nat × Nat} {Q : Option (Option Value) → MH → Prop}  (hL : Lay S R) (hb8 : inb (I 4 5) 2001 = true) (k : Q (some (some (.int (I 5 (I 4 5).toNatClampNeg)))) (S, I, J, R, c)) : X xs L d 93 0 [.ref 4] [] (S, I, J, R, c) Q := by
  refine X_aload_n (q := 0) (show decode (mB 93) 0 = .ok (.aload_n 0, 1) by decide +kernel) (pc' := 1) rfl rfl rfl ?_
  refine X_getR (ci := 8) (f := 1) (q := 5) (show decode (mB 93) 1 = .ok (.getfield 9, 3) by decide +kernel) (pc' := 4) rfl (ls_4 hL) (by decide +kernel) rfl (lr_4_1 hL) ?_
  refine X_aload_n (q := 0) (show decode (mB 93) 4 = .ok (.aload_n 0, 1) by decide +kernel) (pc' := 5) rfl rfl rfl ?_
  refine X_getI (ci := 8) (f := 5) (x := I 4 5) (show decode (mB 93) 5 = .ok (.getfield 30, 3) by decide +kernel) (pc' := 8) rfl (ls_4 hL) (by decide +kernel) rfl rfl ?_
  refine X_iaload (w := I 5 (I 4 5).toNatClampNeg) (show decode (mB 93) 8 = .ok (.iaload, 1) by decide +kernel) (pc' := 9) rfl (ls_5 hL) hb8 rfl ?_
  exact X_ireturn (ty := .int) (show decode (mB 93) 9 = .ok (.ireturn, 1) by decide +kernel) (by decide +kernel) rfl k
set_option maxRecDepth 4000 in
theorem b_X9_place_0 {xs : Nat → Int32} {L d : Nat} {S : Nat → Shp} {I : Nat → Nat → Int32} {J : Nat → Nat → Int64} {R : Nat → Nat → Nat} {c : Nat × Nat} {Q : Option (Option Value) → MH → Prop}  (hL : Lay S R) (hb8 : inb (I 4 5) 2001 = true) (k : Q (some (some (.int (I 6 (I 4 5).toNatClampNeg)))) (S, I, J, R, c)) : X xs L d 94 0 [.ref 4] [] (S, I, J, R, c) Q := by
  refine X_aload_n (q := 0) (show decode (mB 94) 0 = .ok (.aload_n 0, 1) by decide +kernel) (pc' := 1) rfl rfl rfl ?_
  refine X_getR (ci := 8) (f := 2) (q := 6) (show decode (mB 94) 1 = .ok (.getfield 15, 3) by decide +kernel) (pc' := 4) rfl (ls_4 hL) (by decide +kernel) rfl (lr_4_2 hL) ?_
  refine X_aload_n (q := 0) (show decode (mB 94) 4 = .ok (.aload_n 0, 1) by decide +kernel) (pc' := 5) rfl rfl rfl ?_
  refine X_getI (ci := 8) (f := 5) (x := I 4 5) (show decode (mB 94) 5 = .ok (.getfield 30, 3) by decide +kernel) (pc' := 8) rfl (ls_4 hL) (by decide +kernel) rfl rfl ?_
  refine X_iaload (w := I 6 (I 4 5).toNatClampNeg) (show decode (mB 94) 8 = .ok (.iaload, 1) by decide +kernel) (pc' := 9) rfl (ls_6 hL) hb8 rfl ?_
  exact X_ireturn (ty := .int) (show decode (mB 94) 9 = .ok (.ireturn, 1) by decide +kernel) (by decide +kernel) rfl k
set_option maxRecDepth 4000 in
theorem b_X9_key_0 {xs : Nat → Int32} {L d : Nat} {S : Nat → Shp} {I : Nat → Nat → Int32} {J : Nat → Nat → Int64} {R : Nat → Nat → Nat} {c : Nat × Nat} {Q : Option (Option Value) → MH → Prop}  (hL : Lay S R) (hb8 : inb (I 4 5) 2001 = true) (k : Q (some (some (.long (J 7 (I 4 5).toNatClampNeg)))) (S, I, J, R, c)) : X xs L d 95 0 [.ref 4] [] (S, I, J, R, c) Q := by
  refine X_aload_n (q := 0) (show decode (mB 95) 0 = .ok (.aload_n 0, 1) by decide +kernel) (pc' := 1) rfl rfl rfl ?_
  refine X_getR (ci := 8) (f := 3) (q := 7) (show decode (mB 95) 1 = .ok (.getfield 18, 3) by decide +kernel) (pc' := 4) rfl (ls_4 hL) (by decide +kernel) rfl (lr_4_3 hL) ?_
  refine X_aload_n (q := 0) (show decode (mB 95) 4 = .ok (.aload_n 0, 1) by decide +kernel) (pc' := 5) rfl rfl rfl ?_
  refine X_getI (ci := 8) (f := 5) (x := I 4 5) (show decode (mB 95) 5 = .ok (.getfield 30, 3) by decide +kernel) (pc' := 8) rfl (ls_4 hL) (by decide +kernel) rfl rfl ?_
  refine X_laload (w := J 7 (I 4 5).toNatClampNeg) (show decode (mB 95) 8 = .ok (.laload, 1) by decide +kernel) (pc' := 9) rfl (ls_7 hL) hb8 rfl ?_
  exact X_lreturn (show decode (mB 95) 9 = .ok (.lreturn, 1) by decide +kernel) (by decide +kernel) k
set_option maxRecDepth 4000 in
theorem b_X9_index_0 {xs : Nat → Int32} {L d : Nat} {S : Nat → Shp} {I : Nat → Nat → Int32} {J : Nat → Nat → Int64} {R : Nat → Nat → Nat} {c : Nat × Nat} {Q : Option (Option Value) → MH → Prop}  (hL : Lay S R)  (k : Q (some (some (.int (I 4 5)))) (S, I, J, R, c)) : X xs L d 96 0 [.ref 4] [] (S, I, J, R, c) Q := by
  refine X_aload_n (q := 0) (show decode (mB 96) 0 = .ok (.aload_n 0, 1) by decide +kernel) (pc' := 1) rfl rfl rfl ?_
  refine X_getI (ci := 8) (f := 5) (x := I 4 5) (show decode (mB 96) 1 = .ok (.getfield 30, 3) by decide +kernel) (pc' := 4) rfl (ls_4 hL) (by decide +kernel) rfl rfl ?_
  exact X_ireturn (ty := .int) (show decode (mB 96) 4 = .ok (.ireturn, 1) by decide +kernel) (by decide +kernel) rfl k
set_option maxRecDepth 4000 in
theorem b_X9_placeAt_0 {xs : Nat → Int32} {L d : Nat} {S : Nat → Shp} {I : Nat → Nat → Int32} {J : Nat → Nat → Int64} {R : Nat → Nat → Nat} {c : Nat × Nat} {Q : Option (Option Value) → MH → Prop} {x1 : Int32} (hL : Lay S R) (hb5 : inb x1 2001 = true) (k : Q (some (some (.int (I 6 x1.toNatClampNeg)))) (S, I, J, R, c)) : X xs L d 97 0 [.ref 4, .int x1] [] (S, I, J, R, c) Q := by
  refine X_aload_n (q := 0) (show decode (mB 97) 0 = .ok (.aload_n 0, 1) by decide +kernel) (pc' := 1) rfl rfl rfl ?_
  refine X_getR (ci := 8) (f := 2) (q := 6) (show decode (mB 97) 1 = .ok (.getfield 15, 3) by decide +kernel) (pc' := 4) rfl (ls_4 hL) (by decide +kernel) rfl (lr_4_2 hL) ?_
  refine X_iload_n (q := 1) (show decode (mB 97) 4 = .ok (.iload_n 1, 1) by decide +kernel) (pc' := 5) rfl rfl rfl ?_
  refine X_iaload (w := I 6 x1.toNatClampNeg) (show decode (mB 97) 5 = .ok (.iaload, 1) by decide +kernel) (pc' := 6) rfl (ls_6 hL) hb5 rfl ?_
  exact X_ireturn (ty := .int) (show decode (mB 97) 6 = .ok (.ireturn, 1) by decide +kernel) (by decide +kernel) rfl k
set_option maxRecDepth 4000 in
theorem b_X9_keyAt_0 {xs : Nat → Int32} {L d : Nat} {S : Nat → Shp} {I : Nat → Nat → Int32} {J : Nat → Nat → Int64} {R : Nat → Nat → Nat} {c : Nat × Nat} {Q : Option (Option Value) → MH → Prop} {x1 : Int32} (hL : Lay S R) (hb5 : inb x1 2001 = true) (k : Q (some (some (.long (J 7 x1.toNatClampNeg)))) (S, I, J, R, c)) : X xs L d 98 0 [.ref 4, .int x1] [] (S, I, J, R, c) Q := by
  refine X_aload_n (q := 0) (show decode (mB 98) 0 = .ok (.aload_n 0, 1) by decide +kernel) (pc' := 1) rfl rfl rfl ?_
  refine X_getR (ci := 8) (f := 3) (q := 7) (show decode (mB 98) 1 = .ok (.getfield 18, 3) by decide +kernel) (pc' := 4) rfl (ls_4 hL) (by decide +kernel) rfl (lr_4_3 hL) ?_
  refine X_iload_n (q := 1) (show decode (mB 98) 4 = .ok (.iload_n 1, 1) by decide +kernel) (pc' := 5) rfl rfl rfl ?_
  refine X_laload (w := J 7 x1.toNatClampNeg) (show decode (mB 98) 5 = .ok (.laload, 1) by decide +kernel) (pc' := 6) rfl (ls_7 hL) hb5 rfl ?_
  exact X_lreturn (show decode (mB 98) 6 = .ok (.lreturn, 1) by decide +kernel) (by decide +kernel) k
set_option maxRecDepth 4000 in
theorem b_X9_number_0 {xs : Nat → Int32} {L d : Nat} {S : Nat → Shp} {I : Nat → Nat → Int32} {J : Nat → Nat → Int64} {R : Nat → Nat → Nat} {c : Nat × Nat} {Q : Option (Option Value) → MH → Prop}   (k : X xs L d 99 5 [.ref 4, .int 0, .int 24, .null] [] (S, I, J, R, c) Q) : X xs L d 99 0 [.ref 4, .null, .null, .null] [] (S, I, J, R, c) Q := by
  refine X_iconst (v := 0) (show decode (mB 99) 0 = .ok (.iconst 0, 1) by decide +kernel) (pc' := 1) rfl rfl ?_
  refine X_istore_n (q := 1) (ls' := [.ref 4, .int 0, .null, .null]) (show decode (mB 99) 1 = .ok (.istore_n 1, 1) by decide +kernel) (pc' := 2) rfl rfl rfl ?_
  refine X_bipush (v := 24) (show decode (mB 99) 2 = .ok (.bipush 24, 2) by decide +kernel) (pc' := 4) rfl (by decide +kernel) ?_
  refine X_istore_n (q := 2) (ls' := [.ref 4, .int 0, .int 24, .null]) (show decode (mB 99) 4 = .ok (.istore_n 2, 1) by decide +kernel) (pc' := 5) rfl rfl rfl ?_
  exact k
set_option maxRecDepth 4000 in
theorem b_X9_number_5 {xs : Nat → Int32} {L d : Nat} {S : Nat → Shp} {I : Nat → Nat → Int32} {J : Nat → Nat → Int64} {R : Nat → Nat → Nat} {c : Nat × Nat} {Q : Option (Option Value) → MH → Prop} {x1 x2 : Int32} {v3 : Value}  (kt : x2 < 0 → X xs L d 99 46 [.ref 4, .int x1, .int x2, v3] [] (S, I, J, R, c) Q) (kf : ¬ (x2 < 0) → X xs L d 99 9 [.ref 4, .int x1, .int x2, v3] [] (S, I, J, R, c) Q) : X xs L d 99 5 [.ref 4, .int x1, .int x2, v3] [] (S, I, J, R, c) Q := by
  refine X_iload_n (q := 2) (show decode (mB 99) 5 = .ok (.iload_n 2, 1) by decide +kernel) (pc' := 6) rfl rfl rfl ?_
  exact X_if_lt (tgt := 46) (show decode (mB 99) 6 = .ok (.ifCond .lt 40, 3) by decide +kernel) rfl (pc' := 9) rfl kt kf
set_option maxRecDepth 4000 in
theorem b_X9_number_9 {xs : Nat → Int32} {L d : Nat} {S : Nat → Shp} {I : Nat → Nat → Int32} {J : Nat → Nat → Int64} {R : Nat → Nat → Nat} {c : Nat × Nat} {Q : Option (Option Value) → MH → Prop} {x1 x2 : Int32} {v3 : Value} (hL : Lay S R) (hb17 : inb (I 4 5) 2001 = true) (kt : ((((J 7 (I 4 5).toNatClampNeg) >>> (x2.toInt64 &&& 63)).toInt32) &&& 255) = 0 → X xs L d 99 40 [.ref 4, .int x1, .int x2, .int ((((J 7 (I 4 5).toNatClampNeg) >>> (x2.toInt64 &&& 63)).toInt32) &&& 255)] [] (S, I, J, R, c) Q) (kf : ¬ (((((J 7 (I 4 5).toNatClampNeg) >>> (x2.toInt64 &&& 63)).toInt32) &&& 255) = 0) → X xs L d 99 30 [.ref 4, .int x1, .int x2, .int ((((J 7 (I 4 5).toNatClampNeg) >>> (x2.toInt64 &&& 63)).toInt32) &&& 255)] [] (S, I, J, R, c) Q) : X xs L d 99 9 [.ref 4, .int x1, .int x2, v3] [] (S, I, J, R, c) Q := by
  refine X_aload_n (q := 0) (show decode (mB 99) 9 = .ok (.aload_n 0, 1) by decide +kernel) (pc' := 10) rfl rfl rfl ?_
  refine X_getR (ci := 8) (f := 3) (q := 7) (show decode (mB 99) 10 = .ok (.getfield 18, 3) by decide +kernel) (pc' := 13) rfl (ls_4 hL) (by decide +kernel) rfl (lr_4_3 hL) ?_
  refine X_aload_n (q := 0) (show decode (mB 99) 13 = .ok (.aload_n 0, 1) by decide +kernel) (pc' := 14) rfl rfl rfl ?_
  refine X_getI (ci := 8) (f := 5) (x := I 4 5) (show decode (mB 99) 14 = .ok (.getfield 30, 3) by decide +kernel) (pc' := 17) rfl (ls_4 hL) (by decide +kernel) rfl rfl ?_
  refine X_laload (w := J 7 (I 4 5).toNatClampNeg) (show decode (mB 99) 17 = .ok (.laload, 1) by decide +kernel) (pc' := 18) rfl (ls_7 hL) hb17 rfl ?_
  refine X_iload_n (q := 2) (show decode (mB 99) 18 = .ok (.iload_n 2, 1) by decide +kernel) (pc' := 19) rfl rfl rfl ?_
  refine X_lshr (show decode (mB 99) 19 = .ok (.lshr, 1) by decide +kernel) (pc' := 20) rfl ?_
  refine X_l2i (show decode (mB 99) 20 = .ok (.l2i, 1) by decide +kernel) (pc' := 21) rfl ?_
  refine X_sipush (v := 255) (show decode (mB 99) 21 = .ok (.sipush 255, 3) by decide +kernel) (pc' := 24) rfl (by decide +kernel) ?_
  refine X_iand (show decode (mB 99) 24 = .ok (.iand, 1) by decide +kernel) (pc' := 25) rfl ?_
  refine X_istore_n (q := 3) (ls' := [.ref 4, .int x1, .int x2, .int ((((J 7 (I 4 5).toNatClampNeg) >>> (x2.toInt64 &&& 63)).toInt32) &&& 255)]) (show decode (mB 99) 25 = .ok (.istore_n 3, 1) by decide +kernel) (pc' := 26) rfl rfl rfl ?_
  refine X_iload_n (q := 3) (show decode (mB 99) 26 = .ok (.iload_n 3, 1) by decide +kernel) (pc' := 27) rfl rfl rfl ?_
  exact X_if_eq (tgt := 40) (show decode (mB 99) 27 = .ok (.ifCond .eq 13, 3) by decide +kernel) rfl (pc' := 30) rfl kt kf
set_option maxRecDepth 4000 in
theorem b_X9_number_30 {xs : Nat → Int32} {L d : Nat} {S : Nat → Shp} {I : Nat → Nat → Int32} {J : Nat → Nat → Int64} {R : Nat → Nat → Nat} {c : Nat × Nat} {Q : Option (Option Value) → MH → Prop} {x1 x2 x3 : Int32}  (k : X xs L d 99 40 [.ref 4, .int (((x1 * 10) + x3) - 48), .int x2, .int x3] [] (S, I, J, R, c) Q) : X xs L d 99 30 [.ref 4, .int x1, .int x2, .int x3] [] (S, I, J, R, c) Q := by
  refine X_iload_n (q := 1) (show decode (mB 99) 30 = .ok (.iload_n 1, 1) by decide +kernel) (pc' := 31) rfl rfl rfl ?_
  refine X_bipush (v := 10) (show decode (mB 99) 31 = .ok (.bipush 10, 2) by decide +kernel) (pc' := 33) rfl (by decide +kernel) ?_
  refine X_imul (show decode (mB 99) 33 = .ok (.imul, 1) by decide +kernel) (pc' := 34) rfl ?_
  refine X_iload_n (q := 3) (show decode (mB 99) 34 = .ok (.iload_n 3, 1) by decide +kernel) (pc' := 35) rfl rfl rfl ?_
  refine X_iadd (show decode (mB 99) 35 = .ok (.iadd, 1) by decide +kernel) (pc' := 36) rfl ?_
  refine X_bipush (v := 48) (show decode (mB 99) 36 = .ok (.bipush 48, 2) by decide +kernel) (pc' := 38) rfl (by decide +kernel) ?_
  refine X_isub (show decode (mB 99) 38 = .ok (.isub, 1) by decide +kernel) (pc' := 39) rfl ?_
  refine X_istore_n (q := 1) (ls' := [.ref 4, .int (((x1 * 10) + x3) - 48), .int x2, .int x3]) (show decode (mB 99) 39 = .ok (.istore_n 1, 1) by decide +kernel) (pc' := 40) rfl rfl rfl ?_
  exact k
set_option maxRecDepth 4000 in
theorem b_X9_number_40 {xs : Nat → Int32} {L d : Nat} {S : Nat → Shp} {I : Nat → Nat → Int32} {J : Nat → Nat → Int64} {R : Nat → Nat → Nat} {c : Nat × Nat} {Q : Option (Option Value) → MH → Prop} {x1 x2 x3 : Int32}  (k : X xs L d 99 5 [.ref 4, .int x1, .int (x2 + (-8)), .int x3] [] (S, I, J, R, c) Q) : X xs L d 99 40 [.ref 4, .int x1, .int x2, .int x3] [] (S, I, J, R, c) Q := by
  refine X_iinc (q := 2) (v := x2 + (-8)) (ls' := [.ref 4, .int x1, .int (x2 + (-8)), .int x3]) (show decode (mB 99) 40 = .ok (.iinc 2 (-8), 3) by decide +kernel) (pc' := 43) rfl rfl rfl rfl ?_
  refine X_goto (tgt := 5) (show decode (mB 99) 43 = .ok (.goto (-38), 3) by decide +kernel) rfl ?_
  exact k
set_option maxRecDepth 4000 in
theorem b_X9_number_46 {xs : Nat → Int32} {L d : Nat} {S : Nat → Shp} {I : Nat → Nat → Int32} {J : Nat → Nat → Int64} {R : Nat → Nat → Nat} {c : Nat × Nat} {Q : Option (Option Value) → MH → Prop} {x1 x2 : Int32} {v3 : Value}  (k : Q (some (some (.int x1))) (S, I, J, R, c)) : X xs L d 99 46 [.ref 4, .int x1, .int x2, v3] [] (S, I, J, R, c) Q := by
  refine X_iload_n (q := 1) (show decode (mB 99) 46 = .ok (.iload_n 1, 1) by decide +kernel) (pc' := 47) rfl rfl rfl ?_
  exact X_ireturn (ty := .int) (show decode (mB 99) 47 = .ok (.ireturn, 1) by decide +kernel) (by decide +kernel) rfl k
set_option maxRecDepth 4000 in
theorem b_X9_step_0 {xs : Nat → Int32} {L d : Nat} {S : Nat → Shp} {I : Nat → Nat → Int32} {J : Nat → Nat → Int64} {R : Nat → Nat → Nat} {c : Nat × Nat} {Q : Option (Option Value) → MH → Prop}  (hL : Lay S R)  (kt : ((I 4 4) - 1) ≤ (I 4 5) → X xs L d 100 23 [.ref 4] [] (S, I, J, R, c) Q) (kf : ¬ (((I 4 4) - 1) ≤ (I 4 5)) → X xs L d 100 13 [.ref 4] [] (S, I, J, R, c) Q) : X xs L d 100 0 [.ref 4] [] (S, I, J, R, c) Q := by
  refine X_aload_n (q := 0) (show decode (mB 100) 0 = .ok (.aload_n 0, 1) by decide +kernel) (pc' := 1) rfl rfl rfl ?_
  refine X_getI (ci := 8) (f := 5) (x := I 4 5) (show decode (mB 100) 1 = .ok (.getfield 30, 3) by decide +kernel) (pc' := 4) rfl (ls_4 hL) (by decide +kernel) rfl rfl ?_
  refine X_aload_n (q := 0) (show decode (mB 100) 4 = .ok (.aload_n 0, 1) by decide +kernel) (pc' := 5) rfl rfl rfl ?_
  refine X_getI (ci := 8) (f := 4) (x := I 4 4) (show decode (mB 100) 5 = .ok (.getfield 26, 3) by decide +kernel) (pc' := 8) rfl (ls_4 hL) (by decide +kernel) rfl rfl ?_
  refine X_iconst (v := 1) (show decode (mB 100) 8 = .ok (.iconst 1, 1) by decide +kernel) (pc' := 9) rfl rfl ?_
  refine X_isub (show decode (mB 100) 9 = .ok (.isub, 1) by decide +kernel) (pc' := 10) rfl ?_
  exact X_icmp_ge (tgt := 23) (show decode (mB 100) 10 = .ok (.if_icmp .ge 13, 3) by decide +kernel) rfl (pc' := 13) rfl kt kf
set_option maxRecDepth 4000 in
theorem b_X9_step_13 {xs : Nat → Int32} {L d : Nat} {S : Nat → Shp} {I : Nat → Nat → Int32} {J : Nat → Nat → Int64} {R : Nat → Nat → Nat} {c : Nat × Nat} {Q : Option (Option Value) → MH → Prop}  (hL : Lay S R)  (k : X xs L d 100 23 [.ref 4] [] (S, (u2 I 4 5 ((I 4 5) + 1)), J, R, c) Q) : X xs L d 100 13 [.ref 4] [] (S, I, J, R, c) Q := by
  refine X_aload_n (q := 0) (show decode (mB 100) 13 = .ok (.aload_n 0, 1) by decide +kernel) (pc' := 14) rfl rfl rfl ?_
  refine X_dup (show decode (mB 100) 14 = .ok (.dup, 1) by decide +kernel) (pc' := 15) rfl rfl ?_
  refine X_getI (ci := 8) (f := 5) (x := I 4 5) (show decode (mB 100) 15 = .ok (.getfield 30, 3) by decide +kernel) (pc' := 18) rfl (ls_4 hL) (by decide +kernel) rfl rfl ?_
  refine X_iconst (v := 1) (show decode (mB 100) 18 = .ok (.iconst 1, 1) by decide +kernel) (pc' := 19) rfl rfl ?_
  refine X_iadd (show decode (mB 100) 19 = .ok (.iadd, 1) by decide +kernel) (pc' := 20) rfl ?_
  refine X_putI (ci := 8) (f := 5) (show decode (mB 100) 20 = .ok (.putfield 30, 3) by decide +kernel) (pc' := 23) rfl (ls_4 hL) (by decide +kernel) (by decide +kernel) rfl ?_
  exact k
set_option maxRecDepth 4000 in
theorem b_X9_step_23 {xs : Nat → Int32} {L d : Nat} {S : Nat → Shp} {I : Nat → Nat → Int32} {J : Nat → Nat → Int64} {R : Nat → Nat → Nat} {c : Nat × Nat} {Q : Option (Option Value) → MH → Prop}   (k : Q (some none) (S, I, J, R, c)) : X xs L d 100 23 [.ref 4] [] (S, I, J, R, c) Q := by
  exact X_return (show decode (mB 100) 23 = .ok (.return_, 1) by decide +kernel) (by decide +kernel) k
