/-! ===== P1: blocks (by wip/whole/gen/blocks.py) ===== -/
set_option maxRecDepth 4000 in
theorem b_X14_put_0 {xs : Nat → Int32} {L d : Nat} {S : Nat → Shp} {I : Nat → Nat → Int32} {J : Nat → Nat → Int64} {R : Nat → Nat → Nat} {c : Nat × Nat} {Q : Option (Option Value) → MH → Prop} {x1 : Int32}  (k : X xs L d 119 3 [.ref 65, .int x1, .int 24] [] (S, I, J, R, c) Q) : X xs L d 119 0 [.ref 65, .int x1, .null] [] (S, I, J, R, c) Q := by
  refine X_bipush (v := 24) (show decode (mB 119) 0 = .ok (.bipush 24, 2) by decide +kernel) (pc' := 2) rfl (by decide +kernel) ?_
  refine X_istore_n (q := 2) (ls' := [.ref 65, .int x1, .int 24]) (show decode (mB 119) 2 = .ok (.istore_n 2, 1) by decide +kernel) (pc' := 3) rfl rfl rfl ?_
  exact k
set_option maxRecDepth 4000 in
theorem b_X14_put_3 {xs : Nat → Int32} {L d : Nat} {S : Nat → Shp} {I : Nat → Nat → Int32} {J : Nat → Nat → Int64} {R : Nat → Nat → Nat} {c : Nat × Nat} {Q : Option (Option Value) → MH → Prop} {x1 x2 : Int32}  (kt : x2 < 0 → X xs L d 119 36 [.ref 65, .int x1, .int x2] [] (S, I, J, R, c) Q) (kf : ¬ (x2 < 0) → X xs L d 119 7 [.ref 65, .int x1, .int x2] [] (S, I, J, R, c) Q) : X xs L d 119 3 [.ref 65, .int x1, .int x2] [] (S, I, J, R, c) Q := by
  refine X_iload_n (q := 2) (show decode (mB 119) 3 = .ok (.iload_n 2, 1) by decide +kernel) (pc' := 4) rfl rfl rfl ?_
  exact X_if_lt (tgt := 36) (show decode (mB 119) 4 = .ok (.ifCond .lt 32, 3) by decide +kernel) rfl (pc' := 7) rfl kt kf
set_option maxRecDepth 4000 in
theorem b_X14_put_7 {xs : Nat → Int32} {L d : Nat} {S : Nat → Shp} {I : Nat → Nat → Int32} {J : Nat → Nat → Int64} {R : Nat → Nat → Nat} {c : Nat × Nat} {Q : Option (Option Value) → MH → Prop} {x1 x2 : Int32} (hL : Lay S R) (hb19 : inb (I 65 1) 2000 = true) (k : X xs L d 119 3 [.ref 65, .int x1, .int (x2 + (-8))] [] (S, (u2 (u2 I 66 ((I 65 1).toNatClampNeg) (vp_nar .byte ((x1 >>> (x2 &&& 31)).toInt8.toInt32))) 65 1 ((I 65 1) + 1)), J, R, c) Q) : X xs L d 119 7 [.ref 65, .int x1, .int x2] [] (S, I, J, R, c) Q := by
  refine X_aload_n (q := 0) (show decode (mB 119) 7 = .ok (.aload_n 0, 1) by decide +kernel) (pc' := 8) rfl rfl rfl ?_
  refine X_getR (ci := 13) (f := 0) (q := 66) (show decode (mB 119) 8 = .ok (.getfield 9, 3) by decide +kernel) (pc' := 11) rfl (ls_65 hL) (by decide +kernel) rfl (lr_65_0 hL) ?_
  refine X_aload_n (q := 0) (show decode (mB 119) 11 = .ok (.aload_n 0, 1) by decide +kernel) (pc' := 12) rfl rfl rfl ?_
  refine X_getI (ci := 13) (f := 1) (x := I 65 1) (show decode (mB 119) 12 = .ok (.getfield 83, 3) by decide +kernel) (pc' := 15) rfl (ls_65 hL) (by decide +kernel) rfl rfl ?_
  refine X_iload_n (q := 1) (show decode (mB 119) 15 = .ok (.iload_n 1, 1) by decide +kernel) (pc' := 16) rfl rfl rfl ?_
  refine X_iload_n (q := 2) (show decode (mB 119) 16 = .ok (.iload_n 2, 1) by decide +kernel) (pc' := 17) rfl rfl rfl ?_
  refine X_ishr (show decode (mB 119) 17 = .ok (.ishr, 1) by decide +kernel) (pc' := 18) rfl ?_
  refine X_i2b (show decode (mB 119) 18 = .ok (.i2b, 1) by decide +kernel) (pc' := 19) rfl ?_
  refine X_bastore (show decode (mB 119) 19 = .ok (.bastore, 1) by decide +kernel) (pc' := 20) rfl (ls_66 hL) hb19 ?_
  refine X_aload_n (q := 0) (show decode (mB 119) 20 = .ok (.aload_n 0, 1) by decide +kernel) (pc' := 21) rfl rfl rfl ?_
  refine X_dup (show decode (mB 119) 21 = .ok (.dup, 1) by decide +kernel) (pc' := 22) rfl rfl ?_
  refine X_getI (ci := 13) (f := 1) (x := I 65 1) (show decode (mB 119) 22 = .ok (.getfield 83, 3) by decide +kernel) (pc' := 25) rfl (ls_65 hL) (by decide +kernel) rfl (by simp [u2, u1]) ?_
  refine X_iconst (v := 1) (show decode (mB 119) 25 = .ok (.iconst 1, 1) by decide +kernel) (pc' := 26) rfl rfl ?_
  refine X_iadd (show decode (mB 119) 26 = .ok (.iadd, 1) by decide +kernel) (pc' := 27) rfl ?_
  refine X_putI (ci := 13) (f := 1) (show decode (mB 119) 27 = .ok (.putfield 83, 3) by decide +kernel) (pc' := 30) rfl (ls_65 hL) (by decide +kernel) (by decide +kernel) rfl ?_
  refine X_iinc (q := 2) (v := x2 + (-8)) (ls' := [.ref 65, .int x1, .int (x2 + (-8))]) (show decode (mB 119) 30 = .ok (.iinc 2 (-8), 3) by decide +kernel) (pc' := 33) rfl rfl rfl rfl ?_
  refine X_goto (tgt := 3) (show decode (mB 119) 33 = .ok (.goto (-30), 3) by decide +kernel) rfl ?_
  exact k
set_option maxRecDepth 4000 in
theorem b_X14_put_36 {xs : Nat → Int32} {L d : Nat} {S : Nat → Shp} {I : Nat → Nat → Int32} {J : Nat → Nat → Int64} {R : Nat → Nat → Nat} {c : Nat × Nat} {Q : Option (Option Value) → MH → Prop} {x1 x2 : Int32}  (k : Q (some none) (S, I, J, R, c)) : X xs L d 119 36 [.ref 65, .int x1, .int x2] [] (S, I, J, R, c) Q := by
  exact X_return (show decode (mB 119) 36 = .ok (.return_, 1) by decide +kernel) (by decide +kernel) k
set_option maxRecDepth 4000 in
theorem b_X14_feed_0 {xs : Nat → Int32} {L d : Nat} {S : Nat → Shp} {I : Nat → Nat → Int32} {J : Nat → Nat → Int64} {R : Nat → Nat → Nat} {c : Nat × Nat} {Q : Option (Option Value) → MH → Prop} {x1 x2 x3 x4 x5 : Int32} (hL : Lay S R)  (kt : ((I 65 1) + 20) ≤ 2000 → X xs L (d + 1) 120 16 [.ref 65, .int x1, .int x2, .int x3, .int x4, .int x5] [] (S, I, J, R, c) Q) (kf : ¬ (((I 65 1) + 20) ≤ 2000) → X xs L (d + 1) 120 13 [.ref 65, .int x1, .int x2, .int x3, .int x4, .int x5] [] (S, I, J, R, c) Q) : X xs L (d + 1) 120 0 [.ref 65, .int x1, .int x2, .int x3, .int x4, .int x5] [] (S, I, J, R, c) Q := by
  refine X_aload_n (q := 0) (show decode (mB 120) 0 = .ok (.aload_n 0, 1) by decide +kernel) (pc' := 1) rfl rfl rfl ?_
  refine X_getI (ci := 13) (f := 1) (x := I 65 1) (show decode (mB 120) 1 = .ok (.getfield 83, 3) by decide +kernel) (pc' := 4) rfl (ls_65 hL) (by decide +kernel) rfl rfl ?_
  refine X_bipush (v := 20) (show decode (mB 120) 4 = .ok (.bipush 20, 2) by decide +kernel) (pc' := 6) rfl (by decide +kernel) ?_
  refine X_iadd (show decode (mB 120) 6 = .ok (.iadd, 1) by decide +kernel) (pc' := 7) rfl ?_
  refine X_sipush (v := 2000) (show decode (mB 120) 7 = .ok (.sipush 2000, 3) by decide +kernel) (pc' := 10) rfl (by decide +kernel) ?_
  exact X_icmp_le (tgt := 16) (show decode (mB 120) 10 = .ok (.if_icmp .le 6, 3) by decide +kernel) rfl (pc' := 13) rfl kt kf
set_option maxRecDepth 4000 in
theorem b_X14_feed_13 {xs : Nat → Int32} {L d : Nat} {S : Nat → Shp} {I : Nat → Nat → Int32} {J : Nat → Nat → Int64} {R : Nat → Nat → Nat} {c : Nat × Nat} {Q : Option (Option Value) → MH → Prop} {x1 x2 x3 x4 x5 : Int32}  (k : Q (some (some (.int (-3)))) (S, I, J, R, c)) : X xs L (d + 1) 120 13 [.ref 65, .int x1, .int x2, .int x3, .int x4, .int x5] [] (S, I, J, R, c) Q := by
  refine X_bipush (v := (-3)) (show decode (mB 120) 13 = .ok (.bipush (-3), 2) by decide +kernel) (pc' := 15) rfl (by decide +kernel) ?_
  exact X_ireturn (ty := .int) (show decode (mB 120) 15 = .ok (.ireturn, 1) by decide +kernel) (by decide +kernel) rfl k
set_option maxRecDepth 4000 in
theorem b_X14_feed_16 {xs : Nat → Int32} {L d : Nat} {S : Nat → Shp} {I : Nat → Nat → Int32} {J : Nat → Nat → Int64} {R : Nat → Nat → Nat} {c : Nat × Nat} {Q : Option (Option Value) → MH → Prop} {x1 x2 x3 x4 x5 : Int32} (hL : Lay S R)  (k : X xs L d 119 0 [.ref 65, .int x1, .null] [] (S, I, J, R, c) (Kc xs L (d + 1) 120 21 [.ref 65, .int x1, .int x2, .int x3, .int x4, .int x5] [] Q)) : X xs L (d + 1) 120 16 [.ref 65, .int x1, .int x2, .int x3, .int x4, .int x5] [] (S, I, J, R, c) Q := by
  refine X_aload_n (q := 0) (show decode (mB 120) 16 = .ok (.aload_n 0, 1) by decide +kernel) (pc' := 17) rfl rfl rfl ?_
  refine X_iload_n (q := 1) (show decode (mB 120) 17 = .ok (.iload_n 1, 1) by decide +kernel) (pc' := 18) rfl rfl rfl ?_
  exact X_callV (y := 119) (n := 1) (st := [.int x1, .ref 65]) (as := [.ref 65, .int x1]) (rest := []) (ls0 := [.ref 65, .int x1, .null]) (ci := 13) (show decode (mB 120) 18 = .ok (.invokevirtual 87, 3) by decide +kernel) (pc' := 21) rfl (by decide +kernel) (by decide +kernel) rfl (ls_65 hL) (by decide +kernel) rfl rfl rfl rfl rfl k
set_option maxRecDepth 4000 in
theorem b_X14_feed_21 {xs : Nat → Int32} {L d : Nat} {S : Nat → Shp} {I : Nat → Nat → Int32} {J : Nat → Nat → Int64} {R : Nat → Nat → Nat} {c : Nat × Nat} {Q : Option (Option Value) → MH → Prop} {x1 x2 x3 x4 x5 : Int32} (hL : Lay S R)  (k : X xs L d 119 0 [.ref 65, .int x2, .null] [] (S, I, J, R, c) (Kc xs L (d + 1) 120 26 [.ref 65, .int x1, .int x2, .int x3, .int x4, .int x5] [] Q)) : X xs L (d + 1) 120 21 [.ref 65, .int x1, .int x2, .int x3, .int x4, .int x5] [] (S, I, J, R, c) Q := by
  refine X_aload_n (q := 0) (show decode (mB 120) 21 = .ok (.aload_n 0, 1) by decide +kernel) (pc' := 22) rfl rfl rfl ?_
  refine X_iload_n (q := 2) (show decode (mB 120) 22 = .ok (.iload_n 2, 1) by decide +kernel) (pc' := 23) rfl rfl rfl ?_
  exact X_callV (y := 119) (n := 1) (st := [.int x2, .ref 65]) (as := [.ref 65, .int x2]) (rest := []) (ls0 := [.ref 65, .int x2, .null]) (ci := 13) (show decode (mB 120) 23 = .ok (.invokevirtual 87, 3) by decide +kernel) (pc' := 26) rfl (by decide +kernel) (by decide +kernel) rfl (ls_65 hL) (by decide +kernel) rfl rfl rfl rfl rfl k
set_option maxRecDepth 4000 in
theorem b_X14_feed_26 {xs : Nat → Int32} {L d : Nat} {S : Nat → Shp} {I : Nat → Nat → Int32} {J : Nat → Nat → Int64} {R : Nat → Nat → Nat} {c : Nat × Nat} {Q : Option (Option Value) → MH → Prop} {x1 x2 x3 x4 x5 : Int32} (hL : Lay S R)  (k : X xs L d 119 0 [.ref 65, .int x3, .null] [] (S, I, J, R, c) (Kc xs L (d + 1) 120 31 [.ref 65, .int x1, .int x2, .int x3, .int x4, .int x5] [] Q)) : X xs L (d + 1) 120 26 [.ref 65, .int x1, .int x2, .int x3, .int x4, .int x5] [] (S, I, J, R, c) Q := by
  refine X_aload_n (q := 0) (show decode (mB 120) 26 = .ok (.aload_n 0, 1) by decide +kernel) (pc' := 27) rfl rfl rfl ?_
  refine X_iload_n (q := 3) (show decode (mB 120) 27 = .ok (.iload_n 3, 1) by decide +kernel) (pc' := 28) rfl rfl rfl ?_
  exact X_callV (y := 119) (n := 1) (st := [.int x3, .ref 65]) (as := [.ref 65, .int x3]) (rest := []) (ls0 := [.ref 65, .int x3, .null]) (ci := 13) (show decode (mB 120) 28 = .ok (.invokevirtual 87, 3) by decide +kernel) (pc' := 31) rfl (by decide +kernel) (by decide +kernel) rfl (ls_65 hL) (by decide +kernel) rfl rfl rfl rfl rfl k
set_option maxRecDepth 4000 in
theorem b_X14_feed_31 {xs : Nat → Int32} {L d : Nat} {S : Nat → Shp} {I : Nat → Nat → Int32} {J : Nat → Nat → Int64} {R : Nat → Nat → Nat} {c : Nat × Nat} {Q : Option (Option Value) → MH → Prop} {x1 x2 x3 x4 x5 : Int32} (hL : Lay S R)  (k : X xs L d 119 0 [.ref 65, .int x4, .null] [] (S, I, J, R, c) (Kc xs L (d + 1) 120 37 [.ref 65, .int x1, .int x2, .int x3, .int x4, .int x5] [] Q)) : X xs L (d + 1) 120 31 [.ref 65, .int x1, .int x2, .int x3, .int x4, .int x5] [] (S, I, J, R, c) Q := by
  refine X_aload_n (q := 0) (show decode (mB 120) 31 = .ok (.aload_n 0, 1) by decide +kernel) (pc' := 32) rfl rfl rfl ?_
  refine X_iload (q := 4) (show decode (mB 120) 32 = .ok (.iload 4, 2) by decide +kernel) (pc' := 34) rfl rfl ?_
  exact X_callV (y := 119) (n := 1) (st := [.int x4, .ref 65]) (as := [.ref 65, .int x4]) (rest := []) (ls0 := [.ref 65, .int x4, .null]) (ci := 13) (show decode (mB 120) 34 = .ok (.invokevirtual 87, 3) by decide +kernel) (pc' := 37) rfl (by decide +kernel) (by decide +kernel) rfl (ls_65 hL) (by decide +kernel) rfl rfl rfl rfl rfl k
set_option maxRecDepth 4000 in
theorem b_X14_feed_37 {xs : Nat → Int32} {L d : Nat} {S : Nat → Shp} {I : Nat → Nat → Int32} {J : Nat → Nat → Int64} {R : Nat → Nat → Nat} {c : Nat × Nat} {Q : Option (Option Value) → MH → Prop} {x1 x2 x3 x4 x5 : Int32} (hL : Lay S R)  (k : X xs L d 119 0 [.ref 65, .int x5, .null] [] (S, I, J, R, c) (Kc xs L (d + 1) 120 43 [.ref 65, .int x1, .int x2, .int x3, .int x4, .int x5] [] Q)) : X xs L (d + 1) 120 37 [.ref 65, .int x1, .int x2, .int x3, .int x4, .int x5] [] (S, I, J, R, c) Q := by
  refine X_aload_n (q := 0) (show decode (mB 120) 37 = .ok (.aload_n 0, 1) by decide +kernel) (pc' := 38) rfl rfl rfl ?_
  refine X_iload (q := 5) (show decode (mB 120) 38 = .ok (.iload 5, 2) by decide +kernel) (pc' := 40) rfl rfl ?_
  exact X_callV (y := 119) (n := 1) (st := [.int x5, .ref 65]) (as := [.ref 65, .int x5]) (rest := []) (ls0 := [.ref 65, .int x5, .null]) (ci := 13) (show decode (mB 120) 40 = .ok (.invokevirtual 87, 3) by decide +kernel) (pc' := 43) rfl (by decide +kernel) (by decide +kernel) rfl (ls_65 hL) (by decide +kernel) rfl rfl rfl rfl rfl k
set_option maxRecDepth 4000 in
theorem b_X14_feed_43 {xs : Nat → Int32} {L d : Nat} {S : Nat → Shp} {I : Nat → Nat → Int32} {J : Nat → Nat → Int64} {R : Nat → Nat → Nat} {c : Nat × Nat} {Q : Option (Option Value) → MH → Prop} {x1 x2 x3 x4 x5 : Int32} (hL : Lay S R)  (k : Q (some (some (.int (I 65 1)))) (S, I, J, R, c)) : X xs L (d + 1) 120 43 [.ref 65, .int x1, .int x2, .int x3, .int x4, .int x5] [] (S, I, J, R, c) Q := by
  refine X_aload_n (q := 0) (show decode (mB 120) 43 = .ok (.aload_n 0, 1) by decide +kernel) (pc' := 44) rfl rfl rfl ?_
  refine X_getI (ci := 13) (f := 1) (x := I 65 1) (show decode (mB 120) 44 = .ok (.getfield 83, 3) by decide +kernel) (pc' := 47) rfl (ls_65 hL) (by decide +kernel) rfl rfl ?_
  exact X_ireturn (ty := .int) (show decode (mB 120) 47 = .ok (.ireturn, 1) by decide +kernel) (by decide +kernel) rfl k
set_option maxRecDepth 4000 in
theorem b_X14_end_0 {xs : Nat → Int32} {L d : Nat} {S : Nat → Shp} {I : Nat → Nat → Int32} {J : Nat → Nat → Int64} {R : Nat → Nat → Nat} {c : Nat × Nat} {Q : Option (Option Value) → MH → Prop} {x1 : Int32}  (kt : x1 < 0 → X xs L d 121 12 [.ref 65, .int x1] [] (S, I, J, R, c) Q) (kf : ¬ (x1 < 0) → X xs L d 121 4 [.ref 65, .int x1] [] (S, I, J, R, c) Q) : X xs L d 121 0 [.ref 65, .int x1] [] (S, I, J, R, c) Q := by
  refine X_iload_n (q := 1) (show decode (mB 121) 0 = .ok (.iload_n 1, 1) by decide +kernel) (pc' := 1) rfl rfl rfl ?_
  exact X_if_lt (tgt := 12) (show decode (mB 121) 1 = .ok (.ifCond .lt 11, 3) by decide +kernel) rfl (pc' := 4) rfl kt kf
set_option maxRecDepth 4000 in
theorem b_X14_end_4 {xs : Nat → Int32} {L d : Nat} {S : Nat → Shp} {I : Nat → Nat → Int32} {J : Nat → Nat → Int64} {R : Nat → Nat → Nat} {c : Nat × Nat} {Q : Option (Option Value) → MH → Prop} {x1 : Int32} (hL : Lay S R)  (kt : x1 ≤ (I 65 1) → X xs L d 121 14 [.ref 65, .int x1] [] (S, I, J, R, c) Q) (kf : ¬ (x1 ≤ (I 65 1)) → X xs L d 121 12 [.ref 65, .int x1] [] (S, I, J, R, c) Q) : X xs L d 121 4 [.ref 65, .int x1] [] (S, I, J, R, c) Q := by
  refine X_iload_n (q := 1) (show decode (mB 121) 4 = .ok (.iload_n 1, 1) by decide +kernel) (pc' := 5) rfl rfl rfl ?_
  refine X_aload_n (q := 0) (show decode (mB 121) 5 = .ok (.aload_n 0, 1) by decide +kernel) (pc' := 6) rfl rfl rfl ?_
  refine X_getI (ci := 13) (f := 1) (x := I 65 1) (show decode (mB 121) 6 = .ok (.getfield 83, 3) by decide +kernel) (pc' := 9) rfl (ls_65 hL) (by decide +kernel) rfl rfl ?_
  exact X_icmp_le (tgt := 14) (show decode (mB 121) 9 = .ok (.if_icmp .le 5, 3) by decide +kernel) rfl (pc' := 12) rfl kt kf
set_option maxRecDepth 4000 in
theorem b_X14_end_12 {xs : Nat → Int32} {L d : Nat} {S : Nat → Shp} {I : Nat → Nat → Int32} {J : Nat → Nat → Int64} {R : Nat → Nat → Nat} {c : Nat × Nat} {Q : Option (Option Value) → MH → Prop} {x1 : Int32}  (k : Q (some (some (.int (-1)))) (S, I, J, R, c)) : X xs L d 121 12 [.ref 65, .int x1] [] (S, I, J, R, c) Q := by
  refine X_iconst (v := (-1)) (show decode (mB 121) 12 = .ok (.iconst (-1), 1) by decide +kernel) (pc' := 13) rfl rfl ?_
  exact X_ireturn (ty := .int) (show decode (mB 121) 13 = .ok (.ireturn, 1) by decide +kernel) (by decide +kernel) rfl k
set_option maxRecDepth 4000 in
theorem b_X14_end_14 {xs : Nat → Int32} {L d : Nat} {S : Nat → Shp} {I : Nat → Nat → Int32} {J : Nat → Nat → Int64} {R : Nat → Nat → Nat} {c : Nat × Nat} {Q : Option (Option Value) → MH → Prop} {x1 : Int32} (hL : Lay S R)  (k : Q (some (some (.int x1))) (S, (u2 I 65 1 x1), J, R, c)) : X xs L d 121 14 [.ref 65, .int x1] [] (S, I, J, R, c) Q := by
  refine X_aload_n (q := 0) (show decode (mB 121) 14 = .ok (.aload_n 0, 1) by decide +kernel) (pc' := 15) rfl rfl rfl ?_
  refine X_iload_n (q := 1) (show decode (mB 121) 15 = .ok (.iload_n 1, 1) by decide +kernel) (pc' := 16) rfl rfl rfl ?_
  refine X_putI (ci := 13) (f := 1) (show decode (mB 121) 16 = .ok (.putfield 83, 3) by decide +kernel) (pc' := 19) rfl (ls_65 hL) (by decide +kernel) (by decide +kernel) rfl ?_
  refine X_iload_n (q := 1) (show decode (mB 121) 19 = .ok (.iload_n 1, 1) by decide +kernel) (pc' := 20) rfl rfl rfl ?_
  exact X_ireturn (ty := .int) (show decode (mB 121) 20 = .ok (.ireturn, 1) by decide +kernel) (by decide +kernel) rfl k
set_option maxRecDepth 4000 in
theorem b_X14_byteAt_0 {xs : Nat → Int32} {L d : Nat} {S : Nat → Shp} {I : Nat → Nat → Int32} {J : Nat → Nat → Int64} {R : Nat → Nat → Nat} {c : Nat × Nat} {Q : Option (Option Value) → MH → Prop} {x1 : Int32} (hL : Lay S R)  (kt : (I 65 1) ≤ x1 → X xs L d 122 17 [.ref 65, .int x1] [] (S, I, J, R, c) Q) (kf : ¬ ((I 65 1) ≤ x1) → X xs L d 122 8 [.ref 65, .int x1] [] (S, I, J, R, c) Q) : X xs L d 122 0 [.ref 65, .int x1] [] (S, I, J, R, c) Q := by
  refine X_iload_n (q := 1) (show decode (mB 122) 0 = .ok (.iload_n 1, 1) by decide +kernel) (pc' := 1) rfl rfl rfl ?_
  refine X_aload_n (q := 0) (show decode (mB 122) 1 = .ok (.aload_n 0, 1) by decide +kernel) (pc' := 2) rfl rfl rfl ?_
  refine X_getI (ci := 13) (f := 1) (x := I 65 1) (show decode (mB 122) 2 = .ok (.getfield 83, 3) by decide +kernel) (pc' := 5) rfl (ls_65 hL) (by decide +kernel) rfl rfl ?_
  exact X_icmp_ge (tgt := 17) (show decode (mB 122) 5 = .ok (.if_icmp .ge 12, 3) by decide +kernel) rfl (pc' := 8) rfl kt kf
set_option maxRecDepth 4000 in
theorem b_X14_byteAt_8 {xs : Nat → Int32} {L d : Nat} {S : Nat → Shp} {I : Nat → Nat → Int32} {J : Nat → Nat → Int64} {R : Nat → Nat → Nat} {c : Nat × Nat} {Q : Option (Option Value) → MH → Prop} {x1 : Int32} (hL : Lay S R) (hb13 : inb x1 2000 = true) (k : X xs L d 122 18 [.ref 65, .int x1] [.int (I 66 x1.toNatClampNeg)] (S, I, J, R, c) Q) : X xs L d 122 8 [.ref 65, .int x1] [] (S, I, J, R, c) Q := by
  refine X_aload_n (q := 0) (show decode (mB 122) 8 = .ok (.aload_n 0, 1) by decide +kernel) (pc' := 9) rfl rfl rfl ?_
  refine X_getR (ci := 13) (f := 0) (q := 66) (show decode (mB 122) 9 = .ok (.getfield 9, 3) by decide +kernel) (pc' := 12) rfl (ls_65 hL) (by decide +kernel) rfl (lr_65_0 hL) ?_
  refine X_iload_n (q := 1) (show decode (mB 122) 12 = .ok (.iload_n 1, 1) by decide +kernel) (pc' := 13) rfl rfl rfl ?_
  refine X_baload (w := I 66 x1.toNatClampNeg) (show decode (mB 122) 13 = .ok (.baload, 1) by decide +kernel) (pc' := 14) rfl (ls_66 hL) hb13 rfl ?_
  refine X_goto (tgt := 18) (show decode (mB 122) 14 = .ok (.goto 4, 3) by decide +kernel) rfl ?_
  exact k
set_option maxRecDepth 4000 in
theorem b_X14_byteAt_17 {xs : Nat → Int32} {L d : Nat} {S : Nat → Shp} {I : Nat → Nat → Int32} {J : Nat → Nat → Int64} {R : Nat → Nat → Nat} {c : Nat × Nat} {Q : Option (Option Value) → MH → Prop} {x1 : Int32}  (k : X xs L d 122 18 [.ref 65, .int x1] [.int (-1)] (S, I, J, R, c) Q) : X xs L d 122 17 [.ref 65, .int x1] [] (S, I, J, R, c) Q := by
  refine X_iconst (v := (-1)) (show decode (mB 122) 17 = .ok (.iconst (-1), 1) by decide +kernel) (pc' := 18) rfl rfl ?_
  exact k
set_option maxRecDepth 4000 in
theorem b_X14_byteAt_18 {xs : Nat → Int32} {L d : Nat} {S : Nat → Shp} {I : Nat → Nat → Int32} {J : Nat → Nat → Int64} {R : Nat → Nat → Nat} {c : Nat × Nat} {Q : Option (Option Value) → MH → Prop} {x1 sx0 : Int32}  (k : Q (some (some (.int sx0))) (S, I, J, R, c)) : X xs L d 122 18 [.ref 65, .int x1] [.int sx0] (S, I, J, R, c) Q := by
  exact X_ireturn (ty := .int) (show decode (mB 122) 18 = .ok (.ireturn, 1) by decide +kernel) (by decide +kernel) rfl k
set_option maxRecDepth 4000 in
theorem b_X14_digit_0 {xs : Nat → Int32} {L d : Nat} {S : Nat → Shp} {I : Nat → Nat → Int32} {J : Nat → Nat → Int64} {R : Nat → Nat → Nat} {c : Nat × Nat} {Q : Option (Option Value) → MH → Prop} {x0 : Int32}  (kt : x0 < 48 → X xs L d 123 16 [.int x0] [] (S, I, J, R, c) Q) (kf : ¬ (x0 < 48) → X xs L d 123 6 [.int x0] [] (S, I, J, R, c) Q) : X xs L d 123 0 [.int x0] [] (S, I, J, R, c) Q := by
  refine X_iload_n (q := 0) (show decode (mB 123) 0 = .ok (.iload_n 0, 1) by decide +kernel) (pc' := 1) rfl rfl rfl ?_
  refine X_bipush (v := 48) (show decode (mB 123) 1 = .ok (.bipush 48, 2) by decide +kernel) (pc' := 3) rfl (by decide +kernel) ?_
  exact X_icmp_lt (tgt := 16) (show decode (mB 123) 3 = .ok (.if_icmp .lt 13, 3) by decide +kernel) rfl (pc' := 6) rfl kt kf
set_option maxRecDepth 4000 in
theorem b_X14_digit_6 {xs : Nat → Int32} {L d : Nat} {S : Nat → Shp} {I : Nat → Nat → Int32} {J : Nat → Nat → Int64} {R : Nat → Nat → Nat} {c : Nat × Nat} {Q : Option (Option Value) → MH → Prop} {x0 : Int32}  (kt : 57 < x0 → X xs L d 123 16 [.int x0] [] (S, I, J, R, c) Q) (kf : ¬ (57 < x0) → X xs L d 123 12 [.int x0] [] (S, I, J, R, c) Q) : X xs L d 123 6 [.int x0] [] (S, I, J, R, c) Q := by
  refine X_iload_n (q := 0) (show decode (mB 123) 6 = .ok (.iload_n 0, 1) by decide +kernel) (pc' := 7) rfl rfl rfl ?_
  refine X_bipush (v := 57) (show decode (mB 123) 7 = .ok (.bipush 57, 2) by decide +kernel) (pc' := 9) rfl (by decide +kernel) ?_
  exact X_icmp_gt (tgt := 16) (show decode (mB 123) 9 = .ok (.if_icmp .gt 7, 3) by decide +kernel) rfl (pc' := 12) rfl kt kf
set_option maxRecDepth 4000 in
theorem b_X14_digit_12 {xs : Nat → Int32} {L d : Nat} {S : Nat → Shp} {I : Nat → Nat → Int32} {J : Nat → Nat → Int64} {R : Nat → Nat → Nat} {c : Nat × Nat} {Q : Option (Option Value) → MH → Prop} {x0 : Int32}  (k : X xs L d 123 17 [.int x0] [.int 1] (S, I, J, R, c) Q) : X xs L d 123 12 [.int x0] [] (S, I, J, R, c) Q := by
  refine X_iconst (v := 1) (show decode (mB 123) 12 = .ok (.iconst 1, 1) by decide +kernel) (pc' := 13) rfl rfl ?_
  refine X_goto (tgt := 17) (show decode (mB 123) 13 = .ok (.goto 4, 3) by decide +kernel) rfl ?_
  exact k
set_option maxRecDepth 4000 in
theorem b_X14_digit_16 {xs : Nat → Int32} {L d : Nat} {S : Nat → Shp} {I : Nat → Nat → Int32} {J : Nat → Nat → Int64} {R : Nat → Nat → Nat} {c : Nat × Nat} {Q : Option (Option Value) → MH → Prop} {x0 : Int32}  (k : X xs L d 123 17 [.int x0] [.int 0] (S, I, J, R, c) Q) : X xs L d 123 16 [.int x0] [] (S, I, J, R, c) Q := by
  refine X_iconst (v := 0) (show decode (mB 123) 16 = .ok (.iconst 0, 1) by decide +kernel) (pc' := 17) rfl rfl ?_
  exact k
set_option maxRecDepth 4000 in
theorem b_X14_digit_17 {xs : Nat → Int32} {L d : Nat} {S : Nat → Shp} {I : Nat → Nat → Int32} {J : Nat → Nat → Int64} {R : Nat → Nat → Nat} {c : Nat × Nat} {Q : Option (Option Value) → MH → Prop} {x0 sx0 : Int32} (hz17 : sx0 = 0 ∨ sx0 = 1) (k : Q (some (some (.int sx0))) (S, I, J, R, c)) : X xs L d 123 17 [.int x0] [.int sx0] (S, I, J, R, c) Q := by
  exact X_ireturn (ty := .boolean) (show decode (mB 123) 17 = .ok (.ireturn, 1) by decide +kernel) (by decide +kernel) (nz hz17) k
set_option maxRecDepth 4000 in
theorem b_X14_small_0 {xs : Nat → Int32} {L d : Nat} {S : Nat → Shp} {I : Nat → Nat → Int32} {J : Nat → Nat → Int64} {R : Nat → Nat → Nat} {c : Nat × Nat} {Q : Option (Option Value) → MH → Prop} {x0 : Int32}  (kt : x0 < 97 → X xs L d 124 16 [.int x0] [] (S, I, J, R, c) Q) (kf : ¬ (x0 < 97) → X xs L d 124 6 [.int x0] [] (S, I, J, R, c) Q) : X xs L d 124 0 [.int x0] [] (S, I, J, R, c) Q := by
  refine X_iload_n (q := 0) (show decode (mB 124) 0 = .ok (.iload_n 0, 1) by decide +kernel) (pc' := 1) rfl rfl rfl ?_
  refine X_bipush (v := 97) (show decode (mB 124) 1 = .ok (.bipush 97, 2) by decide +kernel) (pc' := 3) rfl (by decide +kernel) ?_
  exact X_icmp_lt (tgt := 16) (show decode (mB 124) 3 = .ok (.if_icmp .lt 13, 3) by decide +kernel) rfl (pc' := 6) rfl kt kf
set_option maxRecDepth 4000 in
theorem b_X14_small_6 {xs : Nat → Int32} {L d : Nat} {S : Nat → Shp} {I : Nat → Nat → Int32} {J : Nat → Nat → Int64} {R : Nat → Nat → Nat} {c : Nat × Nat} {Q : Option (Option Value) → MH → Prop} {x0 : Int32}  (kt : 122 < x0 → X xs L d 124 16 [.int x0] [] (S, I, J, R, c) Q) (kf : ¬ (122 < x0) → X xs L d 124 12 [.int x0] [] (S, I, J, R, c) Q) : X xs L d 124 6 [.int x0] [] (S, I, J, R, c) Q := by
  refine X_iload_n (q := 0) (show decode (mB 124) 6 = .ok (.iload_n 0, 1) by decide +kernel) (pc' := 7) rfl rfl rfl ?_
  refine X_bipush (v := 122) (show decode (mB 124) 7 = .ok (.bipush 122, 2) by decide +kernel) (pc' := 9) rfl (by decide +kernel) ?_
  exact X_icmp_gt (tgt := 16) (show decode (mB 124) 9 = .ok (.if_icmp .gt 7, 3) by decide +kernel) rfl (pc' := 12) rfl kt kf
set_option maxRecDepth 4000 in
theorem b_X14_small_12 {xs : Nat → Int32} {L d : Nat} {S : Nat → Shp} {I : Nat → Nat → Int32} {J : Nat → Nat → Int64} {R : Nat → Nat → Nat} {c : Nat × Nat} {Q : Option (Option Value) → MH → Prop} {x0 : Int32}  (k : X xs L d 124 17 [.int x0] [.int 1] (S, I, J, R, c) Q) : X xs L d 124 12 [.int x0] [] (S, I, J, R, c) Q := by
  refine X_iconst (v := 1) (show decode (mB 124) 12 = .ok (.iconst 1, 1) by decide +kernel) (pc' := 13) rfl rfl ?_
  refine X_goto (tgt := 17) (show decode (mB 124) 13 = .ok (.goto 4, 3) by decide +kernel) rfl ?_
  exact k
set_option maxRecDepth 4000 in
theorem b_X14_small_16 {xs : Nat → Int32} {L d : Nat} {S : Nat → Shp} {I : Nat → Nat → Int32} {J : Nat → Nat → Int64} {R : Nat → Nat → Nat} {c : Nat × Nat} {Q : Option (Option Value) → MH → Prop} {x0 : Int32}  (k : X xs L d 124 17 [.int x0] [.int 0] (S, I, J, R, c) Q) : X xs L d 124 16 [.int x0] [] (S, I, J, R, c) Q := by
  refine X_iconst (v := 0) (show decode (mB 124) 16 = .ok (.iconst 0, 1) by decide +kernel) (pc' := 17) rfl rfl ?_
  exact k
set_option maxRecDepth 4000 in
theorem b_X14_small_17 {xs : Nat → Int32} {L d : Nat} {S : Nat → Shp} {I : Nat → Nat → Int32} {J : Nat → Nat → Int64} {R : Nat → Nat → Nat} {c : Nat × Nat} {Q : Option (Option Value) → MH → Prop} {x0 sx0 : Int32} (hz17 : sx0 = 0 ∨ sx0 = 1) (k : Q (some (some (.int sx0))) (S, I, J, R, c)) : X xs L d 124 17 [.int x0] [.int sx0] (S, I, J, R, c) Q := by
  exact X_ireturn (ty := .boolean) (show decode (mB 124) 17 = .ok (.ireturn, 1) by decide +kernel) (by decide +kernel) (nz hz17) k
set_option maxRecDepth 4000 in
theorem b_X14_capital_0 {xs : Nat → Int32} {L d : Nat} {S : Nat → Shp} {I : Nat → Nat → Int32} {J : Nat → Nat → Int64} {R : Nat → Nat → Nat} {c : Nat × Nat} {Q : Option (Option Value) → MH → Prop} {x0 : Int32}  (kt : x0 < 65 → X xs L d 125 16 [.int x0] [] (S, I, J, R, c) Q) (kf : ¬ (x0 < 65) → X xs L d 125 6 [.int x0] [] (S, I, J, R, c) Q) : X xs L d 125 0 [.int x0] [] (S, I, J, R, c) Q := by
  refine X_iload_n (q := 0) (show decode (mB 125) 0 = .ok (.iload_n 0, 1) by decide +kernel) (pc' := 1) rfl rfl rfl ?_
  refine X_bipush (v := 65) (show decode (mB 125) 1 = .ok (.bipush 65, 2) by decide +kernel) (pc' := 3) rfl (by decide +kernel) ?_
  exact X_icmp_lt (tgt := 16) (show decode (mB 125) 3 = .ok (.if_icmp .lt 13, 3) by decide +kernel) rfl (pc' := 6) rfl kt kf
set_option maxRecDepth 4000 in
theorem b_X14_capital_6 {xs : Nat → Int32} {L d : Nat} {S : Nat → Shp} {I : Nat → Nat → Int32} {J : Nat → Nat → Int64} {R : Nat → Nat → Nat} {c : Nat × Nat} {Q : Option (Option Value) → MH → Prop} {x0 : Int32}  (kt : 90 < x0 → X xs L d 125 16 [.int x0] [] (S, I, J, R, c) Q) (kf : ¬ (90 < x0) → X xs L d 125 12 [.int x0] [] (S, I, J, R, c) Q) : X xs L d 125 6 [.int x0] [] (S, I, J, R, c) Q := by
  refine X_iload_n (q := 0) (show decode (mB 125) 6 = .ok (.iload_n 0, 1) by decide +kernel) (pc' := 7) rfl rfl rfl ?_
  refine X_bipush (v := 90) (show decode (mB 125) 7 = .ok (.bipush 90, 2) by decide +kernel) (pc' := 9) rfl (by decide +kernel) ?_
  exact X_icmp_gt (tgt := 16) (show decode (mB 125) 9 = .ok (.if_icmp .gt 7, 3) by decide +kernel) rfl (pc' := 12) rfl kt kf
set_option maxRecDepth 4000 in
theorem b_X14_capital_12 {xs : Nat → Int32} {L d : Nat} {S : Nat → Shp} {I : Nat → Nat → Int32} {J : Nat → Nat → Int64} {R : Nat → Nat → Nat} {c : Nat × Nat} {Q : Option (Option Value) → MH → Prop} {x0 : Int32}  (k : X xs L d 125 17 [.int x0] [.int 1] (S, I, J, R, c) Q) : X xs L d 125 12 [.int x0] [] (S, I, J, R, c) Q := by
  refine X_iconst (v := 1) (show decode (mB 125) 12 = .ok (.iconst 1, 1) by decide +kernel) (pc' := 13) rfl rfl ?_
  refine X_goto (tgt := 17) (show decode (mB 125) 13 = .ok (.goto 4, 3) by decide +kernel) rfl ?_
  exact k
set_option maxRecDepth 4000 in
theorem b_X14_capital_16 {xs : Nat → Int32} {L d : Nat} {S : Nat → Shp} {I : Nat → Nat → Int32} {J : Nat → Nat → Int64} {R : Nat → Nat → Nat} {c : Nat × Nat} {Q : Option (Option Value) → MH → Prop} {x0 : Int32}  (k : X xs L d 125 17 [.int x0] [.int 0] (S, I, J, R, c) Q) : X xs L d 125 16 [.int x0] [] (S, I, J, R, c) Q := by
  refine X_iconst (v := 0) (show decode (mB 125) 16 = .ok (.iconst 0, 1) by decide +kernel) (pc' := 17) rfl rfl ?_
  exact k
set_option maxRecDepth 4000 in
theorem b_X14_capital_17 {xs : Nat → Int32} {L d : Nat} {S : Nat → Shp} {I : Nat → Nat → Int32} {J : Nat → Nat → Int64} {R : Nat → Nat → Nat} {c : Nat × Nat} {Q : Option (Option Value) → MH → Prop} {x0 sx0 : Int32} (hz17 : sx0 = 0 ∨ sx0 = 1) (k : Q (some (some (.int sx0))) (S, I, J, R, c)) : X xs L d 125 17 [.int x0] [.int sx0] (S, I, J, R, c) Q := by
  exact X_ireturn (ty := .boolean) (show decode (mB 125) 17 = .ok (.ireturn, 1) by decide +kernel) (by decide +kernel) (nz hz17) k
set_option maxRecDepth 4000 in
theorem b_X14_readTokens_0 {xs : Nat → Int32} {L d : Nat} {S : Nat → Shp} {I : Nat → Nat → Int32} {J : Nat → Nat → Int64} {R : Nat → Nat → Nat} {c : Nat × Nat} {Q : Option (Option Value) → MH → Prop}  (hL : Lay S R)  (k : X xs L (d + 8) 126 7 [.ref 65, .int 0, .null, .null, .null, .null, .null, .null] [] (S, (u2 I 65 6 0), J, R, c) Q) : X xs L (d + 8) 126 0 [.ref 65, .null, .null, .null, .null, .null, .null, .null] [] (S, I, J, R, c) Q := by
  refine X_aload_n (q := 0) (show decode (mB 126) 0 = .ok (.aload_n 0, 1) by decide +kernel) (pc' := 1) rfl rfl rfl ?_
  refine X_iconst (v := 0) (show decode (mB 126) 1 = .ok (.iconst 0, 1) by decide +kernel) (pc' := 2) rfl rfl ?_
  refine X_putI (ci := 13) (f := 6) (show decode (mB 126) 2 = .ok (.putfield 91, 3) by decide +kernel) (pc' := 5) rfl (ls_65 hL) (by decide +kernel) (by decide +kernel) rfl ?_
  refine X_iconst (v := 0) (show decode (mB 126) 5 = .ok (.iconst 0, 1) by decide +kernel) (pc' := 6) rfl rfl ?_
  refine X_istore_n (q := 1) (ls' := [.ref 65, .int 0, .null, .null, .null, .null, .null, .null]) (show decode (mB 126) 6 = .ok (.istore_n 1, 1) by decide +kernel) (pc' := 7) rfl rfl rfl ?_
  exact k
set_option maxRecDepth 4000 in
theorem b_X14_readTokens_7 {xs : Nat → Int32} {L d : Nat} {S : Nat → Shp} {I : Nat → Nat → Int32} {J : Nat → Nat → Int64} {R : Nat → Nat → Nat} {c : Nat × Nat} {Q : Option (Option Value) → MH → Prop} {x1 : Int32} {v2 v3 v4 v6 v7 : Value} (hL : Lay S R)  (kt : (I 65 1) ≤ x1 → X xs L (d + 8) 126 380 [.ref 65, .int x1, v2, v3, v4, .null, v6, v7] [] (S, I, J, R, c) Q) (kf : ¬ ((I 65 1) ≤ x1) → X xs L (d + 8) 126 15 [.ref 65, .int x1, v2, v3, v4, .null, v6, v7] [] (S, I, J, R, c) Q) : X xs L (d + 8) 126 7 [.ref 65, .int x1, v2, v3, v4, .null, v6, v7] [] (S, I, J, R, c) Q := by
  refine X_iload_n (q := 1) (show decode (mB 126) 7 = .ok (.iload_n 1, 1) by decide +kernel) (pc' := 8) rfl rfl rfl ?_
  refine X_aload_n (q := 0) (show decode (mB 126) 8 = .ok (.aload_n 0, 1) by decide +kernel) (pc' := 9) rfl rfl rfl ?_
  refine X_getI (ci := 13) (f := 1) (x := I 65 1) (show decode (mB 126) 9 = .ok (.getfield 83, 3) by decide +kernel) (pc' := 12) rfl (ls_65 hL) (by decide +kernel) rfl rfl ?_
  exact X_icmp_ge (tgt := 380) (show decode (mB 126) 12 = .ok (.if_icmp .ge 368, 3) by decide +kernel) rfl (pc' := 15) rfl kt kf
set_option maxRecDepth 4000 in
theorem b_X14_readTokens_15 {xs : Nat → Int32} {L d : Nat} {S : Nat → Shp} {I : Nat → Nat → Int32} {J : Nat → Nat → Int64} {R : Nat → Nat → Nat} {c : Nat × Nat} {Q : Option (Option Value) → MH → Prop} {x1 : Int32} {v2 v3 v4 v6 v7 : Value} (hL : Lay S R) (hb20 : inb x1 2000 = true) (kt : (I 66 x1.toNatClampNeg) = 32 → X xs L (d + 8) 126 34 [.ref 65, .int x1, .int (I 66 x1.toNatClampNeg), v3, v4, .null, v6, v7] [] (S, I, J, R, c) Q) (kf : ¬ ((I 66 x1.toNatClampNeg) = 32) → X xs L (d + 8) 126 28 [.ref 65, .int x1, .int (I 66 x1.toNatClampNeg), v3, v4, .null, v6, v7] [] (S, I, J, R, c) Q) : X xs L (d + 8) 126 15 [.ref 65, .int x1, v2, v3, v4, .null, v6, v7] [] (S, I, J, R, c) Q := by
  refine X_aload_n (q := 0) (show decode (mB 126) 15 = .ok (.aload_n 0, 1) by decide +kernel) (pc' := 16) rfl rfl rfl ?_
  refine X_getR (ci := 13) (f := 0) (q := 66) (show decode (mB 126) 16 = .ok (.getfield 9, 3) by decide +kernel) (pc' := 19) rfl (ls_65 hL) (by decide +kernel) rfl (lr_65_0 hL) ?_
  refine X_iload_n (q := 1) (show decode (mB 126) 19 = .ok (.iload_n 1, 1) by decide +kernel) (pc' := 20) rfl rfl rfl ?_
  refine X_baload (w := I 66 x1.toNatClampNeg) (show decode (mB 126) 20 = .ok (.baload, 1) by decide +kernel) (pc' := 21) rfl (ls_66 hL) hb20 rfl ?_
  refine X_istore_n (q := 2) (ls' := [.ref 65, .int x1, .int (I 66 x1.toNatClampNeg), v3, v4, .null, v6, v7]) (show decode (mB 126) 21 = .ok (.istore_n 2, 1) by decide +kernel) (pc' := 22) rfl rfl rfl ?_
  refine X_iload_n (q := 2) (show decode (mB 126) 22 = .ok (.iload_n 2, 1) by decide +kernel) (pc' := 23) rfl rfl rfl ?_
  refine X_bipush (v := 32) (show decode (mB 126) 23 = .ok (.bipush 32, 2) by decide +kernel) (pc' := 25) rfl (by decide +kernel) ?_
  exact X_icmp_eq (tgt := 34) (show decode (mB 126) 25 = .ok (.if_icmp .eq 9, 3) by decide +kernel) rfl (pc' := 28) rfl kt kf
set_option maxRecDepth 4000 in
theorem b_X14_readTokens_28 {xs : Nat → Int32} {L d : Nat} {S : Nat → Shp} {I : Nat → Nat → Int32} {J : Nat → Nat → Int64} {R : Nat → Nat → Nat} {c : Nat × Nat} {Q : Option (Option Value) → MH → Prop} {x1 x2 : Int32} {v3 v4 v6 v7 : Value}  (kt : ¬ x2 = 10 → X xs L (d + 8) 126 40 [.ref 65, .int x1, .int x2, v3, v4, .null, v6, v7] [] (S, I, J, R, c) Q) (kf : ¬ (¬ x2 = 10) → X xs L (d + 8) 126 34 [.ref 65, .int x1, .int x2, v3, v4, .null, v6, v7] [] (S, I, J, R, c) Q) : X xs L (d + 8) 126 28 [.ref 65, .int x1, .int x2, v3, v4, .null, v6, v7] [] (S, I, J, R, c) Q := by
  refine X_iload_n (q := 2) (show decode (mB 126) 28 = .ok (.iload_n 2, 1) by decide +kernel) (pc' := 29) rfl rfl rfl ?_
  refine X_bipush (v := 10) (show decode (mB 126) 29 = .ok (.bipush 10, 2) by decide +kernel) (pc' := 31) rfl (by decide +kernel) ?_
  exact X_icmp_ne (tgt := 40) (show decode (mB 126) 31 = .ok (.if_icmp .ne 9, 3) by decide +kernel) rfl (pc' := 34) rfl kt kf
set_option maxRecDepth 4000 in
theorem b_X14_readTokens_34 {xs : Nat → Int32} {L d : Nat} {S : Nat → Shp} {I : Nat → Nat → Int32} {J : Nat → Nat → Int64} {R : Nat → Nat → Nat} {c : Nat × Nat} {Q : Option (Option Value) → MH → Prop} {x1 x2 : Int32} {v3 v4 v6 v7 : Value}  (k : X xs L (d + 8) 126 7 [.ref 65, .int (x1 + 1), .int x2, v3, v4, .null, v6, v7] [] (S, I, J, R, c) Q) : X xs L (d + 8) 126 34 [.ref 65, .int x1, .int x2, v3, v4, .null, v6, v7] [] (S, I, J, R, c) Q := by
  refine X_iinc (q := 1) (v := x1 + 1) (ls' := [.ref 65, .int (x1 + 1), .int x2, v3, v4, .null, v6, v7]) (show decode (mB 126) 34 = .ok (.iinc 1 1, 3) by decide +kernel) (pc' := 37) rfl rfl rfl rfl ?_
  refine X_goto (tgt := 7) (show decode (mB 126) 37 = .ok (.goto (-30), 3) by decide +kernel) rfl ?_
  exact k
set_option maxRecDepth 4000 in
theorem b_X14_readTokens_40 {xs : Nat → Int32} {L d : Nat} {S : Nat → Shp} {I : Nat → Nat → Int32} {J : Nat → Nat → Int64} {R : Nat → Nat → Nat} {c : Nat × Nat} {Q : Option (Option Value) → MH → Prop} {x1 x2 : Int32} {v3 v4 v6 v7 : Value}  (k : X xs L (d + 7) 124 0 [.int x2] [] (S, I, J, R, c) (Kc xs L (d + 8) 126 52 [.ref 65, .int x1, .int x2, .int x1, .long 0, .null, .int 4, v7] [] Q)) : X xs L (d + 8) 126 40 [.ref 65, .int x1, .int x2, v3, v4, .null, v6, v7] [] (S, I, J, R, c) Q := by
  refine X_iload_n (q := 1) (show decode (mB 126) 40 = .ok (.iload_n 1, 1) by decide +kernel) (pc' := 41) rfl rfl rfl ?_
  refine X_istore_n (q := 3) (ls' := [.ref 65, .int x1, .int x2, .int x1, v4, .null, v6, v7]) (show decode (mB 126) 41 = .ok (.istore_n 3, 1) by decide +kernel) (pc' := 42) rfl rfl rfl ?_
  refine X_lconst (v := 0) (show decode (mB 126) 42 = .ok (.lconst 0, 1) by decide +kernel) (pc' := 43) rfl rfl ?_
  refine X_lstore (q := 4) (ls' := [.ref 65, .int x1, .int x2, .int x1, .long 0, .null, v6, v7]) (show decode (mB 126) 43 = .ok (.lstore 4, 2) by decide +kernel) (pc' := 45) rfl rfl ?_
  refine X_iconst (v := 4) (show decode (mB 126) 45 = .ok (.iconst 4, 1) by decide +kernel) (pc' := 46) rfl rfl ?_
  refine X_istore (q := 6) (ls' := [.ref 65, .int x1, .int x2, .int x1, .long 0, .null, .int 4, v7]) (show decode (mB 126) 46 = .ok (.istore 6, 2) by decide +kernel) (pc' := 48) rfl rfl ?_
  refine X_iload_n (q := 2) (show decode (mB 126) 48 = .ok (.iload_n 2, 1) by decide +kernel) (pc' := 49) rfl rfl rfl ?_
  exact X_callS (y := 124) (n := 1) (st := [.int x2]) (as := [.int x2]) (rest := []) (ls0 := [.int x2]) (show decode (mB 126) 49 = .ok (.invokestatic 94, 3) by decide +kernel) (pc' := 52) rfl (by decide +kernel) (by decide +kernel) rfl rfl rfl rfl rfl rfl rfl rfl k
set_option maxRecDepth 4000 in
theorem b_X14_readTokens_52 {xs : Nat → Int32} {L d : Nat} {S : Nat → Shp} {I : Nat → Nat → Int32} {J : Nat → Nat → Int64} {R : Nat → Nat → Nat} {c : Nat × Nat} {Q : Option (Option Value) → MH → Prop} {x1 x2 x3 x6 sx0 : Int32} {y4 : Int64} {v7 : Value}  (kt : sx0 = 0 → X xs L (d + 8) 126 167 [.ref 65, .int x1, .int x2, .int x3, .long y4, .null, .int x6, v7] [] (S, I, J, R, c) Q) (kf : ¬ (sx0 = 0) → X xs L (d + 8) 126 55 [.ref 65, .int x1, .int x2, .int x3, .long y4, .null, .int x6, v7] [] (S, I, J, R, c) Q) : X xs L (d + 8) 126 52 [.ref 65, .int x1, .int x2, .int x3, .long y4, .null, .int x6, v7] [.int sx0] (S, I, J, R, c) Q := by
  exact X_if_eq (tgt := 167) (show decode (mB 126) 52 = .ok (.ifCond .eq 115, 3) by decide +kernel) rfl (pc' := 55) rfl kt kf
set_option maxRecDepth 4000 in
theorem b_X14_readTokens_55 {xs : Nat → Int32} {L d : Nat} {S : Nat → Shp} {I : Nat → Nat → Int32} {J : Nat → Nat → Int64} {R : Nat → Nat → Nat} {c : Nat × Nat} {Q : Option (Option Value) → MH → Prop} {x1 x2 x3 x6 : Int32} {y4 : Int64} {v7 : Value} (hL : Lay S R)  (k : X xs L (d + 7) 122 0 [.ref 65, .int x1] [] (S, I, J, R, c) (Kc xs L (d + 8) 126 60 [.ref 65, .int x1, .int x2, .int x3, .long y4, .null, .int x6, v7] [] Q)) : X xs L (d + 8) 126 55 [.ref 65, .int x1, .int x2, .int x3, .long y4, .null, .int x6, v7] [] (S, I, J, R, c) Q := by
  refine X_aload_n (q := 0) (show decode (mB 126) 55 = .ok (.aload_n 0, 1) by decide +kernel) (pc' := 56) rfl rfl rfl ?_
  refine X_iload_n (q := 1) (show decode (mB 126) 56 = .ok (.iload_n 1, 1) by decide +kernel) (pc' := 57) rfl rfl rfl ?_
  exact X_callV (y := 122) (n := 1) (st := [.int x1, .ref 65]) (as := [.ref 65, .int x1]) (rest := []) (ls0 := [.ref 65, .int x1]) (ci := 13) (show decode (mB 126) 57 = .ok (.invokevirtual 98, 3) by decide +kernel) (pc' := 60) rfl (by decide +kernel) (by decide +kernel) rfl (ls_65 hL) (by decide +kernel) rfl rfl rfl rfl rfl k
set_option maxRecDepth 4000 in
theorem b_X14_readTokens_60 {xs : Nat → Int32} {L d : Nat} {S : Nat → Shp} {I : Nat → Nat → Int32} {J : Nat → Nat → Int64} {R : Nat → Nat → Nat} {c : Nat × Nat} {Q : Option (Option Value) → MH → Prop} {x1 x2 x3 x6 sx0 : Int32} {y4 : Int64} {v7 : Value}  (k : X xs L (d + 7) 124 0 [.int sx0] [] (S, I, J, R, c) (Kc xs L (d + 8) 126 63 [.ref 65, .int x1, .int x2, .int x3, .long y4, .null, .int x6, v7] [] Q)) : X xs L (d + 8) 126 60 [.ref 65, .int x1, .int x2, .int x3, .long y4, .null, .int x6, v7] [.int sx0] (S, I, J, R, c) Q := by
  exact X_callS (y := 124) (n := 1) (st := [.int sx0]) (as := [.int sx0]) (rest := []) (ls0 := [.int sx0]) (show decode (mB 126) 60 = .ok (.invokestatic 94, 3) by decide +kernel) (pc' := 63) rfl (by decide +kernel) (by decide +kernel) rfl rfl rfl rfl rfl rfl rfl rfl k
set_option maxRecDepth 4000 in
theorem b_X14_readTokens_63 {xs : Nat → Int32} {L d : Nat} {S : Nat → Shp} {I : Nat → Nat → Int32} {J : Nat → Nat → Int64} {R : Nat → Nat → Nat} {c : Nat × Nat} {Q : Option (Option Value) → MH → Prop} {x1 x2 x3 x6 sx0 : Int32} {y4 : Int64} {v7 : Value}  (kt : ¬ sx0 = 0 → X xs L (d + 8) 126 87 [.ref 65, .int x1, .int x2, .int x3, .long y4, .null, .int x6, v7] [] (S, I, J, R, c) Q) (kf : ¬ (¬ sx0 = 0) → X xs L (d + 8) 126 66 [.ref 65, .int x1, .int x2, .int x3, .long y4, .null, .int x6, v7] [] (S, I, J, R, c) Q) : X xs L (d + 8) 126 63 [.ref 65, .int x1, .int x2, .int x3, .long y4, .null, .int x6, v7] [.int sx0] (S, I, J, R, c) Q := by
  exact X_if_ne (tgt := 87) (show decode (mB 126) 63 = .ok (.ifCond .ne 24, 3) by decide +kernel) rfl (pc' := 66) rfl kt kf
set_option maxRecDepth 4000 in
theorem b_X14_readTokens_66 {xs : Nat → Int32} {L d : Nat} {S : Nat → Shp} {I : Nat → Nat → Int32} {J : Nat → Nat → Int64} {R : Nat → Nat → Nat} {c : Nat × Nat} {Q : Option (Option Value) → MH → Prop} {x1 x2 x3 x6 : Int32} {y4 : Int64} {v7 : Value} (hL : Lay S R)  (k : X xs L (d + 7) 122 0 [.ref 65, .int x1] [] (S, I, J, R, c) (Kc xs L (d + 8) 126 71 [.ref 65, .int x1, .int x2, .int x3, .long y4, .null, .int x6, v7] [] Q)) : X xs L (d + 8) 126 66 [.ref 65, .int x1, .int x2, .int x3, .long y4, .null, .int x6, v7] [] (S, I, J, R, c) Q := by
  refine X_aload_n (q := 0) (show decode (mB 126) 66 = .ok (.aload_n 0, 1) by decide +kernel) (pc' := 67) rfl rfl rfl ?_
  refine X_iload_n (q := 1) (show decode (mB 126) 67 = .ok (.iload_n 1, 1) by decide +kernel) (pc' := 68) rfl rfl rfl ?_
  exact X_callV (y := 122) (n := 1) (st := [.int x1, .ref 65]) (as := [.ref 65, .int x1]) (rest := []) (ls0 := [.ref 65, .int x1]) (ci := 13) (show decode (mB 126) 68 = .ok (.invokevirtual 98, 3) by decide +kernel) (pc' := 71) rfl (by decide +kernel) (by decide +kernel) rfl (ls_65 hL) (by decide +kernel) rfl rfl rfl rfl rfl k
set_option maxRecDepth 4000 in
theorem b_X14_readTokens_71 {xs : Nat → Int32} {L d : Nat} {S : Nat → Shp} {I : Nat → Nat → Int32} {J : Nat → Nat → Int64} {R : Nat → Nat → Nat} {c : Nat × Nat} {Q : Option (Option Value) → MH → Prop} {x1 x2 x3 x6 sx0 : Int32} {y4 : Int64} {v7 : Value}  (k : X xs L (d + 7) 123 0 [.int sx0] [] (S, I, J, R, c) (Kc xs L (d + 8) 126 74 [.ref 65, .int x1, .int x2, .int x3, .long y4, .null, .int x6, v7] [] Q)) : X xs L (d + 8) 126 71 [.ref 65, .int x1, .int x2, .int x3, .long y4, .null, .int x6, v7] [.int sx0] (S, I, J, R, c) Q := by
  exact X_callS (y := 123) (n := 1) (st := [.int sx0]) (as := [.int sx0]) (rest := []) (ls0 := [.int sx0]) (show decode (mB 126) 71 = .ok (.invokestatic 102, 3) by decide +kernel) (pc' := 74) rfl (by decide +kernel) (by decide +kernel) rfl rfl rfl rfl rfl rfl rfl rfl k
set_option maxRecDepth 4000 in
theorem b_X14_readTokens_74 {xs : Nat → Int32} {L d : Nat} {S : Nat → Shp} {I : Nat → Nat → Int32} {J : Nat → Nat → Int64} {R : Nat → Nat → Nat} {c : Nat × Nat} {Q : Option (Option Value) → MH → Prop} {x1 x2 x3 x6 sx0 : Int32} {y4 : Int64} {v7 : Value}  (kt : ¬ sx0 = 0 → X xs L (d + 8) 126 87 [.ref 65, .int x1, .int x2, .int x3, .long y4, .null, .int x6, v7] [] (S, I, J, R, c) Q) (kf : ¬ (¬ sx0 = 0) → X xs L (d + 8) 126 77 [.ref 65, .int x1, .int x2, .int x3, .long y4, .null, .int x6, v7] [] (S, I, J, R, c) Q) : X xs L (d + 8) 126 74 [.ref 65, .int x1, .int x2, .int x3, .long y4, .null, .int x6, v7] [.int sx0] (S, I, J, R, c) Q := by
  exact X_if_ne (tgt := 87) (show decode (mB 126) 74 = .ok (.ifCond .ne 13, 3) by decide +kernel) rfl (pc' := 77) rfl kt kf
set_option maxRecDepth 4000 in
theorem b_X14_readTokens_77 {xs : Nat → Int32} {L d : Nat} {S : Nat → Shp} {I : Nat → Nat → Int32} {J : Nat → Nat → Int64} {R : Nat → Nat → Nat} {c : Nat × Nat} {Q : Option (Option Value) → MH → Prop} {x1 x2 x3 x6 : Int32} {y4 : Int64} {v7 : Value} (hL : Lay S R)  (k : X xs L (d + 7) 122 0 [.ref 65, .int x1] [] (S, I, J, R, c) (Kc xs L (d + 8) 126 82 [.ref 65, .int x1, .int x2, .int x3, .long y4, .null, .int x6, v7] [] Q)) : X xs L (d + 8) 126 77 [.ref 65, .int x1, .int x2, .int x3, .long y4, .null, .int x6, v7] [] (S, I, J, R, c) Q := by
  refine X_aload_n (q := 0) (show decode (mB 126) 77 = .ok (.aload_n 0, 1) by decide +kernel) (pc' := 78) rfl rfl rfl ?_
  refine X_iload_n (q := 1) (show decode (mB 126) 78 = .ok (.iload_n 1, 1) by decide +kernel) (pc' := 79) rfl rfl rfl ?_
  exact X_callV (y := 122) (n := 1) (st := [.int x1, .ref 65]) (as := [.ref 65, .int x1]) (rest := []) (ls0 := [.ref 65, .int x1]) (ci := 13) (show decode (mB 126) 79 = .ok (.invokevirtual 98, 3) by decide +kernel) (pc' := 82) rfl (by decide +kernel) (by decide +kernel) rfl (ls_65 hL) (by decide +kernel) rfl rfl rfl rfl rfl k
set_option maxRecDepth 4000 in
theorem b_X14_readTokens_82 {xs : Nat → Int32} {L d : Nat} {S : Nat → Shp} {I : Nat → Nat → Int32} {J : Nat → Nat → Int64} {R : Nat → Nat → Nat} {c : Nat × Nat} {Q : Option (Option Value) → MH → Prop} {x1 x2 x3 x6 sx0 : Int32} {y4 : Int64} {v7 : Value}  (kt : ¬ sx0 = 95 → X xs L (d + 8) 126 108 [.ref 65, .int x1, .int x2, .int x3, .long y4, .null, .int x6, v7] [] (S, I, J, R, c) Q) (kf : ¬ (¬ sx0 = 95) → X xs L (d + 8) 126 87 [.ref 65, .int x1, .int x2, .int x3, .long y4, .null, .int x6, v7] [] (S, I, J, R, c) Q) : X xs L (d + 8) 126 82 [.ref 65, .int x1, .int x2, .int x3, .long y4, .null, .int x6, v7] [.int sx0] (S, I, J, R, c) Q := by
  refine X_bipush (v := 95) (show decode (mB 126) 82 = .ok (.bipush 95, 2) by decide +kernel) (pc' := 84) rfl (by decide +kernel) ?_
  exact X_icmp_ne (tgt := 108) (show decode (mB 126) 84 = .ok (.if_icmp .ne 24, 3) by decide +kernel) rfl (pc' := 87) rfl kt kf
set_option maxRecDepth 4000 in
theorem b_X14_readTokens_87 {xs : Nat → Int32} {L d : Nat} {S : Nat → Shp} {I : Nat → Nat → Int32} {J : Nat → Nat → Int64} {R : Nat → Nat → Nat} {c : Nat × Nat} {Q : Option (Option Value) → MH → Prop} {x1 x2 x3 x6 : Int32} {y4 : Int64} {v7 : Value} (hL : Lay S R) (hb97 : inb x1 2000 = true) (k : X xs L (d + 8) 126 55 [.ref 65, .int (x1 + 1), .int x2, .int x3, .long ((y4 <<< ((8 : Int32).toInt64 &&& 63)) ||| ((I 66 x1.toNatClampNeg).toInt64)), .null, .int x6, v7] [] (S, I, J, R, c) Q) : X xs L (d + 8) 126 87 [.ref 65, .int x1, .int x2, .int x3, .long y4, .null, .int x6, v7] [] (S, I, J, R, c) Q := by
  refine X_lload (q := 4) (show decode (mB 126) 87 = .ok (.lload 4, 2) by decide +kernel) (pc' := 89) rfl rfl ?_
  refine X_bipush (v := 8) (show decode (mB 126) 89 = .ok (.bipush 8, 2) by decide +kernel) (pc' := 91) rfl (by decide +kernel) ?_
  refine X_lshl (show decode (mB 126) 91 = .ok (.lshl, 1) by decide +kernel) (pc' := 92) rfl ?_
  refine X_aload_n (q := 0) (show decode (mB 126) 92 = .ok (.aload_n 0, 1) by decide +kernel) (pc' := 93) rfl rfl rfl ?_
  refine X_getR (ci := 13) (f := 0) (q := 66) (show decode (mB 126) 93 = .ok (.getfield 9, 3) by decide +kernel) (pc' := 96) rfl (ls_65 hL) (by decide +kernel) rfl (lr_65_0 hL) ?_
  refine X_iload_n (q := 1) (show decode (mB 126) 96 = .ok (.iload_n 1, 1) by decide +kernel) (pc' := 97) rfl rfl rfl ?_
  refine X_baload (w := I 66 x1.toNatClampNeg) (show decode (mB 126) 97 = .ok (.baload, 1) by decide +kernel) (pc' := 98) rfl (ls_66 hL) hb97 rfl ?_
  refine X_i2l (show decode (mB 126) 98 = .ok (.i2l, 1) by decide +kernel) (pc' := 99) rfl ?_
  refine X_lor (show decode (mB 126) 99 = .ok (.lor, 1) by decide +kernel) (pc' := 100) rfl ?_
  refine X_lstore (q := 4) (ls' := [.ref 65, .int x1, .int x2, .int x3, .long ((y4 <<< ((8 : Int32).toInt64 &&& 63)) ||| ((I 66 x1.toNatClampNeg).toInt64)), .null, .int x6, v7]) (show decode (mB 126) 100 = .ok (.lstore 4, 2) by decide +kernel) (pc' := 102) rfl rfl ?_
  refine X_iinc (q := 1) (v := x1 + 1) (ls' := [.ref 65, .int (x1 + 1), .int x2, .int x3, .long ((y4 <<< ((8 : Int32).toInt64 &&& 63)) ||| ((I 66 x1.toNatClampNeg).toInt64)), .null, .int x6, v7]) (show decode (mB 126) 102 = .ok (.iinc 1 1, 3) by decide +kernel) (pc' := 105) rfl rfl rfl rfl ?_
  refine X_goto (tgt := 55) (show decode (mB 126) 105 = .ok (.goto (-50), 3) by decide +kernel) rfl ?_
  exact k
set_option maxRecDepth 4000 in
theorem b_X14_readTokens_108 {xs : Nat → Int32} {L d : Nat} {S : Nat → Shp} {I : Nat → Nat → Int32} {J : Nat → Nat → Int64} {R : Nat → Nat → Nat} {c : Nat × Nat} {Q : Option (Option Value) → MH → Prop} {x1 x2 x3 x6 : Int32} {y4 : Int64} {v7 : Value}  (kt : (x1 - x3) ≤ 8 → X xs L (d + 8) 126 120 [.ref 65, .int x1, .int x2, .int x3, .long y4, .null, .int x6, v7] [] (S, I, J, R, c) Q) (kf : ¬ ((x1 - x3) ≤ 8) → X xs L (d + 8) 126 116 [.ref 65, .int x1, .int x2, .int x3, .long y4, .null, .int x6, v7] [] (S, I, J, R, c) Q) : X xs L (d + 8) 126 108 [.ref 65, .int x1, .int x2, .int x3, .long y4, .null, .int x6, v7] [] (S, I, J, R, c) Q := by
  refine X_iload_n (q := 1) (show decode (mB 126) 108 = .ok (.iload_n 1, 1) by decide +kernel) (pc' := 109) rfl rfl rfl ?_
  refine X_iload_n (q := 3) (show decode (mB 126) 109 = .ok (.iload_n 3, 1) by decide +kernel) (pc' := 110) rfl rfl rfl ?_
  refine X_isub (show decode (mB 126) 110 = .ok (.isub, 1) by decide +kernel) (pc' := 111) rfl ?_
  refine X_bipush (v := 8) (show decode (mB 126) 111 = .ok (.bipush 8, 2) by decide +kernel) (pc' := 113) rfl (by decide +kernel) ?_
  exact X_icmp_le (tgt := 120) (show decode (mB 126) 113 = .ok (.if_icmp .le 7, 3) by decide +kernel) rfl (pc' := 116) rfl kt kf
set_option maxRecDepth 4000 in
theorem b_X14_readTokens_116 {xs : Nat → Int32} {L d : Nat} {S : Nat → Shp} {I : Nat → Nat → Int32} {J : Nat → Nat → Int64} {R : Nat → Nat → Nat} {c : Nat × Nat} {Q : Option (Option Value) → MH → Prop} {x1 x2 x3 x6 : Int32} {y4 : Int64} {v7 : Value}  (k : X xs L (d + 8) 126 121 [.ref 65, .int x1, .int x2, .int x3, .long y4, .null, .int x6, v7] [.int 4] (S, I, J, R, c) Q) : X xs L (d + 8) 126 116 [.ref 65, .int x1, .int x2, .int x3, .long y4, .null, .int x6, v7] [] (S, I, J, R, c) Q := by
  refine X_iconst (v := 4) (show decode (mB 126) 116 = .ok (.iconst 4, 1) by decide +kernel) (pc' := 117) rfl rfl ?_
  refine X_goto (tgt := 121) (show decode (mB 126) 117 = .ok (.goto 4, 3) by decide +kernel) rfl ?_
  exact k
set_option maxRecDepth 4000 in
theorem b_X14_readTokens_120 {xs : Nat → Int32} {L d : Nat} {S : Nat → Shp} {I : Nat → Nat → Int32} {J : Nat → Nat → Int64} {R : Nat → Nat → Nat} {c : Nat × Nat} {Q : Option (Option Value) → MH → Prop} {x1 x2 x3 x6 : Int32} {y4 : Int64} {v7 : Value}  (k : X xs L (d + 8) 126 121 [.ref 65, .int x1, .int x2, .int x3, .long y4, .null, .int x6, v7] [.int 1] (S, I, J, R, c) Q) : X xs L (d + 8) 126 120 [.ref 65, .int x1, .int x2, .int x3, .long y4, .null, .int x6, v7] [] (S, I, J, R, c) Q := by
  refine X_iconst (v := 1) (show decode (mB 126) 120 = .ok (.iconst 1, 1) by decide +kernel) (pc' := 121) rfl rfl ?_
  exact k
set_option maxRecDepth 4000 in
theorem b_X14_readTokens_121 {xs : Nat → Int32} {L d : Nat} {S : Nat → Shp} {I : Nat → Nat → Int32} {J : Nat → Nat → Int64} {R : Nat → Nat → Nat} {c : Nat × Nat} {Q : Option (Option Value) → MH → Prop} {x1 x2 x3 x6 sx0 : Int32} {y4 : Int64} {v7 : Value}  (k : X xs L (d + 8) 126 126 [.ref 65, .int x1, .int x2, .int x3, .long y4, .null, .int sx0, .int 0] [] (S, I, J, R, c) Q) : X xs L (d + 8) 126 121 [.ref 65, .int x1, .int x2, .int x3, .long y4, .null, .int x6, v7] [.int sx0] (S, I, J, R, c) Q := by
  refine X_istore (q := 6) (ls' := [.ref 65, .int x1, .int x2, .int x3, .long y4, .null, .int sx0, v7]) (show decode (mB 126) 121 = .ok (.istore 6, 2) by decide +kernel) (pc' := 123) rfl rfl ?_
  refine X_iconst (v := 0) (show decode (mB 126) 123 = .ok (.iconst 0, 1) by decide +kernel) (pc' := 124) rfl rfl ?_
  refine X_istore (q := 7) (ls' := [.ref 65, .int x1, .int x2, .int x3, .long y4, .null, .int sx0, .int 0]) (show decode (mB 126) 124 = .ok (.istore 7, 2) by decide +kernel) (pc' := 126) rfl rfl ?_
  exact k
set_option maxRecDepth 4000 in
theorem b_X14_readTokens_126 {xs : Nat → Int32} {L d : Nat} {S : Nat → Shp} {I : Nat → Nat → Int32} {J : Nat → Nat → Int64} {R : Nat → Nat → Nat} {c : Nat × Nat} {Q : Option (Option Value) → MH → Prop} {x1 x2 x3 x6 x7 : Int32} {y4 : Int64}  (kt : 9 ≤ x7 → X xs L (d + 8) 126 164 [.ref 65, .int x1, .int x2, .int x3, .long y4, .null, .int x6, .int x7] [] (S, I, J, R, c) Q) (kf : ¬ (9 ≤ x7) → X xs L (d + 8) 126 133 [.ref 65, .int x1, .int x2, .int x3, .long y4, .null, .int x6, .int x7] [] (S, I, J, R, c) Q) : X xs L (d + 8) 126 126 [.ref 65, .int x1, .int x2, .int x3, .long y4, .null, .int x6, .int x7] [] (S, I, J, R, c) Q := by
  refine X_iload (q := 7) (show decode (mB 126) 126 = .ok (.iload 7, 2) by decide +kernel) (pc' := 128) rfl rfl ?_
  refine X_bipush (v := 9) (show decode (mB 126) 128 = .ok (.bipush 9, 2) by decide +kernel) (pc' := 130) rfl (by decide +kernel) ?_
  exact X_icmp_ge (tgt := 164) (show decode (mB 126) 130 = .ok (.if_icmp .ge 34, 3) by decide +kernel) rfl (pc' := 133) rfl kt kf
set_option maxRecDepth 4000 in
theorem b_X14_readTokens_133 {xs : Nat → Int32} {L d : Nat} {S : Nat → Shp} {I : Nat → Nat → Int32} {J : Nat → Nat → Int64} {R : Nat → Nat → Nat} {c : Nat × Nat} {Q : Option (Option Value) → MH → Prop} {x1 x2 x3 x6 x7 : Int32} {y4 : Int64}  (kt : ¬ x6 = 1 → X xs L (d + 8) 126 158 [.ref 65, .int x1, .int x2, .int x3, .long y4, .null, .int x6, .int x7] [] (S, I, J, R, c) Q) (kf : ¬ (¬ x6 = 1) → X xs L (d + 8) 126 139 [.ref 65, .int x1, .int x2, .int x3, .long y4, .null, .int x6, .int x7] [] (S, I, J, R, c) Q) : X xs L (d + 8) 126 133 [.ref 65, .int x1, .int x2, .int x3, .long y4, .null, .int x6, .int x7] [] (S, I, J, R, c) Q := by
  refine X_iload (q := 6) (show decode (mB 126) 133 = .ok (.iload 6, 2) by decide +kernel) (pc' := 135) rfl rfl ?_
  refine X_iconst (v := 1) (show decode (mB 126) 135 = .ok (.iconst 1, 1) by decide +kernel) (pc' := 136) rfl rfl ?_
  exact X_icmp_ne (tgt := 158) (show decode (mB 126) 136 = .ok (.if_icmp .ne 22, 3) by decide +kernel) rfl (pc' := 139) rfl kt kf
set_option maxRecDepth 4000 in
theorem b_X14_readTokens_139 {xs : Nat → Int32} {L d : Nat} {S : Nat → Shp} {I : Nat → Nat → Int32} {J : Nat → Nat → Int64} {R : Nat → Nat → Nat} {c : Nat × Nat} {Q : Option (Option Value) → MH → Prop} {x1 x2 x3 x6 x7 : Int32} {y4 : Int64} (hb144 : inb x7 (jTab 2).length = true) (kt : ¬ (lg_cmp ((jTab 2).getD x7.toNatClampNeg 0) y4) = 0 → X xs L (d + 8) 126 158 [.ref 65, .int x1, .int x2, .int x3, .long y4, .null, .int x6, .int x7] [] (S, I, J, R, c) Q) (kf : ¬ (¬ (lg_cmp ((jTab 2).getD x7.toNatClampNeg 0) y4) = 0) → X xs L (d + 8) 126 151 [.ref 65, .int x1, .int x2, .int x3, .long y4, .null, .int x6, .int x7] [] (S, I, J, R, c) Q) : X xs L (d + 8) 126 139 [.ref 65, .int x1, .int x2, .int x3, .long y4, .null, .int x6, .int x7] [] (S, I, J, R, c) Q := by
  refine X_gets (e := 2) (show decode (mB 126) 139 = .ok (.getstatic 105, 3) by decide +kernel) (pc' := 142) rfl (by decide +kernel) ?_
  refine X_iload (q := 7) (show decode (mB 126) 142 = .ok (.iload 7, 2) by decide +kernel) (pc' := 144) rfl rfl ?_
  refine X_tlaload (e := 2) (show decode (mB 126) 144 = .ok (.laload, 1) by decide +kernel) (pc' := 145) rfl hb144 ?_
  refine X_lload (q := 4) (show decode (mB 126) 145 = .ok (.lload 4, 2) by decide +kernel) (pc' := 147) rfl rfl ?_
  refine X_lcmp (show decode (mB 126) 147 = .ok (.lcmp, 1) by decide +kernel) (pc' := 148) rfl ?_
  exact X_if_ne (tgt := 158) (show decode (mB 126) 148 = .ok (.ifCond .ne 10, 3) by decide +kernel) rfl (pc' := 151) rfl kt kf
set_option maxRecDepth 4000 in
theorem b_X14_readTokens_151 {xs : Nat → Int32} {L d : Nat} {S : Nat → Shp} {I : Nat → Nat → Int32} {J : Nat → Nat → Int64} {R : Nat → Nat → Nat} {c : Nat × Nat} {Q : Option (Option Value) → MH → Prop} {x1 x2 x3 x6 x7 : Int32} {y4 : Int64}  (k : X xs L (d + 8) 126 158 [.ref 65, .int x1, .int x2, .int x3, .long y4, .null, .int ((10 : Int32) + x7), .int x7] [] (S, I, J, R, c) Q) : X xs L (d + 8) 126 151 [.ref 65, .int x1, .int x2, .int x3, .long y4, .null, .int x6, .int x7] [] (S, I, J, R, c) Q := by
  refine X_bipush (v := 10) (show decode (mB 126) 151 = .ok (.bipush 10, 2) by decide +kernel) (pc' := 153) rfl (by decide +kernel) ?_
  refine X_iload (q := 7) (show decode (mB 126) 153 = .ok (.iload 7, 2) by decide +kernel) (pc' := 155) rfl rfl ?_
  refine X_iadd (show decode (mB 126) 155 = .ok (.iadd, 1) by decide +kernel) (pc' := 156) rfl ?_
  refine X_istore (q := 6) (ls' := [.ref 65, .int x1, .int x2, .int x3, .long y4, .null, .int ((10 : Int32) + x7), .int x7]) (show decode (mB 126) 156 = .ok (.istore 6, 2) by decide +kernel) (pc' := 158) rfl rfl ?_
  exact k
set_option maxRecDepth 4000 in
theorem b_X14_readTokens_158 {xs : Nat → Int32} {L d : Nat} {S : Nat → Shp} {I : Nat → Nat → Int32} {J : Nat → Nat → Int64} {R : Nat → Nat → Nat} {c : Nat × Nat} {Q : Option (Option Value) → MH → Prop} {x1 x2 x3 x6 x7 : Int32} {y4 : Int64}  (k : X xs L (d + 8) 126 126 [.ref 65, .int x1, .int x2, .int x3, .long y4, .null, .int x6, .int (x7 + 1)] [] (S, I, J, R, c) Q) : X xs L (d + 8) 126 158 [.ref 65, .int x1, .int x2, .int x3, .long y4, .null, .int x6, .int x7] [] (S, I, J, R, c) Q := by
  refine X_iinc (q := 7) (v := x7 + 1) (ls' := [.ref 65, .int x1, .int x2, .int x3, .long y4, .null, .int x6, .int (x7 + 1)]) (show decode (mB 126) 158 = .ok (.iinc 7 1, 3) by decide +kernel) (pc' := 161) rfl rfl rfl rfl ?_
  refine X_goto (tgt := 126) (show decode (mB 126) 161 = .ok (.goto (-35), 3) by decide +kernel) rfl ?_
  exact k
set_option maxRecDepth 4000 in
theorem b_X14_readTokens_164 {xs : Nat → Int32} {L d : Nat} {S : Nat → Shp} {I : Nat → Nat → Int32} {J : Nat → Nat → Int64} {R : Nat → Nat → Nat} {c : Nat × Nat} {Q : Option (Option Value) → MH → Prop} {x1 x2 x3 x6 x7 : Int32} {y4 : Int64}  (k : X xs L (d + 8) 126 323 [.ref 65, .int x1, .int x2, .int x3, .long y4, .null, .int x6, .int x7] [] (S, I, J, R, c) Q) : X xs L (d + 8) 126 164 [.ref 65, .int x1, .int x2, .int x3, .long y4, .null, .int x6, .int x7] [] (S, I, J, R, c) Q := by
  refine X_goto (tgt := 323) (show decode (mB 126) 164 = .ok (.goto 159, 3) by decide +kernel) rfl ?_
  exact k
set_option maxRecDepth 4000 in
theorem b_X14_readTokens_167 {xs : Nat → Int32} {L d : Nat} {S : Nat → Shp} {I : Nat → Nat → Int32} {J : Nat → Nat → Int64} {R : Nat → Nat → Nat} {c : Nat × Nat} {Q : Option (Option Value) → MH → Prop} {x1 x2 x3 x6 : Int32} {y4 : Int64} {v7 : Value}  (k : X xs L (d + 7) 125 0 [.int x2] [] (S, I, J, R, c) (Kc xs L (d + 8) 126 171 [.ref 65, .int x1, .int x2, .int x3, .long y4, .null, .int x6, v7] [] Q)) : X xs L (d + 8) 126 167 [.ref 65, .int x1, .int x2, .int x3, .long y4, .null, .int x6, v7] [] (S, I, J, R, c) Q := by
  refine X_iload_n (q := 2) (show decode (mB 126) 167 = .ok (.iload_n 2, 1) by decide +kernel) (pc' := 168) rfl rfl rfl ?_
  exact X_callS (y := 125) (n := 1) (st := [.int x2]) (as := [.int x2]) (rest := []) (ls0 := [.int x2]) (show decode (mB 126) 168 = .ok (.invokestatic 108, 3) by decide +kernel) (pc' := 171) rfl (by decide +kernel) (by decide +kernel) rfl rfl rfl rfl rfl rfl rfl rfl k
set_option maxRecDepth 4000 in
theorem b_X14_readTokens_171 {xs : Nat → Int32} {L d : Nat} {S : Nat → Shp} {I : Nat → Nat → Int32} {J : Nat → Nat → Int64} {R : Nat → Nat → Nat} {c : Nat × Nat} {Q : Option (Option Value) → MH → Prop} {x1 x2 x3 x6 sx0 : Int32} {y4 : Int64} {v7 : Value}  (kt : sx0 = 0 → X xs L (d + 8) 126 234 [.ref 65, .int x1, .int x2, .int x3, .long y4, .null, .int x6, v7] [] (S, I, J, R, c) Q) (kf : ¬ (sx0 = 0) → X xs L (d + 8) 126 174 [.ref 65, .int x1, .int x2, .int x3, .long y4, .null, .int x6, v7] [] (S, I, J, R, c) Q) : X xs L (d + 8) 126 171 [.ref 65, .int x1, .int x2, .int x3, .long y4, .null, .int x6, v7] [.int sx0] (S, I, J, R, c) Q := by
  exact X_if_eq (tgt := 234) (show decode (mB 126) 171 = .ok (.ifCond .eq 63, 3) by decide +kernel) rfl (pc' := 174) rfl kt kf
set_option maxRecDepth 4000 in
theorem b_X14_readTokens_174 {xs : Nat → Int32} {L d : Nat} {S : Nat → Shp} {I : Nat → Nat → Int32} {J : Nat → Nat → Int64} {R : Nat → Nat → Nat} {c : Nat × Nat} {Q : Option (Option Value) → MH → Prop} {x1 x2 x3 x6 : Int32} {y4 : Int64} {v7 : Value} (hL : Lay S R)  (k : X xs L (d + 7) 122 0 [.ref 65, .int x1] [] (S, I, J, R, c) (Kc xs L (d + 8) 126 179 [.ref 65, .int x1, .int x2, .int x3, .long y4, .null, .int x6, v7] [] Q)) : X xs L (d + 8) 126 174 [.ref 65, .int x1, .int x2, .int x3, .long y4, .null, .int x6, v7] [] (S, I, J, R, c) Q := by
  refine X_aload_n (q := 0) (show decode (mB 126) 174 = .ok (.aload_n 0, 1) by decide +kernel) (pc' := 175) rfl rfl rfl ?_
  refine X_iload_n (q := 1) (show decode (mB 126) 175 = .ok (.iload_n 1, 1) by decide +kernel) (pc' := 176) rfl rfl rfl ?_
  exact X_callV (y := 122) (n := 1) (st := [.int x1, .ref 65]) (as := [.ref 65, .int x1]) (rest := []) (ls0 := [.ref 65, .int x1]) (ci := 13) (show decode (mB 126) 176 = .ok (.invokevirtual 98, 3) by decide +kernel) (pc' := 179) rfl (by decide +kernel) (by decide +kernel) rfl (ls_65 hL) (by decide +kernel) rfl rfl rfl rfl rfl k
set_option maxRecDepth 4000 in
theorem b_X14_readTokens_179 {xs : Nat → Int32} {L d : Nat} {S : Nat → Shp} {I : Nat → Nat → Int32} {J : Nat → Nat → Int64} {R : Nat → Nat → Nat} {c : Nat × Nat} {Q : Option (Option Value) → MH → Prop} {x1 x2 x3 x6 sx0 : Int32} {y4 : Int64} {v7 : Value}  (k : X xs L (d + 7) 125 0 [.int sx0] [] (S, I, J, R, c) (Kc xs L (d + 8) 126 182 [.ref 65, .int x1, .int x2, .int x3, .long y4, .null, .int x6, v7] [] Q)) : X xs L (d + 8) 126 179 [.ref 65, .int x1, .int x2, .int x3, .long y4, .null, .int x6, v7] [.int sx0] (S, I, J, R, c) Q := by
  exact X_callS (y := 125) (n := 1) (st := [.int sx0]) (as := [.int sx0]) (rest := []) (ls0 := [.int sx0]) (show decode (mB 126) 179 = .ok (.invokestatic 108, 3) by decide +kernel) (pc' := 182) rfl (by decide +kernel) (by decide +kernel) rfl rfl rfl rfl rfl rfl rfl rfl k
set_option maxRecDepth 4000 in
theorem b_X14_readTokens_182 {xs : Nat → Int32} {L d : Nat} {S : Nat → Shp} {I : Nat → Nat → Int32} {J : Nat → Nat → Int64} {R : Nat → Nat → Nat} {c : Nat × Nat} {Q : Option (Option Value) → MH → Prop} {x1 x2 x3 x6 sx0 : Int32} {y4 : Int64} {v7 : Value}  (kt : ¬ sx0 = 0 → X xs L (d + 8) 126 196 [.ref 65, .int x1, .int x2, .int x3, .long y4, .null, .int x6, v7] [] (S, I, J, R, c) Q) (kf : ¬ (¬ sx0 = 0) → X xs L (d + 8) 126 185 [.ref 65, .int x1, .int x2, .int x3, .long y4, .null, .int x6, v7] [] (S, I, J, R, c) Q) : X xs L (d + 8) 126 182 [.ref 65, .int x1, .int x2, .int x3, .long y4, .null, .int x6, v7] [.int sx0] (S, I, J, R, c) Q := by
  exact X_if_ne (tgt := 196) (show decode (mB 126) 182 = .ok (.ifCond .ne 14, 3) by decide +kernel) rfl (pc' := 185) rfl kt kf
set_option maxRecDepth 4000 in
theorem b_X14_readTokens_185 {xs : Nat → Int32} {L d : Nat} {S : Nat → Shp} {I : Nat → Nat → Int32} {J : Nat → Nat → Int64} {R : Nat → Nat → Nat} {c : Nat × Nat} {Q : Option (Option Value) → MH → Prop} {x1 x2 x3 x6 : Int32} {y4 : Int64} {v7 : Value} (hL : Lay S R)  (k : X xs L (d + 7) 122 0 [.ref 65, .int x1] [] (S, I, J, R, c) (Kc xs L (d + 8) 126 190 [.ref 65, .int x1, .int x2, .int x3, .long y4, .null, .int x6, v7] [] Q)) : X xs L (d + 8) 126 185 [.ref 65, .int x1, .int x2, .int x3, .long y4, .null, .int x6, v7] [] (S, I, J, R, c) Q := by
  refine X_aload_n (q := 0) (show decode (mB 126) 185 = .ok (.aload_n 0, 1) by decide +kernel) (pc' := 186) rfl rfl rfl ?_
  refine X_iload_n (q := 1) (show decode (mB 126) 186 = .ok (.iload_n 1, 1) by decide +kernel) (pc' := 187) rfl rfl rfl ?_
  exact X_callV (y := 122) (n := 1) (st := [.int x1, .ref 65]) (as := [.ref 65, .int x1]) (rest := []) (ls0 := [.ref 65, .int x1]) (ci := 13) (show decode (mB 126) 187 = .ok (.invokevirtual 98, 3) by decide +kernel) (pc' := 190) rfl (by decide +kernel) (by decide +kernel) rfl (ls_65 hL) (by decide +kernel) rfl rfl rfl rfl rfl k
set_option maxRecDepth 4000 in
theorem b_X14_readTokens_190 {xs : Nat → Int32} {L d : Nat} {S : Nat → Shp} {I : Nat → Nat → Int32} {J : Nat → Nat → Int64} {R : Nat → Nat → Nat} {c : Nat × Nat} {Q : Option (Option Value) → MH → Prop} {x1 x2 x3 x6 sx0 : Int32} {y4 : Int64} {v7 : Value}  (k : X xs L (d + 7) 123 0 [.int sx0] [] (S, I, J, R, c) (Kc xs L (d + 8) 126 193 [.ref 65, .int x1, .int x2, .int x3, .long y4, .null, .int x6, v7] [] Q)) : X xs L (d + 8) 126 190 [.ref 65, .int x1, .int x2, .int x3, .long y4, .null, .int x6, v7] [.int sx0] (S, I, J, R, c) Q := by
  exact X_callS (y := 123) (n := 1) (st := [.int sx0]) (as := [.int sx0]) (rest := []) (ls0 := [.int sx0]) (show decode (mB 126) 190 = .ok (.invokestatic 102, 3) by decide +kernel) (pc' := 193) rfl (by decide +kernel) (by decide +kernel) rfl rfl rfl rfl rfl rfl rfl rfl k
set_option maxRecDepth 4000 in
theorem b_X14_readTokens_193 {xs : Nat → Int32} {L d : Nat} {S : Nat → Shp} {I : Nat → Nat → Int32} {J : Nat → Nat → Int64} {R : Nat → Nat → Nat} {c : Nat × Nat} {Q : Option (Option Value) → MH → Prop} {x1 x2 x3 x6 sx0 : Int32} {y4 : Int64} {v7 : Value}  (kt : sx0 = 0 → X xs L (d + 8) 126 217 [.ref 65, .int x1, .int x2, .int x3, .long y4, .null, .int x6, v7] [] (S, I, J, R, c) Q) (kf : ¬ (sx0 = 0) → X xs L (d + 8) 126 196 [.ref 65, .int x1, .int x2, .int x3, .long y4, .null, .int x6, v7] [] (S, I, J, R, c) Q) : X xs L (d + 8) 126 193 [.ref 65, .int x1, .int x2, .int x3, .long y4, .null, .int x6, v7] [.int sx0] (S, I, J, R, c) Q := by
  exact X_if_eq (tgt := 217) (show decode (mB 126) 193 = .ok (.ifCond .eq 24, 3) by decide +kernel) rfl (pc' := 196) rfl kt kf
set_option maxRecDepth 4000 in
theorem b_X14_readTokens_196 {xs : Nat → Int32} {L d : Nat} {S : Nat → Shp} {I : Nat → Nat → Int32} {J : Nat → Nat → Int64} {R : Nat → Nat → Nat} {c : Nat × Nat} {Q : Option (Option Value) → MH → Prop} {x1 x2 x3 x6 : Int32} {y4 : Int64} {v7 : Value} (hL : Lay S R) (hb206 : inb x1 2000 = true) (k : X xs L (d + 8) 126 174 [.ref 65, .int (x1 + 1), .int x2, .int x3, .long ((y4 <<< ((8 : Int32).toInt64 &&& 63)) ||| ((I 66 x1.toNatClampNeg).toInt64)), .null, .int x6, v7] [] (S, I, J, R, c) Q) : X xs L (d + 8) 126 196 [.ref 65, .int x1, .int x2, .int x3, .long y4, .null, .int x6, v7] [] (S, I, J, R, c) Q := by
  refine X_lload (q := 4) (show decode (mB 126) 196 = .ok (.lload 4, 2) by decide +kernel) (pc' := 198) rfl rfl ?_
  refine X_bipush (v := 8) (show decode (mB 126) 198 = .ok (.bipush 8, 2) by decide +kernel) (pc' := 200) rfl (by decide +kernel) ?_
  refine X_lshl (show decode (mB 126) 200 = .ok (.lshl, 1) by decide +kernel) (pc' := 201) rfl ?_
  refine X_aload_n (q := 0) (show decode (mB 126) 201 = .ok (.aload_n 0, 1) by decide +kernel) (pc' := 202) rfl rfl rfl ?_
  refine X_getR (ci := 13) (f := 0) (q := 66) (show decode (mB 126) 202 = .ok (.getfield 9, 3) by decide +kernel) (pc' := 205) rfl (ls_65 hL) (by decide +kernel) rfl (lr_65_0 hL) ?_
  refine X_iload_n (q := 1) (show decode (mB 126) 205 = .ok (.iload_n 1, 1) by decide +kernel) (pc' := 206) rfl rfl rfl ?_
  refine X_baload (w := I 66 x1.toNatClampNeg) (show decode (mB 126) 206 = .ok (.baload, 1) by decide +kernel) (pc' := 207) rfl (ls_66 hL) hb206 rfl ?_
  refine X_i2l (show decode (mB 126) 207 = .ok (.i2l, 1) by decide +kernel) (pc' := 208) rfl ?_
  refine X_lor (show decode (mB 126) 208 = .ok (.lor, 1) by decide +kernel) (pc' := 209) rfl ?_
  refine X_lstore (q := 4) (ls' := [.ref 65, .int x1, .int x2, .int x3, .long ((y4 <<< ((8 : Int32).toInt64 &&& 63)) ||| ((I 66 x1.toNatClampNeg).toInt64)), .null, .int x6, v7]) (show decode (mB 126) 209 = .ok (.lstore 4, 2) by decide +kernel) (pc' := 211) rfl rfl ?_
  refine X_iinc (q := 1) (v := x1 + 1) (ls' := [.ref 65, .int (x1 + 1), .int x2, .int x3, .long ((y4 <<< ((8 : Int32).toInt64 &&& 63)) ||| ((I 66 x1.toNatClampNeg).toInt64)), .null, .int x6, v7]) (show decode (mB 126) 211 = .ok (.iinc 1 1, 3) by decide +kernel) (pc' := 214) rfl rfl rfl rfl ?_
  refine X_goto (tgt := 174) (show decode (mB 126) 214 = .ok (.goto (-40), 3) by decide +kernel) rfl ?_
  exact k
set_option maxRecDepth 4000 in
theorem b_X14_readTokens_217 {xs : Nat → Int32} {L d : Nat} {S : Nat → Shp} {I : Nat → Nat → Int32} {J : Nat → Nat → Int64} {R : Nat → Nat → Nat} {c : Nat × Nat} {Q : Option (Option Value) → MH → Prop} {x1 x2 x3 x6 : Int32} {y4 : Int64} {v7 : Value}  (kt : (x1 - x3) ≤ 4 → X xs L (d + 8) 126 228 [.ref 65, .int x1, .int x2, .int x3, .long y4, .null, .int x6, v7] [] (S, I, J, R, c) Q) (kf : ¬ ((x1 - x3) ≤ 4) → X xs L (d + 8) 126 224 [.ref 65, .int x1, .int x2, .int x3, .long y4, .null, .int x6, v7] [] (S, I, J, R, c) Q) : X xs L (d + 8) 126 217 [.ref 65, .int x1, .int x2, .int x3, .long y4, .null, .int x6, v7] [] (S, I, J, R, c) Q := by
  refine X_iload_n (q := 1) (show decode (mB 126) 217 = .ok (.iload_n 1, 1) by decide +kernel) (pc' := 218) rfl rfl rfl ?_
  refine X_iload_n (q := 3) (show decode (mB 126) 218 = .ok (.iload_n 3, 1) by decide +kernel) (pc' := 219) rfl rfl rfl ?_
  refine X_isub (show decode (mB 126) 219 = .ok (.isub, 1) by decide +kernel) (pc' := 220) rfl ?_
  refine X_iconst (v := 4) (show decode (mB 126) 220 = .ok (.iconst 4, 1) by decide +kernel) (pc' := 221) rfl rfl ?_
  exact X_icmp_le (tgt := 228) (show decode (mB 126) 221 = .ok (.if_icmp .le 7, 3) by decide +kernel) rfl (pc' := 224) rfl kt kf
set_option maxRecDepth 4000 in
theorem b_X14_readTokens_224 {xs : Nat → Int32} {L d : Nat} {S : Nat → Shp} {I : Nat → Nat → Int32} {J : Nat → Nat → Int64} {R : Nat → Nat → Nat} {c : Nat × Nat} {Q : Option (Option Value) → MH → Prop} {x1 x2 x3 x6 : Int32} {y4 : Int64} {v7 : Value}  (k : X xs L (d + 8) 126 229 [.ref 65, .int x1, .int x2, .int x3, .long y4, .null, .int x6, v7] [.int 4] (S, I, J, R, c) Q) : X xs L (d + 8) 126 224 [.ref 65, .int x1, .int x2, .int x3, .long y4, .null, .int x6, v7] [] (S, I, J, R, c) Q := by
  refine X_iconst (v := 4) (show decode (mB 126) 224 = .ok (.iconst 4, 1) by decide +kernel) (pc' := 225) rfl rfl ?_
  refine X_goto (tgt := 229) (show decode (mB 126) 225 = .ok (.goto 4, 3) by decide +kernel) rfl ?_
  exact k
set_option maxRecDepth 4000 in
theorem b_X14_readTokens_228 {xs : Nat → Int32} {L d : Nat} {S : Nat → Shp} {I : Nat → Nat → Int32} {J : Nat → Nat → Int64} {R : Nat → Nat → Nat} {c : Nat × Nat} {Q : Option (Option Value) → MH → Prop} {x1 x2 x3 x6 : Int32} {y4 : Int64} {v7 : Value}  (k : X xs L (d + 8) 126 229 [.ref 65, .int x1, .int x2, .int x3, .long y4, .null, .int x6, v7] [.int 2] (S, I, J, R, c) Q) : X xs L (d + 8) 126 228 [.ref 65, .int x1, .int x2, .int x3, .long y4, .null, .int x6, v7] [] (S, I, J, R, c) Q := by
  refine X_iconst (v := 2) (show decode (mB 126) 228 = .ok (.iconst 2, 1) by decide +kernel) (pc' := 229) rfl rfl ?_
  exact k
set_option maxRecDepth 4000 in
theorem b_X14_readTokens_229 {xs : Nat → Int32} {L d : Nat} {S : Nat → Shp} {I : Nat → Nat → Int32} {J : Nat → Nat → Int64} {R : Nat → Nat → Nat} {c : Nat × Nat} {Q : Option (Option Value) → MH → Prop} {x1 x2 x3 x6 sx0 : Int32} {y4 : Int64} {v7 : Value}  (k : X xs L (d + 8) 126 323 [.ref 65, .int x1, .int x2, .int x3, .long y4, .null, .int sx0, v7] [] (S, I, J, R, c) Q) : X xs L (d + 8) 126 229 [.ref 65, .int x1, .int x2, .int x3, .long y4, .null, .int x6, v7] [.int sx0] (S, I, J, R, c) Q := by
  refine X_istore (q := 6) (ls' := [.ref 65, .int x1, .int x2, .int x3, .long y4, .null, .int sx0, v7]) (show decode (mB 126) 229 = .ok (.istore 6, 2) by decide +kernel) (pc' := 231) rfl rfl ?_
  refine X_goto (tgt := 323) (show decode (mB 126) 231 = .ok (.goto 92, 3) by decide +kernel) rfl ?_
  exact k
set_option maxRecDepth 4000 in
theorem b_X14_readTokens_234 {xs : Nat → Int32} {L d : Nat} {S : Nat → Shp} {I : Nat → Nat → Int32} {J : Nat → Nat → Int64} {R : Nat → Nat → Nat} {c : Nat × Nat} {Q : Option (Option Value) → MH → Prop} {x1 x2 x3 x6 : Int32} {y4 : Int64} {v7 : Value}  (k : X xs L (d + 7) 123 0 [.int x2] [] (S, I, J, R, c) (Kc xs L (d + 8) 126 238 [.ref 65, .int x1, .int x2, .int x3, .long y4, .null, .int x6, v7] [] Q)) : X xs L (d + 8) 126 234 [.ref 65, .int x1, .int x2, .int x3, .long y4, .null, .int x6, v7] [] (S, I, J, R, c) Q := by
  refine X_iload_n (q := 2) (show decode (mB 126) 234 = .ok (.iload_n 2, 1) by decide +kernel) (pc' := 235) rfl rfl rfl ?_
  exact X_callS (y := 123) (n := 1) (st := [.int x2]) (as := [.int x2]) (rest := []) (ls0 := [.int x2]) (show decode (mB 126) 235 = .ok (.invokestatic 102, 3) by decide +kernel) (pc' := 238) rfl (by decide +kernel) (by decide +kernel) rfl rfl rfl rfl rfl rfl rfl rfl k
set_option maxRecDepth 4000 in
theorem b_X14_readTokens_238 {xs : Nat → Int32} {L d : Nat} {S : Nat → Shp} {I : Nat → Nat → Int32} {J : Nat → Nat → Int64} {R : Nat → Nat → Nat} {c : Nat × Nat} {Q : Option (Option Value) → MH → Prop} {x1 x2 x3 x6 sx0 : Int32} {y4 : Int64} {v7 : Value}  (kt : sx0 = 0 → X xs L (d + 8) 126 308 [.ref 65, .int x1, .int x2, .int x3, .long y4, .null, .int x6, v7] [] (S, I, J, R, c) Q) (kf : ¬ (sx0 = 0) → X xs L (d + 8) 126 241 [.ref 65, .int x1, .int x2, .int x3, .long y4, .null, .int x6, v7] [] (S, I, J, R, c) Q) : X xs L (d + 8) 126 238 [.ref 65, .int x1, .int x2, .int x3, .long y4, .null, .int x6, v7] [.int sx0] (S, I, J, R, c) Q := by
  exact X_if_eq (tgt := 308) (show decode (mB 126) 238 = .ok (.ifCond .eq 70, 3) by decide +kernel) rfl (pc' := 241) rfl kt kf
set_option maxRecDepth 4000 in
theorem b_X14_readTokens_241 {xs : Nat → Int32} {L d : Nat} {S : Nat → Shp} {I : Nat → Nat → Int32} {J : Nat → Nat → Int64} {R : Nat → Nat → Nat} {c : Nat × Nat} {Q : Option (Option Value) → MH → Prop} {x1 x2 x3 x6 : Int32} {y4 : Int64} {v7 : Value} (hL : Lay S R)  (k : X xs L (d + 7) 122 0 [.ref 65, .int x1] [] (S, I, J, R, c) (Kc xs L (d + 8) 126 246 [.ref 65, .int x1, .int x2, .int x3, .long y4, .null, .int x6, v7] [] Q)) : X xs L (d + 8) 126 241 [.ref 65, .int x1, .int x2, .int x3, .long y4, .null, .int x6, v7] [] (S, I, J, R, c) Q := by
  refine X_aload_n (q := 0) (show decode (mB 126) 241 = .ok (.aload_n 0, 1) by decide +kernel) (pc' := 242) rfl rfl rfl ?_
  refine X_iload_n (q := 1) (show decode (mB 126) 242 = .ok (.iload_n 1, 1) by decide +kernel) (pc' := 243) rfl rfl rfl ?_
  exact X_callV (y := 122) (n := 1) (st := [.int x1, .ref 65]) (as := [.ref 65, .int x1]) (rest := []) (ls0 := [.ref 65, .int x1]) (ci := 13) (show decode (mB 126) 243 = .ok (.invokevirtual 98, 3) by decide +kernel) (pc' := 246) rfl (by decide +kernel) (by decide +kernel) rfl (ls_65 hL) (by decide +kernel) rfl rfl rfl rfl rfl k
set_option maxRecDepth 4000 in
theorem b_X14_readTokens_246 {xs : Nat → Int32} {L d : Nat} {S : Nat → Shp} {I : Nat → Nat → Int32} {J : Nat → Nat → Int64} {R : Nat → Nat → Nat} {c : Nat × Nat} {Q : Option (Option Value) → MH → Prop} {x1 x2 x3 x6 sx0 : Int32} {y4 : Int64} {v7 : Value}  (k : X xs L (d + 7) 123 0 [.int sx0] [] (S, I, J, R, c) (Kc xs L (d + 8) 126 249 [.ref 65, .int x1, .int x2, .int x3, .long y4, .null, .int x6, v7] [] Q)) : X xs L (d + 8) 126 246 [.ref 65, .int x1, .int x2, .int x3, .long y4, .null, .int x6, v7] [.int sx0] (S, I, J, R, c) Q := by
  exact X_callS (y := 123) (n := 1) (st := [.int sx0]) (as := [.int sx0]) (rest := []) (ls0 := [.int sx0]) (show decode (mB 126) 246 = .ok (.invokestatic 102, 3) by decide +kernel) (pc' := 249) rfl (by decide +kernel) (by decide +kernel) rfl rfl rfl rfl rfl rfl rfl rfl k
set_option maxRecDepth 4000 in
theorem b_X14_readTokens_249 {xs : Nat → Int32} {L d : Nat} {S : Nat → Shp} {I : Nat → Nat → Int32} {J : Nat → Nat → Int64} {R : Nat → Nat → Nat} {c : Nat × Nat} {Q : Option (Option Value) → MH → Prop} {x1 x2 x3 x6 sx0 : Int32} {y4 : Int64} {v7 : Value}  (kt : sx0 = 0 → X xs L (d + 8) 126 291 [.ref 65, .int x1, .int x2, .int x3, .long y4, .null, .int x6, v7] [] (S, I, J, R, c) Q) (kf : ¬ (sx0 = 0) → X xs L (d + 8) 126 252 [.ref 65, .int x1, .int x2, .int x3, .long y4, .null, .int x6, v7] [] (S, I, J, R, c) Q) : X xs L (d + 8) 126 249 [.ref 65, .int x1, .int x2, .int x3, .long y4, .null, .int x6, v7] [.int sx0] (S, I, J, R, c) Q := by
  exact X_if_eq (tgt := 291) (show decode (mB 126) 249 = .ok (.ifCond .eq 42, 3) by decide +kernel) rfl (pc' := 252) rfl kt kf
set_option maxRecDepth 4000 in
theorem b_X14_readTokens_252 {xs : Nat → Int32} {L d : Nat} {S : Nat → Shp} {I : Nat → Nat → Int32} {J : Nat → Nat → Int64} {R : Nat → Nat → Nat} {c : Nat × Nat} {Q : Option (Option Value) → MH → Prop} {x1 x2 x3 x6 : Int32} {y4 : Int64} {v7 : Value}  (kt : 9 ≤ (x1 - x3) → X xs L (d + 8) 126 281 [.ref 65, .int x1, .int x2, .int x3, .long y4, .null, .int x6, v7] [] (S, I, J, R, c) Q) (kf : ¬ (9 ≤ (x1 - x3)) → X xs L (d + 8) 126 260 [.ref 65, .int x1, .int x2, .int x3, .long y4, .null, .int x6, v7] [] (S, I, J, R, c) Q) : X xs L (d + 8) 126 252 [.ref 65, .int x1, .int x2, .int x3, .long y4, .null, .int x6, v7] [] (S, I, J, R, c) Q := by
  refine X_iload_n (q := 1) (show decode (mB 126) 252 = .ok (.iload_n 1, 1) by decide +kernel) (pc' := 253) rfl rfl rfl ?_
  refine X_iload_n (q := 3) (show decode (mB 126) 253 = .ok (.iload_n 3, 1) by decide +kernel) (pc' := 254) rfl rfl rfl ?_
  refine X_isub (show decode (mB 126) 254 = .ok (.isub, 1) by decide +kernel) (pc' := 255) rfl ?_
  refine X_bipush (v := 9) (show decode (mB 126) 255 = .ok (.bipush 9, 2) by decide +kernel) (pc' := 257) rfl (by decide +kernel) ?_
  exact X_icmp_ge (tgt := 281) (show decode (mB 126) 257 = .ok (.if_icmp .ge 24, 3) by decide +kernel) rfl (pc' := 260) rfl kt kf
set_option maxRecDepth 4000 in
theorem b_X14_readTokens_260 {xs : Nat → Int32} {L d : Nat} {S : Nat → Shp} {I : Nat → Nat → Int32} {J : Nat → Nat → Int64} {R : Nat → Nat → Nat} {c : Nat × Nat} {Q : Option (Option Value) → MH → Prop} {x1 x2 x3 x6 : Int32} {y4 : Int64} {v7 : Value} (hL : Lay S R) (hb271 : inb x1 2000 = true) (k : X xs L (d + 8) 126 283 [.ref 65, .int x1, .int x2, .int x3, .long y4, .null, .int x6, v7] [.long ((((10 : Int64) * y4) + ((I 66 x1.toNatClampNeg).toInt64)) - 48)] (S, I, J, R, c) Q) : X xs L (d + 8) 126 260 [.ref 65, .int x1, .int x2, .int x3, .long y4, .null, .int x6, v7] [] (S, I, J, R, c) Q := by
  refine X_ldc2 (v := 10) (show decode (mB 126) 260 = .ok (.ldc2_w 111, 3) by decide +kernel) (pc' := 263) rfl (by decide +kernel) ?_
  refine X_lload (q := 4) (show decode (mB 126) 263 = .ok (.lload 4, 2) by decide +kernel) (pc' := 265) rfl rfl ?_
  refine X_lmul (show decode (mB 126) 265 = .ok (.lmul, 1) by decide +kernel) (pc' := 266) rfl ?_
  refine X_aload_n (q := 0) (show decode (mB 126) 266 = .ok (.aload_n 0, 1) by decide +kernel) (pc' := 267) rfl rfl rfl ?_
  refine X_getR (ci := 13) (f := 0) (q := 66) (show decode (mB 126) 267 = .ok (.getfield 9, 3) by decide +kernel) (pc' := 270) rfl (ls_65 hL) (by decide +kernel) rfl (lr_65_0 hL) ?_
  refine X_iload_n (q := 1) (show decode (mB 126) 270 = .ok (.iload_n 1, 1) by decide +kernel) (pc' := 271) rfl rfl rfl ?_
  refine X_baload (w := I 66 x1.toNatClampNeg) (show decode (mB 126) 271 = .ok (.baload, 1) by decide +kernel) (pc' := 272) rfl (ls_66 hL) hb271 rfl ?_
  refine X_i2l (show decode (mB 126) 272 = .ok (.i2l, 1) by decide +kernel) (pc' := 273) rfl ?_
  refine X_ladd (show decode (mB 126) 273 = .ok (.ladd, 1) by decide +kernel) (pc' := 274) rfl ?_
  refine X_ldc2 (v := 48) (show decode (mB 126) 274 = .ok (.ldc2_w 113, 3) by decide +kernel) (pc' := 277) rfl (by decide +kernel) ?_
  refine X_lsub (show decode (mB 126) 277 = .ok (.lsub, 1) by decide +kernel) (pc' := 278) rfl ?_
  refine X_goto (tgt := 283) (show decode (mB 126) 278 = .ok (.goto 5, 3) by decide +kernel) rfl ?_
  exact k
set_option maxRecDepth 4000 in
theorem b_X14_readTokens_281 {xs : Nat → Int32} {L d : Nat} {S : Nat → Shp} {I : Nat → Nat → Int32} {J : Nat → Nat → Int64} {R : Nat → Nat → Nat} {c : Nat × Nat} {Q : Option (Option Value) → MH → Prop} {x1 x2 x3 x6 : Int32} {y4 : Int64} {v7 : Value}  (k : X xs L (d + 8) 126 283 [.ref 65, .int x1, .int x2, .int x3, .long y4, .null, .int x6, v7] [.long y4] (S, I, J, R, c) Q) : X xs L (d + 8) 126 281 [.ref 65, .int x1, .int x2, .int x3, .long y4, .null, .int x6, v7] [] (S, I, J, R, c) Q := by
  refine X_lload (q := 4) (show decode (mB 126) 281 = .ok (.lload 4, 2) by decide +kernel) (pc' := 283) rfl rfl ?_
  exact k
set_option maxRecDepth 4000 in
theorem b_X14_readTokens_283 {xs : Nat → Int32} {L d : Nat} {S : Nat → Shp} {I : Nat → Nat → Int32} {J : Nat → Nat → Int64} {R : Nat → Nat → Nat} {c : Nat × Nat} {Q : Option (Option Value) → MH → Prop} {x1 x2 x3 x6 : Int32} {y4 sy0 : Int64} {v7 : Value}  (k : X xs L (d + 8) 126 241 [.ref 65, .int (x1 + 1), .int x2, .int x3, .long sy0, .null, .int x6, v7] [] (S, I, J, R, c) Q) : X xs L (d + 8) 126 283 [.ref 65, .int x1, .int x2, .int x3, .long y4, .null, .int x6, v7] [.long sy0] (S, I, J, R, c) Q := by
  refine X_lstore (q := 4) (ls' := [.ref 65, .int x1, .int x2, .int x3, .long sy0, .null, .int x6, v7]) (show decode (mB 126) 283 = .ok (.lstore 4, 2) by decide +kernel) (pc' := 285) rfl rfl ?_
  refine X_iinc (q := 1) (v := x1 + 1) (ls' := [.ref 65, .int (x1 + 1), .int x2, .int x3, .long sy0, .null, .int x6, v7]) (show decode (mB 126) 285 = .ok (.iinc 1 1, 3) by decide +kernel) (pc' := 288) rfl rfl rfl rfl ?_
  refine X_goto (tgt := 241) (show decode (mB 126) 288 = .ok (.goto (-47), 3) by decide +kernel) rfl ?_
  exact k
set_option maxRecDepth 4000 in
theorem b_X14_readTokens_291 {xs : Nat → Int32} {L d : Nat} {S : Nat → Shp} {I : Nat → Nat → Int32} {J : Nat → Nat → Int64} {R : Nat → Nat → Nat} {c : Nat × Nat} {Q : Option (Option Value) → MH → Prop} {x1 x2 x3 x6 : Int32} {y4 : Int64} {v7 : Value}  (kt : (x1 - x3) ≤ 4 → X xs L (d + 8) 126 302 [.ref 65, .int x1, .int x2, .int x3, .long y4, .null, .int x6, v7] [] (S, I, J, R, c) Q) (kf : ¬ ((x1 - x3) ≤ 4) → X xs L (d + 8) 126 298 [.ref 65, .int x1, .int x2, .int x3, .long y4, .null, .int x6, v7] [] (S, I, J, R, c) Q) : X xs L (d + 8) 126 291 [.ref 65, .int x1, .int x2, .int x3, .long y4, .null, .int x6, v7] [] (S, I, J, R, c) Q := by
  refine X_iload_n (q := 1) (show decode (mB 126) 291 = .ok (.iload_n 1, 1) by decide +kernel) (pc' := 292) rfl rfl rfl ?_
  refine X_iload_n (q := 3) (show decode (mB 126) 292 = .ok (.iload_n 3, 1) by decide +kernel) (pc' := 293) rfl rfl rfl ?_
  refine X_isub (show decode (mB 126) 293 = .ok (.isub, 1) by decide +kernel) (pc' := 294) rfl ?_
  refine X_iconst (v := 4) (show decode (mB 126) 294 = .ok (.iconst 4, 1) by decide +kernel) (pc' := 295) rfl rfl ?_
  exact X_icmp_le (tgt := 302) (show decode (mB 126) 295 = .ok (.if_icmp .le 7, 3) by decide +kernel) rfl (pc' := 298) rfl kt kf
set_option maxRecDepth 4000 in
theorem b_X14_readTokens_298 {xs : Nat → Int32} {L d : Nat} {S : Nat → Shp} {I : Nat → Nat → Int32} {J : Nat → Nat → Int64} {R : Nat → Nat → Nat} {c : Nat × Nat} {Q : Option (Option Value) → MH → Prop} {x1 x2 x3 x6 : Int32} {y4 : Int64} {v7 : Value}  (k : X xs L (d + 8) 126 303 [.ref 65, .int x1, .int x2, .int x3, .long y4, .null, .int x6, v7] [.int 4] (S, I, J, R, c) Q) : X xs L (d + 8) 126 298 [.ref 65, .int x1, .int x2, .int x3, .long y4, .null, .int x6, v7] [] (S, I, J, R, c) Q := by
  refine X_iconst (v := 4) (show decode (mB 126) 298 = .ok (.iconst 4, 1) by decide +kernel) (pc' := 299) rfl rfl ?_
  refine X_goto (tgt := 303) (show decode (mB 126) 299 = .ok (.goto 4, 3) by decide +kernel) rfl ?_
  exact k
set_option maxRecDepth 4000 in
theorem b_X14_readTokens_302 {xs : Nat → Int32} {L d : Nat} {S : Nat → Shp} {I : Nat → Nat → Int32} {J : Nat → Nat → Int64} {R : Nat → Nat → Nat} {c : Nat × Nat} {Q : Option (Option Value) → MH → Prop} {x1 x2 x3 x6 : Int32} {y4 : Int64} {v7 : Value}  (k : X xs L (d + 8) 126 303 [.ref 65, .int x1, .int x2, .int x3, .long y4, .null, .int x6, v7] [.int 3] (S, I, J, R, c) Q) : X xs L (d + 8) 126 302 [.ref 65, .int x1, .int x2, .int x3, .long y4, .null, .int x6, v7] [] (S, I, J, R, c) Q := by
  refine X_iconst (v := 3) (show decode (mB 126) 302 = .ok (.iconst 3, 1) by decide +kernel) (pc' := 303) rfl rfl ?_
  exact k
set_option maxRecDepth 4000 in
theorem b_X14_readTokens_303 {xs : Nat → Int32} {L d : Nat} {S : Nat → Shp} {I : Nat → Nat → Int32} {J : Nat → Nat → Int64} {R : Nat → Nat → Nat} {c : Nat × Nat} {Q : Option (Option Value) → MH → Prop} {x1 x2 x3 x6 sx0 : Int32} {y4 : Int64} {v7 : Value}  (k : X xs L (d + 8) 126 323 [.ref 65, .int x1, .int x2, .int x3, .long y4, .null, .int sx0, v7] [] (S, I, J, R, c) Q) : X xs L (d + 8) 126 303 [.ref 65, .int x1, .int x2, .int x3, .long y4, .null, .int x6, v7] [.int sx0] (S, I, J, R, c) Q := by
  refine X_istore (q := 6) (ls' := [.ref 65, .int x1, .int x2, .int x3, .long y4, .null, .int sx0, v7]) (show decode (mB 126) 303 = .ok (.istore 6, 2) by decide +kernel) (pc' := 305) rfl rfl ?_
  refine X_goto (tgt := 323) (show decode (mB 126) 305 = .ok (.goto 18, 3) by decide +kernel) rfl ?_
  exact k
set_option maxRecDepth 4000 in
theorem b_X14_readTokens_308 {xs : Nat → Int32} {L d : Nat} {S : Nat → Shp} {I : Nat → Nat → Int32} {J : Nat → Nat → Int64} {R : Nat → Nat → Nat} {c : Nat × Nat} {Q : Option (Option Value) → MH → Prop} {x1 x2 x3 x6 : Int32} {y4 : Int64} {v7 : Value}  (kt : (ixOf x2) < 0 → X xs L (d + 8) 126 320 [.ref 65, .int x1, .int x2, .int x3, .long y4, .null, .int x6, v7] [] (S, I, J, R, c) Q) (kf : ¬ ((ixOf x2) < 0) → X xs L (d + 8) 126 317 [.ref 65, .int x1, .int x2, .int x3, .long y4, .null, .int x6, v7] [] (S, I, J, R, c) Q) : X xs L (d + 8) 126 308 [.ref 65, .int x1, .int x2, .int x3, .long y4, .null, .int x6, v7] [] (S, I, J, R, c) Q := by
  refine X_ldcs (show decode (mB 126) 308 = .ok (.ldc 115, 2) by decide +kernel) (pc' := 310) rfl (by decide +kernel) ?_
  refine X_iload_n (q := 2) (show decode (mB 126) 310 = .ok (.iload_n 2, 1) by decide +kernel) (pc' := 311) rfl rfl rfl ?_
  refine X_indexOf (show decode (mB 126) 311 = .ok (.invokevirtual 117, 3) by decide +kernel) (pc' := 314) rfl (by decide +kernel) (Nat.le_add_left 8 d) (Nat.le_of_ble_eq_true rfl) ?_
  exact X_if_lt (tgt := 320) (show decode (mB 126) 314 = .ok (.ifCond .lt 6, 3) by decide +kernel) rfl (pc' := 317) rfl kt kf
set_option maxRecDepth 4000 in
theorem b_X14_readTokens_317 {xs : Nat → Int32} {L d : Nat} {S : Nat → Shp} {I : Nat → Nat → Int32} {J : Nat → Nat → Int64} {R : Nat → Nat → Nat} {c : Nat × Nat} {Q : Option (Option Value) → MH → Prop} {x1 x2 x3 x6 : Int32} {y4 : Int64} {v7 : Value}  (k : X xs L (d + 8) 126 320 [.ref 65, .int x1, .int x2, .int x3, .long y4, .null, .int x2, v7] [] (S, I, J, R, c) Q) : X xs L (d + 8) 126 317 [.ref 65, .int x1, .int x2, .int x3, .long y4, .null, .int x6, v7] [] (S, I, J, R, c) Q := by
  refine X_iload_n (q := 2) (show decode (mB 126) 317 = .ok (.iload_n 2, 1) by decide +kernel) (pc' := 318) rfl rfl rfl ?_
  refine X_istore (q := 6) (ls' := [.ref 65, .int x1, .int x2, .int x3, .long y4, .null, .int x2, v7]) (show decode (mB 126) 318 = .ok (.istore 6, 2) by decide +kernel) (pc' := 320) rfl rfl ?_
  exact k
set_option maxRecDepth 4000 in
theorem b_X14_readTokens_320 {xs : Nat → Int32} {L d : Nat} {S : Nat → Shp} {I : Nat → Nat → Int32} {J : Nat → Nat → Int64} {R : Nat → Nat → Nat} {c : Nat × Nat} {Q : Option (Option Value) → MH → Prop} {x1 x2 x3 x6 : Int32} {y4 : Int64} {v7 : Value}  (k : X xs L (d + 8) 126 323 [.ref 65, .int (x1 + 1), .int x2, .int x3, .long y4, .null, .int x6, v7] [] (S, I, J, R, c) Q) : X xs L (d + 8) 126 320 [.ref 65, .int x1, .int x2, .int x3, .long y4, .null, .int x6, v7] [] (S, I, J, R, c) Q := by
  refine X_iinc (q := 1) (v := x1 + 1) (ls' := [.ref 65, .int (x1 + 1), .int x2, .int x3, .long y4, .null, .int x6, v7]) (show decode (mB 126) 320 = .ok (.iinc 1 1, 3) by decide +kernel) (pc' := 323) rfl rfl rfl rfl ?_
  exact k
set_option maxRecDepth 4000 in
theorem b_X14_readTokens_323 {xs : Nat → Int32} {L d : Nat} {S : Nat → Shp} {I : Nat → Nat → Int32} {J : Nat → Nat → Int64} {R : Nat → Nat → Nat} {c : Nat × Nat} {Q : Option (Option Value) → MH → Prop} {x1 x2 x3 x6 : Int32} {y4 : Int64} {v7 : Value} (hL : Lay S R) (hb333 : inb (I 65 6) 2001 = true) (hb344 : inb (I 65 6) 2001 = true) (hb354 : inb (I 65 6) 2001 = true) (hb366 : inb (I 65 6) 2001 = true) (k : X xs L (d + 8) 126 7 [.ref 65, .int x1, .int x2, .int x3, .long y4, .null, .int x6, v7] [] (S, (u2 (u2 (u2 (u2 I 67 ((I 65 6).toNatClampNeg) x6) 69 ((I 65 6).toNatClampNeg) x3) 70 ((I 65 6).toNatClampNeg) (x1 - x3)) 65 6 ((I 65 6) + 1)), (u2 J 68 ((I 65 6).toNatClampNeg) y4), R, c) Q) : X xs L (d + 8) 126 323 [.ref 65, .int x1, .int x2, .int x3, .long y4, .null, .int x6, v7] [] (S, I, J, R, c) Q := by
  refine X_aload_n (q := 0) (show decode (mB 126) 323 = .ok (.aload_n 0, 1) by decide +kernel) (pc' := 324) rfl rfl rfl ?_
  refine X_getR (ci := 13) (f := 2) (q := 67) (show decode (mB 126) 324 = .ok (.getfield 13, 3) by decide +kernel) (pc' := 327) rfl (ls_65 hL) (by decide +kernel) rfl (lr_65_2 hL) ?_
  refine X_aload_n (q := 0) (show decode (mB 126) 327 = .ok (.aload_n 0, 1) by decide +kernel) (pc' := 328) rfl rfl rfl ?_
  refine X_getI (ci := 13) (f := 6) (x := I 65 6) (show decode (mB 126) 328 = .ok (.getfield 91, 3) by decide +kernel) (pc' := 331) rfl (ls_65 hL) (by decide +kernel) rfl rfl ?_
  refine X_iload (q := 6) (show decode (mB 126) 331 = .ok (.iload 6, 2) by decide +kernel) (pc' := 333) rfl rfl ?_
  refine X_iastore (show decode (mB 126) 333 = .ok (.iastore, 1) by decide +kernel) (pc' := 334) rfl (ls_67 hL) hb333 ?_
  refine X_aload_n (q := 0) (show decode (mB 126) 334 = .ok (.aload_n 0, 1) by decide +kernel) (pc' := 335) rfl rfl rfl ?_
  refine X_getR (ci := 13) (f := 3) (q := 68) (show decode (mB 126) 335 = .ok (.getfield 17, 3) by decide +kernel) (pc' := 338) rfl (ls_65 hL) (by decide +kernel) rfl (lr_65_3 hL) ?_
  refine X_aload_n (q := 0) (show decode (mB 126) 338 = .ok (.aload_n 0, 1) by decide +kernel) (pc' := 339) rfl rfl rfl ?_
  refine X_getI (ci := 13) (f := 6) (x := I 65 6) (show decode (mB 126) 339 = .ok (.getfield 91, 3) by decide +kernel) (pc' := 342) rfl (ls_65 hL) (by decide +kernel) rfl (by simp [u2, u1]) ?_
  refine X_lload (q := 4) (show decode (mB 126) 342 = .ok (.lload 4, 2) by decide +kernel) (pc' := 344) rfl rfl ?_
  refine X_lastore (show decode (mB 126) 344 = .ok (.lastore, 1) by decide +kernel) (pc' := 345) rfl (ls_68 hL) hb344 ?_
  refine X_aload_n (q := 0) (show decode (mB 126) 345 = .ok (.aload_n 0, 1) by decide +kernel) (pc' := 346) rfl rfl rfl ?_
  refine X_getR (ci := 13) (f := 4) (q := 69) (show decode (mB 126) 346 = .ok (.getfield 21, 3) by decide +kernel) (pc' := 349) rfl (ls_65 hL) (by decide +kernel) rfl (lr_65_4 hL) ?_
  refine X_aload_n (q := 0) (show decode (mB 126) 349 = .ok (.aload_n 0, 1) by decide +kernel) (pc' := 350) rfl rfl rfl ?_
  refine X_getI (ci := 13) (f := 6) (x := I 65 6) (show decode (mB 126) 350 = .ok (.getfield 91, 3) by decide +kernel) (pc' := 353) rfl (ls_65 hL) (by decide +kernel) rfl (by simp [u2, u1]) ?_
  refine X_iload_n (q := 3) (show decode (mB 126) 353 = .ok (.iload_n 3, 1) by decide +kernel) (pc' := 354) rfl rfl rfl ?_
  refine X_iastore (show decode (mB 126) 354 = .ok (.iastore, 1) by decide +kernel) (pc' := 355) rfl (ls_69 hL) hb354 ?_
  refine X_aload_n (q := 0) (show decode (mB 126) 355 = .ok (.aload_n 0, 1) by decide +kernel) (pc' := 356) rfl rfl rfl ?_
  refine X_getR (ci := 13) (f := 5) (q := 70) (show decode (mB 126) 356 = .ok (.getfield 24, 3) by decide +kernel) (pc' := 359) rfl (ls_65 hL) (by decide +kernel) rfl (lr_65_5 hL) ?_
  refine X_aload_n (q := 0) (show decode (mB 126) 359 = .ok (.aload_n 0, 1) by decide +kernel) (pc' := 360) rfl rfl rfl ?_
  refine X_getI (ci := 13) (f := 6) (x := I 65 6) (show decode (mB 126) 360 = .ok (.getfield 91, 3) by decide +kernel) (pc' := 363) rfl (ls_65 hL) (by decide +kernel) rfl (by simp [u2, u1]) ?_
  refine X_iload_n (q := 1) (show decode (mB 126) 363 = .ok (.iload_n 1, 1) by decide +kernel) (pc' := 364) rfl rfl rfl ?_
  refine X_iload_n (q := 3) (show decode (mB 126) 364 = .ok (.iload_n 3, 1) by decide +kernel) (pc' := 365) rfl rfl rfl ?_
  refine X_isub (show decode (mB 126) 365 = .ok (.isub, 1) by decide +kernel) (pc' := 366) rfl ?_
  refine X_iastore (show decode (mB 126) 366 = .ok (.iastore, 1) by decide +kernel) (pc' := 367) rfl (ls_70 hL) hb366 ?_
  refine X_aload_n (q := 0) (show decode (mB 126) 367 = .ok (.aload_n 0, 1) by decide +kernel) (pc' := 368) rfl rfl rfl ?_
  refine X_dup (show decode (mB 126) 368 = .ok (.dup, 1) by decide +kernel) (pc' := 369) rfl rfl ?_
  refine X_getI (ci := 13) (f := 6) (x := I 65 6) (show decode (mB 126) 369 = .ok (.getfield 91, 3) by decide +kernel) (pc' := 372) rfl (ls_65 hL) (by decide +kernel) rfl (by simp [u2, u1]) ?_
  refine X_iconst (v := 1) (show decode (mB 126) 372 = .ok (.iconst 1, 1) by decide +kernel) (pc' := 373) rfl rfl ?_
  refine X_iadd (show decode (mB 126) 373 = .ok (.iadd, 1) by decide +kernel) (pc' := 374) rfl ?_
  refine X_putI (ci := 13) (f := 6) (show decode (mB 126) 374 = .ok (.putfield 91, 3) by decide +kernel) (pc' := 377) rfl (ls_65 hL) (by decide +kernel) (by decide +kernel) rfl ?_
  refine X_goto (tgt := 7) (show decode (mB 126) 377 = .ok (.goto (-370), 3) by decide +kernel) rfl ?_
  exact k
set_option maxRecDepth 4000 in
theorem b_X14_readTokens_380 {xs : Nat → Int32} {L d : Nat} {S : Nat → Shp} {I : Nat → Nat → Int32} {J : Nat → Nat → Int64} {R : Nat → Nat → Nat} {c : Nat × Nat} {Q : Option (Option Value) → MH → Prop} {x1 : Int32} {v2 v3 v4 v6 v7 : Value} (hL : Lay S R) (hb389 : inb (I 65 6) 2001 = true) (hb402 : inb (I 65 6) 2001 = true) (k : Q (some none) (S, (u2 (u2 (u2 I 67 ((I 65 6).toNatClampNeg) 0) 69 ((I 65 6).toNatClampNeg) (I 65 1)) 65 1 0), J, R, c)) : X xs L (d + 8) 126 380 [.ref 65, .int x1, v2, v3, v4, .null, v6, v7] [] (S, I, J, R, c) Q := by
  refine X_aload_n (q := 0) (show decode (mB 126) 380 = .ok (.aload_n 0, 1) by decide +kernel) (pc' := 381) rfl rfl rfl ?_
  refine X_getR (ci := 13) (f := 2) (q := 67) (show decode (mB 126) 381 = .ok (.getfield 13, 3) by decide +kernel) (pc' := 384) rfl (ls_65 hL) (by decide +kernel) rfl (lr_65_2 hL) ?_
  refine X_aload_n (q := 0) (show decode (mB 126) 384 = .ok (.aload_n 0, 1) by decide +kernel) (pc' := 385) rfl rfl rfl ?_
  refine X_getI (ci := 13) (f := 6) (x := I 65 6) (show decode (mB 126) 385 = .ok (.getfield 91, 3) by decide +kernel) (pc' := 388) rfl (ls_65 hL) (by decide +kernel) rfl rfl ?_
  refine X_iconst (v := 0) (show decode (mB 126) 388 = .ok (.iconst 0, 1) by decide +kernel) (pc' := 389) rfl rfl ?_
  refine X_iastore (show decode (mB 126) 389 = .ok (.iastore, 1) by decide +kernel) (pc' := 390) rfl (ls_67 hL) hb389 ?_
  refine X_aload_n (q := 0) (show decode (mB 126) 390 = .ok (.aload_n 0, 1) by decide +kernel) (pc' := 391) rfl rfl rfl ?_
  refine X_getR (ci := 13) (f := 4) (q := 69) (show decode (mB 126) 391 = .ok (.getfield 21, 3) by decide +kernel) (pc' := 394) rfl (ls_65 hL) (by decide +kernel) rfl (lr_65_4 hL) ?_
  refine X_aload_n (q := 0) (show decode (mB 126) 394 = .ok (.aload_n 0, 1) by decide +kernel) (pc' := 395) rfl rfl rfl ?_
  refine X_getI (ci := 13) (f := 6) (x := I 65 6) (show decode (mB 126) 395 = .ok (.getfield 91, 3) by decide +kernel) (pc' := 398) rfl (ls_65 hL) (by decide +kernel) rfl (by simp [u2, u1]) ?_
  refine X_aload_n (q := 0) (show decode (mB 126) 398 = .ok (.aload_n 0, 1) by decide +kernel) (pc' := 399) rfl rfl rfl ?_
  refine X_getI (ci := 13) (f := 1) (x := I 65 1) (show decode (mB 126) 399 = .ok (.getfield 83, 3) by decide +kernel) (pc' := 402) rfl (ls_65 hL) (by decide +kernel) rfl (by simp [u2, u1]) ?_
  refine X_iastore (show decode (mB 126) 402 = .ok (.iastore, 1) by decide +kernel) (pc' := 403) rfl (ls_69 hL) hb402 ?_
  refine X_aload_n (q := 0) (show decode (mB 126) 403 = .ok (.aload_n 0, 1) by decide +kernel) (pc' := 404) rfl rfl rfl ?_
  refine X_iconst (v := 0) (show decode (mB 126) 404 = .ok (.iconst 0, 1) by decide +kernel) (pc' := 405) rfl rfl ?_
  refine X_putI (ci := 13) (f := 1) (show decode (mB 126) 405 = .ok (.putfield 83, 3) by decide +kernel) (pc' := 408) rfl (ls_65 hL) (by decide +kernel) (by decide +kernel) rfl ?_
  exact X_return (show decode (mB 126) 408 = .ok (.return_, 1) by decide +kernel) (by decide +kernel) k
set_option maxRecDepth 4000 in
theorem b_X14_here_0 {xs : Nat → Int32} {L d : Nat} {S : Nat → Shp} {I : Nat → Nat → Int32} {J : Nat → Nat → Int64} {R : Nat → Nat → Nat} {c : Nat × Nat} {Q : Option (Option Value) → MH → Prop} {x1 : Int32} (hL : Lay S R) (hb8 : inb (I 65 7) 2001 = true) (kt : ¬ (I 67 (I 65 7).toNatClampNeg) = x1 → X xs L d 127 17 [.ref 65, .int x1] [] (S, I, J, R, c) Q) (kf : ¬ (¬ (I 67 (I 65 7).toNatClampNeg) = x1) → X xs L d 127 13 [.ref 65, .int x1] [] (S, I, J, R, c) Q) : X xs L d 127 0 [.ref 65, .int x1] [] (S, I, J, R, c) Q := by
  refine X_aload_n (q := 0) (show decode (mB 127) 0 = .ok (.aload_n 0, 1) by decide +kernel) (pc' := 1) rfl rfl rfl ?_
  refine X_getR (ci := 13) (f := 2) (q := 67) (show decode (mB 127) 1 = .ok (.getfield 13, 3) by decide +kernel) (pc' := 4) rfl (ls_65 hL) (by decide +kernel) rfl (lr_65_2 hL) ?_
  refine X_aload_n (q := 0) (show decode (mB 127) 4 = .ok (.aload_n 0, 1) by decide +kernel) (pc' := 5) rfl rfl rfl ?_
  refine X_getI (ci := 13) (f := 7) (x := I 65 7) (show decode (mB 127) 5 = .ok (.getfield 122, 3) by decide +kernel) (pc' := 8) rfl (ls_65 hL) (by decide +kernel) rfl rfl ?_
  refine X_iaload (w := I 67 (I 65 7).toNatClampNeg) (show decode (mB 127) 8 = .ok (.iaload, 1) by decide +kernel) (pc' := 9) rfl (ls_67 hL) hb8 rfl ?_
  refine X_iload_n (q := 1) (show decode (mB 127) 9 = .ok (.iload_n 1, 1) by decide +kernel) (pc' := 10) rfl rfl rfl ?_
  exact X_icmp_ne (tgt := 17) (show decode (mB 127) 10 = .ok (.if_icmp .ne 7, 3) by decide +kernel) rfl (pc' := 13) rfl kt kf
set_option maxRecDepth 4000 in
theorem b_X14_here_13 {xs : Nat → Int32} {L d : Nat} {S : Nat → Shp} {I : Nat → Nat → Int32} {J : Nat → Nat → Int64} {R : Nat → Nat → Nat} {c : Nat × Nat} {Q : Option (Option Value) → MH → Prop} {x1 : Int32}  (k : X xs L d 127 18 [.ref 65, .int x1] [.int 1] (S, I, J, R, c) Q) : X xs L d 127 13 [.ref 65, .int x1] [] (S, I, J, R, c) Q := by
  refine X_iconst (v := 1) (show decode (mB 127) 13 = .ok (.iconst 1, 1) by decide +kernel) (pc' := 14) rfl rfl ?_
  refine X_goto (tgt := 18) (show decode (mB 127) 14 = .ok (.goto 4, 3) by decide +kernel) rfl ?_
  exact k
set_option maxRecDepth 4000 in
theorem b_X14_here_17 {xs : Nat → Int32} {L d : Nat} {S : Nat → Shp} {I : Nat → Nat → Int32} {J : Nat → Nat → Int64} {R : Nat → Nat → Nat} {c : Nat × Nat} {Q : Option (Option Value) → MH → Prop} {x1 : Int32}  (k : X xs L d 127 18 [.ref 65, .int x1] [.int 0] (S, I, J, R, c) Q) : X xs L d 127 17 [.ref 65, .int x1] [] (S, I, J, R, c) Q := by
  refine X_iconst (v := 0) (show decode (mB 127) 17 = .ok (.iconst 0, 1) by decide +kernel) (pc' := 18) rfl rfl ?_
  exact k
set_option maxRecDepth 4000 in
theorem b_X14_here_18 {xs : Nat → Int32} {L d : Nat} {S : Nat → Shp} {I : Nat → Nat → Int32} {J : Nat → Nat → Int64} {R : Nat → Nat → Nat} {c : Nat × Nat} {Q : Option (Option Value) → MH → Prop} {x1 sx0 : Int32} (hz18 : sx0 = 0 ∨ sx0 = 1) (k : Q (some (some (.int sx0))) (S, I, J, R, c)) : X xs L d 127 18 [.ref 65, .int x1] [.int sx0] (S, I, J, R, c) Q := by
  exact X_ireturn (ty := .boolean) (show decode (mB 127) 18 = .ok (.ireturn, 1) by decide +kernel) (by decide +kernel) (nz hz18) k
set_option maxRecDepth 4000 in
theorem b_X14_check_0 {xs : Nat → Int32} {L d : Nat} {S : Nat → Shp} {I : Nat → Nat → Int32} {J : Nat → Nat → Int64} {R : Nat → Nat → Nat} {c : Nat × Nat} {Q : Option (Option Value) → MH → Prop} {x1 : Int32}  (kt : x1 = 0 → X xs L (d + 8) 128 5 [.ref 65, .int x1] [] (S, I, J, R, c) Q) (kf : ¬ (x1 = 0) → X xs L (d + 8) 128 4 [.ref 65, .int x1] [] (S, I, J, R, c) Q) : X xs L (d + 8) 128 0 [.ref 65, .int x1] [] (S, I, J, R, c) Q := by
  refine X_iload_n (q := 1) (show decode (mB 128) 0 = .ok (.iload_n 1, 1) by decide +kernel) (pc' := 1) rfl rfl rfl ?_
  exact X_if_eq (tgt := 5) (show decode (mB 128) 1 = .ok (.ifCond .eq 4, 3) by decide +kernel) rfl (pc' := 4) rfl kt kf
set_option maxRecDepth 4000 in
theorem b_X14_check_4 {xs : Nat → Int32} {L d : Nat} {S : Nat → Shp} {I : Nat → Nat → Int32} {J : Nat → Nat → Int64} {R : Nat → Nat → Nat} {c : Nat × Nat} {Q : Option (Option Value) → MH → Prop} {x1 : Int32}  (k : Q (some none) (S, I, J, R, c)) : X xs L (d + 8) 128 4 [.ref 65, .int x1] [] (S, I, J, R, c) Q := by
  exact X_return (show decode (mB 128) 4 = .ok (.return_, 1) by decide +kernel) (by decide +kernel) k
set_option maxRecDepth 4000 in
theorem b_X14_check_5 {xs : Nat → Int32} {L d : Nat} {S : Nat → Shp} {I : Nat → Nat → Int32} {J : Nat → Nat → Int64} {R : Nat → Nat → Nat} {c : Nat × Nat} {Q : Option (Option Value) → MH → Prop} {x1 : Int32} (hL : Lay S R) (hb14 : inb (I 65 7) 2001 = true) (k : Q none (thM (S, (u2 I 65 8 (I 69 (I 65 7).toNatClampNeg)), J, R, c))) : X xs L (d + 8) 128 5 [.ref 65, .int x1] [] (S, I, J, R, c) Q := by
  refine X_aload_n (q := 0) (show decode (mB 128) 5 = .ok (.aload_n 0, 1) by decide +kernel) (pc' := 6) rfl rfl rfl ?_
  refine X_aload_n (q := 0) (show decode (mB 128) 6 = .ok (.aload_n 0, 1) by decide +kernel) (pc' := 7) rfl rfl rfl ?_
  refine X_getR (ci := 13) (f := 4) (q := 69) (show decode (mB 128) 7 = .ok (.getfield 21, 3) by decide +kernel) (pc' := 10) rfl (ls_65 hL) (by decide +kernel) rfl (lr_65_4 hL) ?_
  refine X_aload_n (q := 0) (show decode (mB 128) 10 = .ok (.aload_n 0, 1) by decide +kernel) (pc' := 11) rfl rfl rfl ?_
  refine X_getI (ci := 13) (f := 7) (x := I 65 7) (show decode (mB 128) 11 = .ok (.getfield 122, 3) by decide +kernel) (pc' := 14) rfl (ls_65 hL) (by decide +kernel) rfl rfl ?_
  refine X_iaload (w := I 69 (I 65 7).toNatClampNeg) (show decode (mB 128) 14 = .ok (.iaload, 1) by decide +kernel) (pc' := 15) rfl (ls_69 hL) hb14 rfl ?_
  refine X_putI (ci := 13) (f := 8) (show decode (mB 128) 15 = .ok (.putfield 125, 3) by decide +kernel) (pc' := 18) rfl (ls_65 hL) (by decide +kernel) (by decide +kernel) rfl ?_
  exact X_thr (show decode (mB 128) 18 = .ok (.new 128, 3) by decide +kernel) (by decide +kernel) (by decide +kernel) (Nat.le_add_left 8 d) k
set_option maxRecDepth 4000 in
theorem b_X14_take_0 {xs : Nat → Int32} {L d : Nat} {S : Nat → Shp} {I : Nat → Nat → Int32} {J : Nat → Nat → Int64} {R : Nat → Nat → Nat} {c : Nat × Nat} {Q : Option (Option Value) → MH → Prop} {x1 : Int32} (hL : Lay S R)  (k : X xs L d 127 0 [.ref 65, .int x1] [] (S, I, J, R, c) (Kc xs L (d + 1) 129 6 [.ref 65, .int x1] [.ref 65] Q)) : X xs L (d + 1) 129 0 [.ref 65, .int x1] [] (S, I, J, R, c) Q := by
  refine X_aload_n (q := 0) (show decode (mB 129) 0 = .ok (.aload_n 0, 1) by decide +kernel) (pc' := 1) rfl rfl rfl ?_
  refine X_aload_n (q := 0) (show decode (mB 129) 1 = .ok (.aload_n 0, 1) by decide +kernel) (pc' := 2) rfl rfl rfl ?_
  refine X_iload_n (q := 1) (show decode (mB 129) 2 = .ok (.iload_n 1, 1) by decide +kernel) (pc' := 3) rfl rfl rfl ?_
  exact X_callV (y := 127) (n := 1) (st := [.int x1, .ref 65, .ref 65]) (as := [.ref 65, .int x1]) (rest := [.ref 65]) (ls0 := [.ref 65, .int x1]) (ci := 13) (show decode (mB 129) 3 = .ok (.invokevirtual 131, 3) by decide +kernel) (pc' := 6) rfl (by decide +kernel) (by decide +kernel) rfl (ls_65 hL) (by decide +kernel) rfl rfl rfl rfl rfl k
set_option maxRecDepth 4000 in
theorem b_X14_take_6 {xs : Nat → Int32} {L d : Nat} {S : Nat → Shp} {I : Nat → Nat → Int32} {J : Nat → Nat → Int64} {R : Nat → Nat → Nat} {c : Nat × Nat} {Q : Option (Option Value) → MH → Prop} {x1 sx1 : Int32} (hL : Lay S R)  (k : X xs L d 128 0 [.ref 65, .int sx1] [] (S, I, J, R, c) (Kt xs L (d + 1) 129 9 [.ref 65, .int x1] [] Q)) : X xs L (d + 1) 129 6 [.ref 65, .int x1] [.int sx1, .ref 65] (S, I, J, R, c) Q := by
  exact X_callT (y := 128) (n := 1) (st := [.int sx1, .ref 65]) (as := [.ref 65, .int sx1]) (rest := []) (ls0 := [.ref 65, .int sx1]) (ci := 13) (show decode (mB 129) 6 = .ok (.invokevirtual 134, 3) by decide +kernel) (pc' := 9) rfl (by decide +kernel) (by decide +kernel) rfl (ls_65 hL) (by decide +kernel) rfl rfl rfl rfl rfl (by decide +kernel) (by decide +kernel) k
set_option maxRecDepth 4000 in
theorem b_X14_take_9 {xs : Nat → Int32} {L d : Nat} {S : Nat → Shp} {I : Nat → Nat → Int32} {J : Nat → Nat → Int64} {R : Nat → Nat → Nat} {c : Nat × Nat} {Q : Option (Option Value) → MH → Prop} {x1 : Int32} (hL : Lay S R)  (k : Q (some none) (S, (u2 I 65 7 ((I 65 7) + 1)), J, R, c)) : X xs L (d + 1) 129 9 [.ref 65, .int x1] [] (S, I, J, R, c) Q := by
  refine X_aload_n (q := 0) (show decode (mB 129) 9 = .ok (.aload_n 0, 1) by decide +kernel) (pc' := 10) rfl rfl rfl ?_
  refine X_dup (show decode (mB 129) 10 = .ok (.dup, 1) by decide +kernel) (pc' := 11) rfl rfl ?_
  refine X_getI (ci := 13) (f := 7) (x := I 65 7) (show decode (mB 129) 11 = .ok (.getfield 122, 3) by decide +kernel) (pc' := 14) rfl (ls_65 hL) (by decide +kernel) rfl rfl ?_
  refine X_iconst (v := 1) (show decode (mB 129) 14 = .ok (.iconst 1, 1) by decide +kernel) (pc' := 15) rfl rfl ?_
  refine X_iadd (show decode (mB 129) 15 = .ok (.iadd, 1) by decide +kernel) (pc' := 16) rfl ?_
  refine X_putI (ci := 13) (f := 7) (show decode (mB 129) 16 = .ok (.putfield 122, 3) by decide +kernel) (pc' := 19) rfl (ls_65 hL) (by decide +kernel) (by decide +kernel) rfl ?_
  exact X_return (show decode (mB 129) 19 = .ok (.return_, 1) by decide +kernel) (by decide +kernel) k
set_option maxRecDepth 4000 in
theorem b_X14_tree_0 {xs : Nat → Int32} {L d : Nat} {S : Nat → Shp} {I : Nat → Nat → Int32} {J : Nat → Nat → Int64} {R : Nat → Nat → Nat} {c : Nat × Nat} {Q : Option (Option Value) → MH → Prop} {x1 x2 x3 : Int32} {q_65_17 : Nat} (hL : Lay S R) (hq_65_17 : R 65 17 = q_65_17) (h_q_65_17 : LyTr S R q_65_17) (hb19 : inb (I q_65_17 5) 2000 = true) (hb30 : inb (I q_65_17 5) 2000 = true) (hb41 : inb (I q_65_17 5) 2000 = true) (k : Q (some (some (.int (I q_65_17 5)))) (S, (u2 (u2 (u2 (u2 I (q_65_17 + 1) ((I q_65_17 5).toNatClampNeg) x1) (q_65_17 + 2) ((I q_65_17 5).toNatClampNeg) x2) (q_65_17 + 3) ((I q_65_17 5).toNatClampNeg) x3) q_65_17 5 ((I q_65_17 5) + 1)), J, R, c)) : X xs L d 130 0 [.ref 65, .int x1, .int x2, .int x3, .null] [] (S, I, J, R, c) Q := by
  refine X_aload_n (q := 0) (show decode (mB 130) 0 = .ok (.aload_n 0, 1) by decide +kernel) (pc' := 1) rfl rfl rfl ?_
  refine X_getR (ci := 13) (f := 17) (q := q_65_17) (show decode (mB 130) 1 = .ok (.getfield 138, 3) by decide +kernel) (pc' := 4) rfl (ls_65 hL) (by decide +kernel) rfl hq_65_17 ?_
  refine X_getI (ci := 12) (f := 5) (x := I q_65_17 5) (show decode (mB 130) 4 = .ok (.getfield 141, 3) by decide +kernel) (pc' := 7) rfl h_q_65_17.s0 (by decide +kernel) rfl rfl ?_
  refine X_istore (q := 4) (ls' := [.ref 65, .int x1, .int x2, .int x3, .int (I q_65_17 5)]) (show decode (mB 130) 7 = .ok (.istore 4, 2) by decide +kernel) (pc' := 9) rfl rfl ?_
  refine X_aload_n (q := 0) (show decode (mB 130) 9 = .ok (.aload_n 0, 1) by decide +kernel) (pc' := 10) rfl rfl rfl ?_
  refine X_getR (ci := 13) (f := 17) (q := q_65_17) (show decode (mB 130) 10 = .ok (.getfield 138, 3) by decide +kernel) (pc' := 13) rfl (ls_65 hL) (by decide +kernel) rfl hq_65_17 ?_
  refine X_getR (ci := 12) (f := 0) (q := (q_65_17 + 1)) (show decode (mB 130) 13 = .ok (.getfield 144, 3) by decide +kernel) (pc' := 16) rfl h_q_65_17.s0 (by decide +kernel) rfl h_q_65_17.r0_0 ?_
  refine X_iload (q := 4) (show decode (mB 130) 16 = .ok (.iload 4, 2) by decide +kernel) (pc' := 18) rfl rfl ?_
  refine X_iload_n (q := 1) (show decode (mB 130) 18 = .ok (.iload_n 1, 1) by decide +kernel) (pc' := 19) rfl rfl rfl ?_
  refine X_iastore (show decode (mB 130) 19 = .ok (.iastore, 1) by decide +kernel) (pc' := 20) rfl h_q_65_17.s1 hb19 ?_
  refine X_aload_n (q := 0) (show decode (mB 130) 20 = .ok (.aload_n 0, 1) by decide +kernel) (pc' := 21) rfl rfl rfl ?_
  refine X_getR (ci := 13) (f := 17) (q := q_65_17) (show decode (mB 130) 21 = .ok (.getfield 138, 3) by decide +kernel) (pc' := 24) rfl (ls_65 hL) (by decide +kernel) rfl hq_65_17 ?_
  refine X_getR (ci := 12) (f := 1) (q := (q_65_17 + 2)) (show decode (mB 130) 24 = .ok (.getfield 147, 3) by decide +kernel) (pc' := 27) rfl h_q_65_17.s0 (by decide +kernel) rfl h_q_65_17.r0_1 ?_
  refine X_iload (q := 4) (show decode (mB 130) 27 = .ok (.iload 4, 2) by decide +kernel) (pc' := 29) rfl rfl ?_
  refine X_iload_n (q := 2) (show decode (mB 130) 29 = .ok (.iload_n 2, 1) by decide +kernel) (pc' := 30) rfl rfl rfl ?_
  refine X_iastore (show decode (mB 130) 30 = .ok (.iastore, 1) by decide +kernel) (pc' := 31) rfl h_q_65_17.s2 hb30 ?_
  refine X_aload_n (q := 0) (show decode (mB 130) 31 = .ok (.aload_n 0, 1) by decide +kernel) (pc' := 32) rfl rfl rfl ?_
  refine X_getR (ci := 13) (f := 17) (q := q_65_17) (show decode (mB 130) 32 = .ok (.getfield 138, 3) by decide +kernel) (pc' := 35) rfl (ls_65 hL) (by decide +kernel) rfl hq_65_17 ?_
  refine X_getR (ci := 12) (f := 2) (q := (q_65_17 + 3)) (show decode (mB 130) 35 = .ok (.getfield 150, 3) by decide +kernel) (pc' := 38) rfl h_q_65_17.s0 (by decide +kernel) rfl h_q_65_17.r0_2 ?_
  refine X_iload (q := 4) (show decode (mB 130) 38 = .ok (.iload 4, 2) by decide +kernel) (pc' := 40) rfl rfl ?_
  refine X_iload_n (q := 3) (show decode (mB 130) 40 = .ok (.iload_n 3, 1) by decide +kernel) (pc' := 41) rfl rfl rfl ?_
  refine X_iastore (show decode (mB 130) 41 = .ok (.iastore, 1) by decide +kernel) (pc' := 42) rfl h_q_65_17.s3 hb41 ?_
  refine X_aload_n (q := 0) (show decode (mB 130) 42 = .ok (.aload_n 0, 1) by decide +kernel) (pc' := 43) rfl rfl rfl ?_
  refine X_getR (ci := 13) (f := 17) (q := q_65_17) (show decode (mB 130) 43 = .ok (.getfield 138, 3) by decide +kernel) (pc' := 46) rfl (ls_65 hL) (by decide +kernel) rfl hq_65_17 ?_
  refine X_dup (show decode (mB 130) 46 = .ok (.dup, 1) by decide +kernel) (pc' := 47) rfl rfl ?_
  refine X_getI (ci := 12) (f := 5) (x := I q_65_17 5) (show decode (mB 130) 47 = .ok (.getfield 141, 3) by decide +kernel) (pc' := 50) rfl h_q_65_17.s0 (by decide +kernel) rfl (by simp [u2, u1]) ?_
  refine X_iconst (v := 1) (show decode (mB 130) 50 = .ok (.iconst 1, 1) by decide +kernel) (pc' := 51) rfl rfl ?_
  refine X_iadd (show decode (mB 130) 51 = .ok (.iadd, 1) by decide +kernel) (pc' := 52) rfl ?_
  refine X_putI (ci := 12) (f := 5) (show decode (mB 130) 52 = .ok (.putfield 141, 3) by decide +kernel) (pc' := 55) rfl h_q_65_17.s0 (by decide +kernel) (by decide +kernel) rfl ?_
  refine X_iload (q := 4) (show decode (mB 130) 55 = .ok (.iload 4, 2) by decide +kernel) (pc' := 57) rfl rfl ?_
  exact X_ireturn (ty := .int) (show decode (mB 130) 57 = .ok (.ireturn, 1) by decide +kernel) (by decide +kernel) rfl k
set_option maxRecDepth 4000 in
theorem b_X14_ors_0 {xs : Nat → Int32} {L d : Nat} {S : Nat → Shp} {I : Nat → Nat → Int32} {J : Nat → Nat → Int64} {R : Nat → Nat → Nat} {c : Nat × Nat} {Q : Option (Option Value) → MH → Prop} {x1 : Int32} (hL : Lay S R)  (k : X xs L d 132 0 [.ref 65, .int x1, .null] [] (S, I, J, R, c) (Kt xs L (d + 1) 131 5 [.ref 65, .int x1, .null] [] Q)) : X xs L (d + 1) 131 0 [.ref 65, .int x1, .null] [] (S, I, J, R, c) Q := by
  refine X_aload_n (q := 0) (show decode (mB 131) 0 = .ok (.aload_n 0, 1) by decide +kernel) (pc' := 1) rfl rfl rfl ?_
  refine X_iload_n (q := 1) (show decode (mB 131) 1 = .ok (.iload_n 1, 1) by decide +kernel) (pc' := 2) rfl rfl rfl ?_
  exact X_callT (y := 132) (n := 1) (st := [.int x1, .ref 65]) (as := [.ref 65, .int x1]) (rest := []) (ls0 := [.ref 65, .int x1, .null]) (ci := 13) (show decode (mB 131) 2 = .ok (.invokevirtual 153, 3) by decide +kernel) (pc' := 5) rfl (by decide +kernel) (by decide +kernel) rfl (ls_65 hL) (by decide +kernel) rfl rfl rfl rfl rfl (by decide +kernel) (by decide +kernel) k
set_option maxRecDepth 4000 in
theorem b_X14_ors_5 {xs : Nat → Int32} {L d : Nat} {S : Nat → Shp} {I : Nat → Nat → Int32} {J : Nat → Nat → Int64} {R : Nat → Nat → Nat} {c : Nat × Nat} {Q : Option (Option Value) → MH → Prop} {x1 sx0 : Int32}  (k : X xs L (d + 1) 131 6 [.ref 65, .int x1, .int sx0] [] (S, I, J, R, c) Q) : X xs L (d + 1) 131 5 [.ref 65, .int x1, .null] [.int sx0] (S, I, J, R, c) Q := by
  refine X_istore_n (q := 2) (ls' := [.ref 65, .int x1, .int sx0]) (show decode (mB 131) 5 = .ok (.istore_n 2, 1) by decide +kernel) (pc' := 6) rfl rfl rfl ?_
  exact k
set_option maxRecDepth 4000 in
theorem b_X14_ors_6 {xs : Nat → Int32} {L d : Nat} {S : Nat → Shp} {I : Nat → Nat → Int32} {J : Nat → Nat → Int64} {R : Nat → Nat → Nat} {c : Nat × Nat} {Q : Option (Option Value) → MH → Prop} {x1 x2 : Int32} (hL : Lay S R)  (k : X xs L d 127 0 [.ref 65, .int 124] [] (S, I, J, R, c) (Kc xs L (d + 1) 131 12 [.ref 65, .int x1, .int x2] [] Q)) : X xs L (d + 1) 131 6 [.ref 65, .int x1, .int x2] [] (S, I, J, R, c) Q := by
  refine X_aload_n (q := 0) (show decode (mB 131) 6 = .ok (.aload_n 0, 1) by decide +kernel) (pc' := 7) rfl rfl rfl ?_
  refine X_bipush (v := 124) (show decode (mB 131) 7 = .ok (.bipush 124, 2) by decide +kernel) (pc' := 9) rfl (by decide +kernel) ?_
  exact X_callV (y := 127) (n := 1) (st := [.int 124, .ref 65]) (as := [.ref 65, .int 124]) (rest := []) (ls0 := [.ref 65, .int 124]) (ci := 13) (show decode (mB 131) 9 = .ok (.invokevirtual 131, 3) by decide +kernel) (pc' := 12) rfl (by decide +kernel) (by decide +kernel) rfl (ls_65 hL) (by decide +kernel) rfl rfl rfl rfl rfl k
set_option maxRecDepth 4000 in
theorem b_X14_ors_12 {xs : Nat → Int32} {L d : Nat} {S : Nat → Shp} {I : Nat → Nat → Int32} {J : Nat → Nat → Int64} {R : Nat → Nat → Nat} {c : Nat × Nat} {Q : Option (Option Value) → MH → Prop} {x1 x2 sx0 : Int32}  (kt : sx0 = 0 → X xs L (d + 1) 131 41 [.ref 65, .int x1, .int x2] [] (S, I, J, R, c) Q) (kf : ¬ (sx0 = 0) → X xs L (d + 1) 131 15 [.ref 65, .int x1, .int x2] [] (S, I, J, R, c) Q) : X xs L (d + 1) 131 12 [.ref 65, .int x1, .int x2] [.int sx0] (S, I, J, R, c) Q := by
  exact X_if_eq (tgt := 41) (show decode (mB 131) 12 = .ok (.ifCond .eq 29, 3) by decide +kernel) rfl (pc' := 15) rfl kt kf
set_option maxRecDepth 4000 in
theorem b_X14_ors_15 {xs : Nat → Int32} {L d : Nat} {S : Nat → Shp} {I : Nat → Nat → Int32} {J : Nat → Nat → Int64} {R : Nat → Nat → Nat} {c : Nat × Nat} {Q : Option (Option Value) → MH → Prop} {x1 x2 : Int32} (hL : Lay S R)  (k : X xs L d 132 0 [.ref 65, .int x1, .null] [] (S, (u2 I 65 7 ((I 65 7) + 1)), J, R, c) (Kt xs L (d + 1) 131 34 [.ref 65, .int x1, .int x2] [.int x2, .int 124, .ref 65] Q)) : X xs L (d + 1) 131 15 [.ref 65, .int x1, .int x2] [] (S, I, J, R, c) Q := by
  refine X_aload_n (q := 0) (show decode (mB 131) 15 = .ok (.aload_n 0, 1) by decide +kernel) (pc' := 16) rfl rfl rfl ?_
  refine X_dup (show decode (mB 131) 16 = .ok (.dup, 1) by decide +kernel) (pc' := 17) rfl rfl ?_
  refine X_getI (ci := 13) (f := 7) (x := I 65 7) (show decode (mB 131) 17 = .ok (.getfield 122, 3) by decide +kernel) (pc' := 20) rfl (ls_65 hL) (by decide +kernel) rfl rfl ?_
  refine X_iconst (v := 1) (show decode (mB 131) 20 = .ok (.iconst 1, 1) by decide +kernel) (pc' := 21) rfl rfl ?_
  refine X_iadd (show decode (mB 131) 21 = .ok (.iadd, 1) by decide +kernel) (pc' := 22) rfl ?_
  refine X_putI (ci := 13) (f := 7) (show decode (mB 131) 22 = .ok (.putfield 122, 3) by decide +kernel) (pc' := 25) rfl (ls_65 hL) (by decide +kernel) (by decide +kernel) rfl ?_
  refine X_aload_n (q := 0) (show decode (mB 131) 25 = .ok (.aload_n 0, 1) by decide +kernel) (pc' := 26) rfl rfl rfl ?_
  refine X_bipush (v := 124) (show decode (mB 131) 26 = .ok (.bipush 124, 2) by decide +kernel) (pc' := 28) rfl (by decide +kernel) ?_
  refine X_iload_n (q := 2) (show decode (mB 131) 28 = .ok (.iload_n 2, 1) by decide +kernel) (pc' := 29) rfl rfl rfl ?_
  refine X_aload_n (q := 0) (show decode (mB 131) 29 = .ok (.aload_n 0, 1) by decide +kernel) (pc' := 30) rfl rfl rfl ?_
  refine X_iload_n (q := 1) (show decode (mB 131) 30 = .ok (.iload_n 1, 1) by decide +kernel) (pc' := 31) rfl rfl rfl ?_
  exact X_callT (y := 132) (n := 1) (st := [.int x1, .ref 65, .int x2, .int 124, .ref 65]) (as := [.ref 65, .int x1]) (rest := [.int x2, .int 124, .ref 65]) (ls0 := [.ref 65, .int x1, .null]) (ci := 13) (show decode (mB 131) 31 = .ok (.invokevirtual 153, 3) by decide +kernel) (pc' := 34) rfl (by decide +kernel) (by decide +kernel) rfl (ls_65 hL) (by decide +kernel) rfl rfl rfl rfl rfl (by decide +kernel) (by decide +kernel) k
set_option maxRecDepth 4000 in
theorem b_X14_ors_34 {xs : Nat → Int32} {L d : Nat} {S : Nat → Shp} {I : Nat → Nat → Int32} {J : Nat → Nat → Int64} {R : Nat → Nat → Nat} {c : Nat × Nat} {Q : Option (Option Value) → MH → Prop} {x1 x2 sx1 sx2 sx3 : Int32} (hL : Lay S R)  (k : X xs L d 130 0 [.ref 65, .int sx1, .int sx2, .int sx3, .null] [] (S, I, J, R, c) (Kc xs L (d + 1) 131 37 [.ref 65, .int x1, .int x2] [] Q)) : X xs L (d + 1) 131 34 [.ref 65, .int x1, .int x2] [.int sx3, .int sx2, .int sx1, .ref 65] (S, I, J, R, c) Q := by
  exact X_callV (y := 130) (n := 3) (st := [.int sx3, .int sx2, .int sx1, .ref 65]) (as := [.ref 65, .int sx1, .int sx2, .int sx3]) (rest := []) (ls0 := [.ref 65, .int sx1, .int sx2, .int sx3, .null]) (ci := 13) (show decode (mB 131) 34 = .ok (.invokevirtual 156, 3) by decide +kernel) (pc' := 37) rfl (by decide +kernel) (by decide +kernel) rfl (ls_65 hL) (by decide +kernel) rfl rfl rfl rfl rfl k
set_option maxRecDepth 4000 in
theorem b_X14_ors_37 {xs : Nat → Int32} {L d : Nat} {S : Nat → Shp} {I : Nat → Nat → Int32} {J : Nat → Nat → Int64} {R : Nat → Nat → Nat} {c : Nat × Nat} {Q : Option (Option Value) → MH → Prop} {x1 x2 sx0 : Int32}  (k : X xs L (d + 1) 131 6 [.ref 65, .int x1, .int sx0] [] (S, I, J, R, c) Q) : X xs L (d + 1) 131 37 [.ref 65, .int x1, .int x2] [.int sx0] (S, I, J, R, c) Q := by
  refine X_istore_n (q := 2) (ls' := [.ref 65, .int x1, .int sx0]) (show decode (mB 131) 37 = .ok (.istore_n 2, 1) by decide +kernel) (pc' := 38) rfl rfl rfl ?_
  refine X_goto (tgt := 6) (show decode (mB 131) 38 = .ok (.goto (-32), 3) by decide +kernel) rfl ?_
  exact k
set_option maxRecDepth 4000 in
theorem b_X14_ors_41 {xs : Nat → Int32} {L d : Nat} {S : Nat → Shp} {I : Nat → Nat → Int32} {J : Nat → Nat → Int64} {R : Nat → Nat → Nat} {c : Nat × Nat} {Q : Option (Option Value) → MH → Prop} {x1 x2 : Int32}  (k : Q (some (some (.int x2))) (S, I, J, R, c)) : X xs L (d + 1) 131 41 [.ref 65, .int x1, .int x2] [] (S, I, J, R, c) Q := by
  refine X_iload_n (q := 2) (show decode (mB 131) 41 = .ok (.iload_n 2, 1) by decide +kernel) (pc' := 42) rfl rfl rfl ?_
  exact X_ireturn (ty := .int) (show decode (mB 131) 42 = .ok (.ireturn, 1) by decide +kernel) (by decide +kernel) rfl k
set_option maxRecDepth 4000 in
theorem b_X14_xors_0 {xs : Nat → Int32} {L d : Nat} {S : Nat → Shp} {I : Nat → Nat → Int32} {J : Nat → Nat → Int64} {R : Nat → Nat → Nat} {c : Nat × Nat} {Q : Option (Option Value) → MH → Prop} {x1 : Int32} (hL : Lay S R)  (k : X xs L d 133 0 [.ref 65, .int x1, .null] [] (S, I, J, R, c) (Kt xs L (d + 1) 132 5 [.ref 65, .int x1, .null] [] Q)) : X xs L (d + 1) 132 0 [.ref 65, .int x1, .null] [] (S, I, J, R, c) Q := by
  refine X_aload_n (q := 0) (show decode (mB 132) 0 = .ok (.aload_n 0, 1) by decide +kernel) (pc' := 1) rfl rfl rfl ?_
  refine X_iload_n (q := 1) (show decode (mB 132) 1 = .ok (.iload_n 1, 1) by decide +kernel) (pc' := 2) rfl rfl rfl ?_
  exact X_callT (y := 133) (n := 1) (st := [.int x1, .ref 65]) (as := [.ref 65, .int x1]) (rest := []) (ls0 := [.ref 65, .int x1, .null]) (ci := 13) (show decode (mB 132) 2 = .ok (.invokevirtual 160, 3) by decide +kernel) (pc' := 5) rfl (by decide +kernel) (by decide +kernel) rfl (ls_65 hL) (by decide +kernel) rfl rfl rfl rfl rfl (by decide +kernel) (by decide +kernel) k
set_option maxRecDepth 4000 in
theorem b_X14_xors_5 {xs : Nat → Int32} {L d : Nat} {S : Nat → Shp} {I : Nat → Nat → Int32} {J : Nat → Nat → Int64} {R : Nat → Nat → Nat} {c : Nat × Nat} {Q : Option (Option Value) → MH → Prop} {x1 sx0 : Int32}  (k : X xs L (d + 1) 132 6 [.ref 65, .int x1, .int sx0] [] (S, I, J, R, c) Q) : X xs L (d + 1) 132 5 [.ref 65, .int x1, .null] [.int sx0] (S, I, J, R, c) Q := by
  refine X_istore_n (q := 2) (ls' := [.ref 65, .int x1, .int sx0]) (show decode (mB 132) 5 = .ok (.istore_n 2, 1) by decide +kernel) (pc' := 6) rfl rfl rfl ?_
  exact k
set_option maxRecDepth 4000 in
theorem b_X14_xors_6 {xs : Nat → Int32} {L d : Nat} {S : Nat → Shp} {I : Nat → Nat → Int32} {J : Nat → Nat → Int64} {R : Nat → Nat → Nat} {c : Nat × Nat} {Q : Option (Option Value) → MH → Prop} {x1 x2 : Int32} (hL : Lay S R)  (k : X xs L d 127 0 [.ref 65, .int 94] [] (S, I, J, R, c) (Kc xs L (d + 1) 132 12 [.ref 65, .int x1, .int x2] [] Q)) : X xs L (d + 1) 132 6 [.ref 65, .int x1, .int x2] [] (S, I, J, R, c) Q := by
  refine X_aload_n (q := 0) (show decode (mB 132) 6 = .ok (.aload_n 0, 1) by decide +kernel) (pc' := 7) rfl rfl rfl ?_
  refine X_bipush (v := 94) (show decode (mB 132) 7 = .ok (.bipush 94, 2) by decide +kernel) (pc' := 9) rfl (by decide +kernel) ?_
  exact X_callV (y := 127) (n := 1) (st := [.int 94, .ref 65]) (as := [.ref 65, .int 94]) (rest := []) (ls0 := [.ref 65, .int 94]) (ci := 13) (show decode (mB 132) 9 = .ok (.invokevirtual 131, 3) by decide +kernel) (pc' := 12) rfl (by decide +kernel) (by decide +kernel) rfl (ls_65 hL) (by decide +kernel) rfl rfl rfl rfl rfl k
set_option maxRecDepth 4000 in
theorem b_X14_xors_12 {xs : Nat → Int32} {L d : Nat} {S : Nat → Shp} {I : Nat → Nat → Int32} {J : Nat → Nat → Int64} {R : Nat → Nat → Nat} {c : Nat × Nat} {Q : Option (Option Value) → MH → Prop} {x1 x2 sx0 : Int32}  (kt : sx0 = 0 → X xs L (d + 1) 132 41 [.ref 65, .int x1, .int x2] [] (S, I, J, R, c) Q) (kf : ¬ (sx0 = 0) → X xs L (d + 1) 132 15 [.ref 65, .int x1, .int x2] [] (S, I, J, R, c) Q) : X xs L (d + 1) 132 12 [.ref 65, .int x1, .int x2] [.int sx0] (S, I, J, R, c) Q := by
  exact X_if_eq (tgt := 41) (show decode (mB 132) 12 = .ok (.ifCond .eq 29, 3) by decide +kernel) rfl (pc' := 15) rfl kt kf
set_option maxRecDepth 4000 in
theorem b_X14_xors_15 {xs : Nat → Int32} {L d : Nat} {S : Nat → Shp} {I : Nat → Nat → Int32} {J : Nat → Nat → Int64} {R : Nat → Nat → Nat} {c : Nat × Nat} {Q : Option (Option Value) → MH → Prop} {x1 x2 : Int32} (hL : Lay S R)  (k : X xs L d 133 0 [.ref 65, .int x1, .null] [] (S, (u2 I 65 7 ((I 65 7) + 1)), J, R, c) (Kt xs L (d + 1) 132 34 [.ref 65, .int x1, .int x2] [.int x2, .int 94, .ref 65] Q)) : X xs L (d + 1) 132 15 [.ref 65, .int x1, .int x2] [] (S, I, J, R, c) Q := by
  refine X_aload_n (q := 0) (show decode (mB 132) 15 = .ok (.aload_n 0, 1) by decide +kernel) (pc' := 16) rfl rfl rfl ?_
  refine X_dup (show decode (mB 132) 16 = .ok (.dup, 1) by decide +kernel) (pc' := 17) rfl rfl ?_
  refine X_getI (ci := 13) (f := 7) (x := I 65 7) (show decode (mB 132) 17 = .ok (.getfield 122, 3) by decide +kernel) (pc' := 20) rfl (ls_65 hL) (by decide +kernel) rfl rfl ?_
  refine X_iconst (v := 1) (show decode (mB 132) 20 = .ok (.iconst 1, 1) by decide +kernel) (pc' := 21) rfl rfl ?_
  refine X_iadd (show decode (mB 132) 21 = .ok (.iadd, 1) by decide +kernel) (pc' := 22) rfl ?_
  refine X_putI (ci := 13) (f := 7) (show decode (mB 132) 22 = .ok (.putfield 122, 3) by decide +kernel) (pc' := 25) rfl (ls_65 hL) (by decide +kernel) (by decide +kernel) rfl ?_
  refine X_aload_n (q := 0) (show decode (mB 132) 25 = .ok (.aload_n 0, 1) by decide +kernel) (pc' := 26) rfl rfl rfl ?_
  refine X_bipush (v := 94) (show decode (mB 132) 26 = .ok (.bipush 94, 2) by decide +kernel) (pc' := 28) rfl (by decide +kernel) ?_
  refine X_iload_n (q := 2) (show decode (mB 132) 28 = .ok (.iload_n 2, 1) by decide +kernel) (pc' := 29) rfl rfl rfl ?_
  refine X_aload_n (q := 0) (show decode (mB 132) 29 = .ok (.aload_n 0, 1) by decide +kernel) (pc' := 30) rfl rfl rfl ?_
  refine X_iload_n (q := 1) (show decode (mB 132) 30 = .ok (.iload_n 1, 1) by decide +kernel) (pc' := 31) rfl rfl rfl ?_
  exact X_callT (y := 133) (n := 1) (st := [.int x1, .ref 65, .int x2, .int 94, .ref 65]) (as := [.ref 65, .int x1]) (rest := [.int x2, .int 94, .ref 65]) (ls0 := [.ref 65, .int x1, .null]) (ci := 13) (show decode (mB 132) 31 = .ok (.invokevirtual 160, 3) by decide +kernel) (pc' := 34) rfl (by decide +kernel) (by decide +kernel) rfl (ls_65 hL) (by decide +kernel) rfl rfl rfl rfl rfl (by decide +kernel) (by decide +kernel) k
set_option maxRecDepth 4000 in
theorem b_X14_xors_34 {xs : Nat → Int32} {L d : Nat} {S : Nat → Shp} {I : Nat → Nat → Int32} {J : Nat → Nat → Int64} {R : Nat → Nat → Nat} {c : Nat × Nat} {Q : Option (Option Value) → MH → Prop} {x1 x2 sx1 sx2 sx3 : Int32} (hL : Lay S R)  (k : X xs L d 130 0 [.ref 65, .int sx1, .int sx2, .int sx3, .null] [] (S, I, J, R, c) (Kc xs L (d + 1) 132 37 [.ref 65, .int x1, .int x2] [] Q)) : X xs L (d + 1) 132 34 [.ref 65, .int x1, .int x2] [.int sx3, .int sx2, .int sx1, .ref 65] (S, I, J, R, c) Q := by
  exact X_callV (y := 130) (n := 3) (st := [.int sx3, .int sx2, .int sx1, .ref 65]) (as := [.ref 65, .int sx1, .int sx2, .int sx3]) (rest := []) (ls0 := [.ref 65, .int sx1, .int sx2, .int sx3, .null]) (ci := 13) (show decode (mB 132) 34 = .ok (.invokevirtual 156, 3) by decide +kernel) (pc' := 37) rfl (by decide +kernel) (by decide +kernel) rfl (ls_65 hL) (by decide +kernel) rfl rfl rfl rfl rfl k
set_option maxRecDepth 4000 in
theorem b_X14_xors_37 {xs : Nat → Int32} {L d : Nat} {S : Nat → Shp} {I : Nat → Nat → Int32} {J : Nat → Nat → Int64} {R : Nat → Nat → Nat} {c : Nat × Nat} {Q : Option (Option Value) → MH → Prop} {x1 x2 sx0 : Int32}  (k : X xs L (d + 1) 132 6 [.ref 65, .int x1, .int sx0] [] (S, I, J, R, c) Q) : X xs L (d + 1) 132 37 [.ref 65, .int x1, .int x2] [.int sx0] (S, I, J, R, c) Q := by
  refine X_istore_n (q := 2) (ls' := [.ref 65, .int x1, .int sx0]) (show decode (mB 132) 37 = .ok (.istore_n 2, 1) by decide +kernel) (pc' := 38) rfl rfl rfl ?_
  refine X_goto (tgt := 6) (show decode (mB 132) 38 = .ok (.goto (-32), 3) by decide +kernel) rfl ?_
  exact k
set_option maxRecDepth 4000 in
theorem b_X14_xors_41 {xs : Nat → Int32} {L d : Nat} {S : Nat → Shp} {I : Nat → Nat → Int32} {J : Nat → Nat → Int64} {R : Nat → Nat → Nat} {c : Nat × Nat} {Q : Option (Option Value) → MH → Prop} {x1 x2 : Int32}  (k : Q (some (some (.int x2))) (S, I, J, R, c)) : X xs L (d + 1) 132 41 [.ref 65, .int x1, .int x2] [] (S, I, J, R, c) Q := by
  refine X_iload_n (q := 2) (show decode (mB 132) 41 = .ok (.iload_n 2, 1) by decide +kernel) (pc' := 42) rfl rfl rfl ?_
  exact X_ireturn (ty := .int) (show decode (mB 132) 42 = .ok (.ireturn, 1) by decide +kernel) (by decide +kernel) rfl k
set_option maxRecDepth 4000 in
theorem b_X14_ands_0 {xs : Nat → Int32} {L d : Nat} {S : Nat → Shp} {I : Nat → Nat → Int32} {J : Nat → Nat → Int64} {R : Nat → Nat → Nat} {c : Nat × Nat} {Q : Option (Option Value) → MH → Prop} {x1 : Int32} (hL : Lay S R)  (k : X xs L d 134 0 [.ref 65, .int x1] [] (S, I, J, R, c) (Kt xs L (d + 1) 133 5 [.ref 65, .int x1, .null] [] Q)) : X xs L (d + 1) 133 0 [.ref 65, .int x1, .null] [] (S, I, J, R, c) Q := by
  refine X_aload_n (q := 0) (show decode (mB 133) 0 = .ok (.aload_n 0, 1) by decide +kernel) (pc' := 1) rfl rfl rfl ?_
  refine X_iload_n (q := 1) (show decode (mB 133) 1 = .ok (.iload_n 1, 1) by decide +kernel) (pc' := 2) rfl rfl rfl ?_
  exact X_callT (y := 134) (n := 1) (st := [.int x1, .ref 65]) (as := [.ref 65, .int x1]) (rest := []) (ls0 := [.ref 65, .int x1]) (ci := 13) (show decode (mB 133) 2 = .ok (.invokevirtual 163, 3) by decide +kernel) (pc' := 5) rfl (by decide +kernel) (by decide +kernel) rfl (ls_65 hL) (by decide +kernel) rfl rfl rfl rfl rfl (by decide +kernel) (by decide +kernel) k
set_option maxRecDepth 4000 in
theorem b_X14_ands_5 {xs : Nat → Int32} {L d : Nat} {S : Nat → Shp} {I : Nat → Nat → Int32} {J : Nat → Nat → Int64} {R : Nat → Nat → Nat} {c : Nat × Nat} {Q : Option (Option Value) → MH → Prop} {x1 sx0 : Int32}  (k : X xs L (d + 1) 133 6 [.ref 65, .int x1, .int sx0] [] (S, I, J, R, c) Q) : X xs L (d + 1) 133 5 [.ref 65, .int x1, .null] [.int sx0] (S, I, J, R, c) Q := by
  refine X_istore_n (q := 2) (ls' := [.ref 65, .int x1, .int sx0]) (show decode (mB 133) 5 = .ok (.istore_n 2, 1) by decide +kernel) (pc' := 6) rfl rfl rfl ?_
  exact k
set_option maxRecDepth 4000 in
theorem b_X14_ands_6 {xs : Nat → Int32} {L d : Nat} {S : Nat → Shp} {I : Nat → Nat → Int32} {J : Nat → Nat → Int64} {R : Nat → Nat → Nat} {c : Nat × Nat} {Q : Option (Option Value) → MH → Prop} {x1 x2 : Int32} (hL : Lay S R)  (k : X xs L d 127 0 [.ref 65, .int 38] [] (S, I, J, R, c) (Kc xs L (d + 1) 133 12 [.ref 65, .int x1, .int x2] [] Q)) : X xs L (d + 1) 133 6 [.ref 65, .int x1, .int x2] [] (S, I, J, R, c) Q := by
  refine X_aload_n (q := 0) (show decode (mB 133) 6 = .ok (.aload_n 0, 1) by decide +kernel) (pc' := 7) rfl rfl rfl ?_
  refine X_bipush (v := 38) (show decode (mB 133) 7 = .ok (.bipush 38, 2) by decide +kernel) (pc' := 9) rfl (by decide +kernel) ?_
  exact X_callV (y := 127) (n := 1) (st := [.int 38, .ref 65]) (as := [.ref 65, .int 38]) (rest := []) (ls0 := [.ref 65, .int 38]) (ci := 13) (show decode (mB 133) 9 = .ok (.invokevirtual 131, 3) by decide +kernel) (pc' := 12) rfl (by decide +kernel) (by decide +kernel) rfl (ls_65 hL) (by decide +kernel) rfl rfl rfl rfl rfl k
set_option maxRecDepth 4000 in
theorem b_X14_ands_12 {xs : Nat → Int32} {L d : Nat} {S : Nat → Shp} {I : Nat → Nat → Int32} {J : Nat → Nat → Int64} {R : Nat → Nat → Nat} {c : Nat × Nat} {Q : Option (Option Value) → MH → Prop} {x1 x2 sx0 : Int32}  (kt : sx0 = 0 → X xs L (d + 1) 133 41 [.ref 65, .int x1, .int x2] [] (S, I, J, R, c) Q) (kf : ¬ (sx0 = 0) → X xs L (d + 1) 133 15 [.ref 65, .int x1, .int x2] [] (S, I, J, R, c) Q) : X xs L (d + 1) 133 12 [.ref 65, .int x1, .int x2] [.int sx0] (S, I, J, R, c) Q := by
  exact X_if_eq (tgt := 41) (show decode (mB 133) 12 = .ok (.ifCond .eq 29, 3) by decide +kernel) rfl (pc' := 15) rfl kt kf
set_option maxRecDepth 4000 in
theorem b_X14_ands_15 {xs : Nat → Int32} {L d : Nat} {S : Nat → Shp} {I : Nat → Nat → Int32} {J : Nat → Nat → Int64} {R : Nat → Nat → Nat} {c : Nat × Nat} {Q : Option (Option Value) → MH → Prop} {x1 x2 : Int32} (hL : Lay S R)  (k : X xs L d 134 0 [.ref 65, .int x1] [] (S, (u2 I 65 7 ((I 65 7) + 1)), J, R, c) (Kt xs L (d + 1) 133 34 [.ref 65, .int x1, .int x2] [.int x2, .int 38, .ref 65] Q)) : X xs L (d + 1) 133 15 [.ref 65, .int x1, .int x2] [] (S, I, J, R, c) Q := by
  refine X_aload_n (q := 0) (show decode (mB 133) 15 = .ok (.aload_n 0, 1) by decide +kernel) (pc' := 16) rfl rfl rfl ?_
  refine X_dup (show decode (mB 133) 16 = .ok (.dup, 1) by decide +kernel) (pc' := 17) rfl rfl ?_
  refine X_getI (ci := 13) (f := 7) (x := I 65 7) (show decode (mB 133) 17 = .ok (.getfield 122, 3) by decide +kernel) (pc' := 20) rfl (ls_65 hL) (by decide +kernel) rfl rfl ?_
  refine X_iconst (v := 1) (show decode (mB 133) 20 = .ok (.iconst 1, 1) by decide +kernel) (pc' := 21) rfl rfl ?_
  refine X_iadd (show decode (mB 133) 21 = .ok (.iadd, 1) by decide +kernel) (pc' := 22) rfl ?_
  refine X_putI (ci := 13) (f := 7) (show decode (mB 133) 22 = .ok (.putfield 122, 3) by decide +kernel) (pc' := 25) rfl (ls_65 hL) (by decide +kernel) (by decide +kernel) rfl ?_
  refine X_aload_n (q := 0) (show decode (mB 133) 25 = .ok (.aload_n 0, 1) by decide +kernel) (pc' := 26) rfl rfl rfl ?_
  refine X_bipush (v := 38) (show decode (mB 133) 26 = .ok (.bipush 38, 2) by decide +kernel) (pc' := 28) rfl (by decide +kernel) ?_
  refine X_iload_n (q := 2) (show decode (mB 133) 28 = .ok (.iload_n 2, 1) by decide +kernel) (pc' := 29) rfl rfl rfl ?_
  refine X_aload_n (q := 0) (show decode (mB 133) 29 = .ok (.aload_n 0, 1) by decide +kernel) (pc' := 30) rfl rfl rfl ?_
  refine X_iload_n (q := 1) (show decode (mB 133) 30 = .ok (.iload_n 1, 1) by decide +kernel) (pc' := 31) rfl rfl rfl ?_
  exact X_callT (y := 134) (n := 1) (st := [.int x1, .ref 65, .int x2, .int 38, .ref 65]) (as := [.ref 65, .int x1]) (rest := [.int x2, .int 38, .ref 65]) (ls0 := [.ref 65, .int x1]) (ci := 13) (show decode (mB 133) 31 = .ok (.invokevirtual 163, 3) by decide +kernel) (pc' := 34) rfl (by decide +kernel) (by decide +kernel) rfl (ls_65 hL) (by decide +kernel) rfl rfl rfl rfl rfl (by decide +kernel) (by decide +kernel) k
set_option maxRecDepth 4000 in
theorem b_X14_ands_34 {xs : Nat → Int32} {L d : Nat} {S : Nat → Shp} {I : Nat → Nat → Int32} {J : Nat → Nat → Int64} {R : Nat → Nat → Nat} {c : Nat × Nat} {Q : Option (Option Value) → MH → Prop} {x1 x2 sx1 sx2 sx3 : Int32} (hL : Lay S R)  (k : X xs L d 130 0 [.ref 65, .int sx1, .int sx2, .int sx3, .null] [] (S, I, J, R, c) (Kc xs L (d + 1) 133 37 [.ref 65, .int x1, .int x2] [] Q)) : X xs L (d + 1) 133 34 [.ref 65, .int x1, .int x2] [.int sx3, .int sx2, .int sx1, .ref 65] (S, I, J, R, c) Q := by
  exact X_callV (y := 130) (n := 3) (st := [.int sx3, .int sx2, .int sx1, .ref 65]) (as := [.ref 65, .int sx1, .int sx2, .int sx3]) (rest := []) (ls0 := [.ref 65, .int sx1, .int sx2, .int sx3, .null]) (ci := 13) (show decode (mB 133) 34 = .ok (.invokevirtual 156, 3) by decide +kernel) (pc' := 37) rfl (by decide +kernel) (by decide +kernel) rfl (ls_65 hL) (by decide +kernel) rfl rfl rfl rfl rfl k
set_option maxRecDepth 4000 in
theorem b_X14_ands_37 {xs : Nat → Int32} {L d : Nat} {S : Nat → Shp} {I : Nat → Nat → Int32} {J : Nat → Nat → Int64} {R : Nat → Nat → Nat} {c : Nat × Nat} {Q : Option (Option Value) → MH → Prop} {x1 x2 sx0 : Int32}  (k : X xs L (d + 1) 133 6 [.ref 65, .int x1, .int sx0] [] (S, I, J, R, c) Q) : X xs L (d + 1) 133 37 [.ref 65, .int x1, .int x2] [.int sx0] (S, I, J, R, c) Q := by
  refine X_istore_n (q := 2) (ls' := [.ref 65, .int x1, .int sx0]) (show decode (mB 133) 37 = .ok (.istore_n 2, 1) by decide +kernel) (pc' := 38) rfl rfl rfl ?_
  refine X_goto (tgt := 6) (show decode (mB 133) 38 = .ok (.goto (-32), 3) by decide +kernel) rfl ?_
  exact k
set_option maxRecDepth 4000 in
theorem b_X14_ands_41 {xs : Nat → Int32} {L d : Nat} {S : Nat → Shp} {I : Nat → Nat → Int32} {J : Nat → Nat → Int64} {R : Nat → Nat → Nat} {c : Nat × Nat} {Q : Option (Option Value) → MH → Prop} {x1 x2 : Int32}  (k : Q (some (some (.int x2))) (S, I, J, R, c)) : X xs L (d + 1) 133 41 [.ref 65, .int x1, .int x2] [] (S, I, J, R, c) Q := by
  refine X_iload_n (q := 2) (show decode (mB 133) 41 = .ok (.iload_n 2, 1) by decide +kernel) (pc' := 42) rfl rfl rfl ?_
  exact X_ireturn (ty := .int) (show decode (mB 133) 42 = .ok (.ireturn, 1) by decide +kernel) (by decide +kernel) rfl k
set_option maxRecDepth 4000 in
theorem b_X14_not_0 {xs : Nat → Int32} {L d : Nat} {S : Nat → Shp} {I : Nat → Nat → Int32} {J : Nat → Nat → Int64} {R : Nat → Nat → Nat} {c : Nat × Nat} {Q : Option (Option Value) → MH → Prop} {x1 : Int32} (hL : Lay S R)  (k : X xs L d 127 0 [.ref 65, .int 33] [] (S, I, J, R, c) (Kc xs L (d + 1) 134 6 [.ref 65, .int x1] [] Q)) : X xs L (d + 1) 134 0 [.ref 65, .int x1] [] (S, I, J, R, c) Q := by
  refine X_aload_n (q := 0) (show decode (mB 134) 0 = .ok (.aload_n 0, 1) by decide +kernel) (pc' := 1) rfl rfl rfl ?_
  refine X_bipush (v := 33) (show decode (mB 134) 1 = .ok (.bipush 33, 2) by decide +kernel) (pc' := 3) rfl (by decide +kernel) ?_
  exact X_callV (y := 127) (n := 1) (st := [.int 33, .ref 65]) (as := [.ref 65, .int 33]) (rest := []) (ls0 := [.ref 65, .int 33]) (ci := 13) (show decode (mB 134) 3 = .ok (.invokevirtual 131, 3) by decide +kernel) (pc' := 6) rfl (by decide +kernel) (by decide +kernel) rfl (ls_65 hL) (by decide +kernel) rfl rfl rfl rfl rfl k
set_option maxRecDepth 4000 in
theorem b_X14_not_6 {xs : Nat → Int32} {L d : Nat} {S : Nat → Shp} {I : Nat → Nat → Int32} {J : Nat → Nat → Int64} {R : Nat → Nat → Nat} {c : Nat × Nat} {Q : Option (Option Value) → MH → Prop} {x1 sx0 : Int32}  (kt : ¬ sx0 = 0 → X xs L (d + 1) 134 15 [.ref 65, .int x1] [] (S, I, J, R, c) Q) (kf : ¬ (¬ sx0 = 0) → X xs L (d + 1) 134 9 [.ref 65, .int x1] [] (S, I, J, R, c) Q) : X xs L (d + 1) 134 6 [.ref 65, .int x1] [.int sx0] (S, I, J, R, c) Q := by
  exact X_if_ne (tgt := 15) (show decode (mB 134) 6 = .ok (.ifCond .ne 9, 3) by decide +kernel) rfl (pc' := 9) rfl kt kf
set_option maxRecDepth 4000 in
theorem b_X14_not_9 {xs : Nat → Int32} {L d : Nat} {S : Nat → Shp} {I : Nat → Nat → Int32} {J : Nat → Nat → Int64} {R : Nat → Nat → Nat} {c : Nat × Nat} {Q : Option (Option Value) → MH → Prop} {x1 : Int32} (hL : Lay S R)  (k : X xs L d 135 0 [.ref 65, .int x1, .null] [] (S, I, J, R, c) (Kt xs L (d + 1) 134 14 [.ref 65, .int x1] [] Q)) : X xs L (d + 1) 134 9 [.ref 65, .int x1] [] (S, I, J, R, c) Q := by
  refine X_aload_n (q := 0) (show decode (mB 134) 9 = .ok (.aload_n 0, 1) by decide +kernel) (pc' := 10) rfl rfl rfl ?_
  refine X_iload_n (q := 1) (show decode (mB 134) 10 = .ok (.iload_n 1, 1) by decide +kernel) (pc' := 11) rfl rfl rfl ?_
  exact X_callT (y := 135) (n := 1) (st := [.int x1, .ref 65]) (as := [.ref 65, .int x1]) (rest := []) (ls0 := [.ref 65, .int x1, .null]) (ci := 13) (show decode (mB 134) 11 = .ok (.invokevirtual 166, 3) by decide +kernel) (pc' := 14) rfl (by decide +kernel) (by decide +kernel) rfl (ls_65 hL) (by decide +kernel) rfl rfl rfl rfl rfl (by decide +kernel) (by decide +kernel) k
set_option maxRecDepth 4000 in
theorem b_X14_not_14 {xs : Nat → Int32} {L d : Nat} {S : Nat → Shp} {I : Nat → Nat → Int32} {J : Nat → Nat → Int64} {R : Nat → Nat → Nat} {c : Nat × Nat} {Q : Option (Option Value) → MH → Prop} {x1 sx0 : Int32}  (k : Q (some (some (.int sx0))) (S, I, J, R, c)) : X xs L (d + 1) 134 14 [.ref 65, .int x1] [.int sx0] (S, I, J, R, c) Q := by
  exact X_ireturn (ty := .int) (show decode (mB 134) 14 = .ok (.ireturn, 1) by decide +kernel) (by decide +kernel) rfl k
set_option maxRecDepth 4000 in
theorem b_X14_not_15 {xs : Nat → Int32} {L d : Nat} {S : Nat → Shp} {I : Nat → Nat → Int32} {J : Nat → Nat → Int64} {R : Nat → Nat → Nat} {c : Nat × Nat} {Q : Option (Option Value) → MH → Prop} {x1 : Int32}  (kt : 10 ≤ x1 → X xs L (d + 1) 134 26 [.ref 65, .int x1] [.ref 65] (S, I, J, R, c) Q) (kf : ¬ (10 ≤ x1) → X xs L (d + 1) 134 22 [.ref 65, .int x1] [.ref 65] (S, I, J, R, c) Q) : X xs L (d + 1) 134 15 [.ref 65, .int x1] [] (S, I, J, R, c) Q := by
  refine X_aload_n (q := 0) (show decode (mB 134) 15 = .ok (.aload_n 0, 1) by decide +kernel) (pc' := 16) rfl rfl rfl ?_
  refine X_iload_n (q := 1) (show decode (mB 134) 16 = .ok (.iload_n 1, 1) by decide +kernel) (pc' := 17) rfl rfl rfl ?_
  refine X_bipush (v := 10) (show decode (mB 134) 17 = .ok (.bipush 10, 2) by decide +kernel) (pc' := 19) rfl (by decide +kernel) ?_
  exact X_icmp_ge (tgt := 26) (show decode (mB 134) 19 = .ok (.if_icmp .ge 7, 3) by decide +kernel) rfl (pc' := 22) rfl kt kf
set_option maxRecDepth 4000 in
theorem b_X14_not_22 {xs : Nat → Int32} {L d : Nat} {S : Nat → Shp} {I : Nat → Nat → Int32} {J : Nat → Nat → Int64} {R : Nat → Nat → Nat} {c : Nat × Nat} {Q : Option (Option Value) → MH → Prop} {x1 : Int32}  (k : X xs L (d + 1) 134 27 [.ref 65, .int x1] [.int 1, .ref 65] (S, I, J, R, c) Q) : X xs L (d + 1) 134 22 [.ref 65, .int x1] [.ref 65] (S, I, J, R, c) Q := by
  refine X_iconst (v := 1) (show decode (mB 134) 22 = .ok (.iconst 1, 1) by decide +kernel) (pc' := 23) rfl rfl ?_
  refine X_goto (tgt := 27) (show decode (mB 134) 23 = .ok (.goto 4, 3) by decide +kernel) rfl ?_
  exact k
set_option maxRecDepth 4000 in
theorem b_X14_not_26 {xs : Nat → Int32} {L d : Nat} {S : Nat → Shp} {I : Nat → Nat → Int32} {J : Nat → Nat → Int64} {R : Nat → Nat → Nat} {c : Nat × Nat} {Q : Option (Option Value) → MH → Prop} {x1 : Int32}  (k : X xs L (d + 1) 134 27 [.ref 65, .int x1] [.int 0, .ref 65] (S, I, J, R, c) Q) : X xs L (d + 1) 134 26 [.ref 65, .int x1] [.ref 65] (S, I, J, R, c) Q := by
  refine X_iconst (v := 0) (show decode (mB 134) 26 = .ok (.iconst 0, 1) by decide +kernel) (pc' := 27) rfl rfl ?_
  exact k
set_option maxRecDepth 4000 in
theorem b_X14_not_27 {xs : Nat → Int32} {L d : Nat} {S : Nat → Shp} {I : Nat → Nat → Int32} {J : Nat → Nat → Int64} {R : Nat → Nat → Nat} {c : Nat × Nat} {Q : Option (Option Value) → MH → Prop} {x1 sx1 : Int32} (hL : Lay S R)  (k : X xs L d 128 0 [.ref 65, .int sx1] [] (S, I, J, R, c) (Kt xs L (d + 1) 134 30 [.ref 65, .int x1] [] Q)) : X xs L (d + 1) 134 27 [.ref 65, .int x1] [.int sx1, .ref 65] (S, I, J, R, c) Q := by
  exact X_callT (y := 128) (n := 1) (st := [.int sx1, .ref 65]) (as := [.ref 65, .int sx1]) (rest := []) (ls0 := [.ref 65, .int sx1]) (ci := 13) (show decode (mB 134) 27 = .ok (.invokevirtual 134, 3) by decide +kernel) (pc' := 30) rfl (by decide +kernel) (by decide +kernel) rfl (ls_65 hL) (by decide +kernel) rfl rfl rfl rfl rfl (by decide +kernel) (by decide +kernel) k
set_option maxRecDepth 4000 in
theorem b_X14_not_30 {xs : Nat → Int32} {L d : Nat} {S : Nat → Shp} {I : Nat → Nat → Int32} {J : Nat → Nat → Int64} {R : Nat → Nat → Nat} {c : Nat × Nat} {Q : Option (Option Value) → MH → Prop} {x1 : Int32} (hL : Lay S R)  (k : X xs L d 134 0 [.ref 65, .int (x1 + 1)] [] (S, (u2 I 65 7 ((I 65 7) + 1)), J, R, c) (Kt xs L (d + 1) 134 50 [.ref 65, .int x1] [.int 33, .ref 65] Q)) : X xs L (d + 1) 134 30 [.ref 65, .int x1] [] (S, I, J, R, c) Q := by
  refine X_aload_n (q := 0) (show decode (mB 134) 30 = .ok (.aload_n 0, 1) by decide +kernel) (pc' := 31) rfl rfl rfl ?_
  refine X_dup (show decode (mB 134) 31 = .ok (.dup, 1) by decide +kernel) (pc' := 32) rfl rfl ?_
  refine X_getI (ci := 13) (f := 7) (x := I 65 7) (show decode (mB 134) 32 = .ok (.getfield 122, 3) by decide +kernel) (pc' := 35) rfl (ls_65 hL) (by decide +kernel) rfl rfl ?_
  refine X_iconst (v := 1) (show decode (mB 134) 35 = .ok (.iconst 1, 1) by decide +kernel) (pc' := 36) rfl rfl ?_
  refine X_iadd (show decode (mB 134) 36 = .ok (.iadd, 1) by decide +kernel) (pc' := 37) rfl ?_
  refine X_putI (ci := 13) (f := 7) (show decode (mB 134) 37 = .ok (.putfield 122, 3) by decide +kernel) (pc' := 40) rfl (ls_65 hL) (by decide +kernel) (by decide +kernel) rfl ?_
  refine X_aload_n (q := 0) (show decode (mB 134) 40 = .ok (.aload_n 0, 1) by decide +kernel) (pc' := 41) rfl rfl rfl ?_
  refine X_bipush (v := 33) (show decode (mB 134) 41 = .ok (.bipush 33, 2) by decide +kernel) (pc' := 43) rfl (by decide +kernel) ?_
  refine X_aload_n (q := 0) (show decode (mB 134) 43 = .ok (.aload_n 0, 1) by decide +kernel) (pc' := 44) rfl rfl rfl ?_
  refine X_iload_n (q := 1) (show decode (mB 134) 44 = .ok (.iload_n 1, 1) by decide +kernel) (pc' := 45) rfl rfl rfl ?_
  refine X_iconst (v := 1) (show decode (mB 134) 45 = .ok (.iconst 1, 1) by decide +kernel) (pc' := 46) rfl rfl ?_
  refine X_iadd (show decode (mB 134) 46 = .ok (.iadd, 1) by decide +kernel) (pc' := 47) rfl ?_
  exact X_callT (y := 134) (n := 1) (st := [.int (x1 + 1), .ref 65, .int 33, .ref 65]) (as := [.ref 65, .int (x1 + 1)]) (rest := [.int 33, .ref 65]) (ls0 := [.ref 65, .int (x1 + 1)]) (ci := 13) (show decode (mB 134) 47 = .ok (.invokevirtual 163, 3) by decide +kernel) (pc' := 50) rfl (by decide +kernel) (by decide +kernel) rfl (ls_65 hL) (by decide +kernel) rfl rfl rfl rfl rfl (by decide +kernel) (by decide +kernel) k
set_option maxRecDepth 4000 in
theorem b_X14_not_50 {xs : Nat → Int32} {L d : Nat} {S : Nat → Shp} {I : Nat → Nat → Int32} {J : Nat → Nat → Int64} {R : Nat → Nat → Nat} {c : Nat × Nat} {Q : Option (Option Value) → MH → Prop} {x1 sx1 sx2 : Int32} (hL : Lay S R)  (k : X xs L d 130 0 [.ref 65, .int sx1, .int sx2, .int (-1), .null] [] (S, I, J, R, c) (Kc xs L (d + 1) 134 54 [.ref 65, .int x1] [] Q)) : X xs L (d + 1) 134 50 [.ref 65, .int x1] [.int sx2, .int sx1, .ref 65] (S, I, J, R, c) Q := by
  refine X_iconst (v := (-1)) (show decode (mB 134) 50 = .ok (.iconst (-1), 1) by decide +kernel) (pc' := 51) rfl rfl ?_
  exact X_callV (y := 130) (n := 3) (st := [.int (-1), .int sx2, .int sx1, .ref 65]) (as := [.ref 65, .int sx1, .int sx2, .int (-1)]) (rest := []) (ls0 := [.ref 65, .int sx1, .int sx2, .int (-1), .null]) (ci := 13) (show decode (mB 134) 51 = .ok (.invokevirtual 156, 3) by decide +kernel) (pc' := 54) rfl (by decide +kernel) (by decide +kernel) rfl (ls_65 hL) (by decide +kernel) rfl rfl rfl rfl rfl k
set_option maxRecDepth 4000 in
theorem b_X14_not_54 {xs : Nat → Int32} {L d : Nat} {S : Nat → Shp} {I : Nat → Nat → Int32} {J : Nat → Nat → Int64} {R : Nat → Nat → Nat} {c : Nat × Nat} {Q : Option (Option Value) → MH → Prop} {x1 sx0 : Int32}  (k : Q (some (some (.int sx0))) (S, I, J, R, c)) : X xs L (d + 1) 134 54 [.ref 65, .int x1] [.int sx0] (S, I, J, R, c) Q := by
  exact X_ireturn (ty := .int) (show decode (mB 134) 54 = .ok (.ireturn, 1) by decide +kernel) (by decide +kernel) rfl k
set_option maxRecDepth 4000 in
theorem b_X14_atom_0 {xs : Nat → Int32} {L d : Nat} {S : Nat → Shp} {I : Nat → Nat → Int32} {J : Nat → Nat → Int64} {R : Nat → Nat → Nat} {c : Nat × Nat} {Q : Option (Option Value) → MH → Prop} {x1 : Int32} (hL : Lay S R)  (k : X xs L d 127 0 [.ref 65, .int 40] [] (S, I, J, R, c) (Kc xs L (d + 1) 135 6 [.ref 65, .int x1, .null] [] Q)) : X xs L (d + 1) 135 0 [.ref 65, .int x1, .null] [] (S, I, J, R, c) Q := by
  refine X_aload_n (q := 0) (show decode (mB 135) 0 = .ok (.aload_n 0, 1) by decide +kernel) (pc' := 1) rfl rfl rfl ?_
  refine X_bipush (v := 40) (show decode (mB 135) 1 = .ok (.bipush 40, 2) by decide +kernel) (pc' := 3) rfl (by decide +kernel) ?_
  exact X_callV (y := 127) (n := 1) (st := [.int 40, .ref 65]) (as := [.ref 65, .int 40]) (rest := []) (ls0 := [.ref 65, .int 40]) (ci := 13) (show decode (mB 135) 3 = .ok (.invokevirtual 131, 3) by decide +kernel) (pc' := 6) rfl (by decide +kernel) (by decide +kernel) rfl (ls_65 hL) (by decide +kernel) rfl rfl rfl rfl rfl k
set_option maxRecDepth 4000 in
theorem b_X14_atom_6 {xs : Nat → Int32} {L d : Nat} {S : Nat → Shp} {I : Nat → Nat → Int32} {J : Nat → Nat → Int64} {R : Nat → Nat → Nat} {c : Nat × Nat} {Q : Option (Option Value) → MH → Prop} {x1 sx0 : Int32}  (kt : sx0 = 0 → X xs L (d + 1) 135 50 [.ref 65, .int x1, .null] [] (S, I, J, R, c) Q) (kf : ¬ (sx0 = 0) → X xs L (d + 1) 135 9 [.ref 65, .int x1, .null] [] (S, I, J, R, c) Q) : X xs L (d + 1) 135 6 [.ref 65, .int x1, .null] [.int sx0] (S, I, J, R, c) Q := by
  exact X_if_eq (tgt := 50) (show decode (mB 135) 6 = .ok (.ifCond .eq 44, 3) by decide +kernel) rfl (pc' := 9) rfl kt kf
set_option maxRecDepth 4000 in
theorem b_X14_atom_9 {xs : Nat → Int32} {L d : Nat} {S : Nat → Shp} {I : Nat → Nat → Int32} {J : Nat → Nat → Int64} {R : Nat → Nat → Nat} {c : Nat × Nat} {Q : Option (Option Value) → MH → Prop} {x1 : Int32}  (kt : 10 ≤ x1 → X xs L (d + 1) 135 20 [.ref 65, .int x1, .null] [.ref 65] (S, I, J, R, c) Q) (kf : ¬ (10 ≤ x1) → X xs L (d + 1) 135 16 [.ref 65, .int x1, .null] [.ref 65] (S, I, J, R, c) Q) : X xs L (d + 1) 135 9 [.ref 65, .int x1, .null] [] (S, I, J, R, c) Q := by
  refine X_aload_n (q := 0) (show decode (mB 135) 9 = .ok (.aload_n 0, 1) by decide +kernel) (pc' := 10) rfl rfl rfl ?_
  refine X_iload_n (q := 1) (show decode (mB 135) 10 = .ok (.iload_n 1, 1) by decide +kernel) (pc' := 11) rfl rfl rfl ?_
  refine X_bipush (v := 10) (show decode (mB 135) 11 = .ok (.bipush 10, 2) by decide +kernel) (pc' := 13) rfl (by decide +kernel) ?_
  exact X_icmp_ge (tgt := 20) (show decode (mB 135) 13 = .ok (.if_icmp .ge 7, 3) by decide +kernel) rfl (pc' := 16) rfl kt kf
set_option maxRecDepth 4000 in
theorem b_X14_atom_16 {xs : Nat → Int32} {L d : Nat} {S : Nat → Shp} {I : Nat → Nat → Int32} {J : Nat → Nat → Int64} {R : Nat → Nat → Nat} {c : Nat × Nat} {Q : Option (Option Value) → MH → Prop} {x1 : Int32}  (k : X xs L (d + 1) 135 21 [.ref 65, .int x1, .null] [.int 1, .ref 65] (S, I, J, R, c) Q) : X xs L (d + 1) 135 16 [.ref 65, .int x1, .null] [.ref 65] (S, I, J, R, c) Q := by
  refine X_iconst (v := 1) (show decode (mB 135) 16 = .ok (.iconst 1, 1) by decide +kernel) (pc' := 17) rfl rfl ?_
  refine X_goto (tgt := 21) (show decode (mB 135) 17 = .ok (.goto 4, 3) by decide +kernel) rfl ?_
  exact k
set_option maxRecDepth 4000 in
theorem b_X14_atom_20 {xs : Nat → Int32} {L d : Nat} {S : Nat → Shp} {I : Nat → Nat → Int32} {J : Nat → Nat → Int64} {R : Nat → Nat → Nat} {c : Nat × Nat} {Q : Option (Option Value) → MH → Prop} {x1 : Int32}  (k : X xs L (d + 1) 135 21 [.ref 65, .int x1, .null] [.int 0, .ref 65] (S, I, J, R, c) Q) : X xs L (d + 1) 135 20 [.ref 65, .int x1, .null] [.ref 65] (S, I, J, R, c) Q := by
  refine X_iconst (v := 0) (show decode (mB 135) 20 = .ok (.iconst 0, 1) by decide +kernel) (pc' := 21) rfl rfl ?_
  exact k
set_option maxRecDepth 4000 in
theorem b_X14_atom_21 {xs : Nat → Int32} {L d : Nat} {S : Nat → Shp} {I : Nat → Nat → Int32} {J : Nat → Nat → Int64} {R : Nat → Nat → Nat} {c : Nat × Nat} {Q : Option (Option Value) → MH → Prop} {x1 sx1 : Int32} (hL : Lay S R)  (k : X xs L d 128 0 [.ref 65, .int sx1] [] (S, I, J, R, c) (Kt xs L (d + 1) 135 24 [.ref 65, .int x1, .null] [] Q)) : X xs L (d + 1) 135 21 [.ref 65, .int x1, .null] [.int sx1, .ref 65] (S, I, J, R, c) Q := by
  exact X_callT (y := 128) (n := 1) (st := [.int sx1, .ref 65]) (as := [.ref 65, .int sx1]) (rest := []) (ls0 := [.ref 65, .int sx1]) (ci := 13) (show decode (mB 135) 21 = .ok (.invokevirtual 134, 3) by decide +kernel) (pc' := 24) rfl (by decide +kernel) (by decide +kernel) rfl (ls_65 hL) (by decide +kernel) rfl rfl rfl rfl rfl (by decide +kernel) (by decide +kernel) k
set_option maxRecDepth 4000 in
theorem b_X14_atom_24 {xs : Nat → Int32} {L d : Nat} {S : Nat → Shp} {I : Nat → Nat → Int32} {J : Nat → Nat → Int64} {R : Nat → Nat → Nat} {c : Nat × Nat} {Q : Option (Option Value) → MH → Prop} {x1 : Int32} (hL : Lay S R)  (k : X xs L d 131 0 [.ref 65, .int (x1 + 1), .null] [] (S, (u2 I 65 7 ((I 65 7) + 1)), J, R, c) (Kt xs L (d + 1) 135 41 [.ref 65, .int x1, .null] [] Q)) : X xs L (d + 1) 135 24 [.ref 65, .int x1, .null] [] (S, I, J, R, c) Q := by
  refine X_aload_n (q := 0) (show decode (mB 135) 24 = .ok (.aload_n 0, 1) by decide +kernel) (pc' := 25) rfl rfl rfl ?_
  refine X_dup (show decode (mB 135) 25 = .ok (.dup, 1) by decide +kernel) (pc' := 26) rfl rfl ?_
  refine X_getI (ci := 13) (f := 7) (x := I 65 7) (show decode (mB 135) 26 = .ok (.getfield 122, 3) by decide +kernel) (pc' := 29) rfl (ls_65 hL) (by decide +kernel) rfl rfl ?_
  refine X_iconst (v := 1) (show decode (mB 135) 29 = .ok (.iconst 1, 1) by decide +kernel) (pc' := 30) rfl rfl ?_
  refine X_iadd (show decode (mB 135) 30 = .ok (.iadd, 1) by decide +kernel) (pc' := 31) rfl ?_
  refine X_putI (ci := 13) (f := 7) (show decode (mB 135) 31 = .ok (.putfield 122, 3) by decide +kernel) (pc' := 34) rfl (ls_65 hL) (by decide +kernel) (by decide +kernel) rfl ?_
  refine X_aload_n (q := 0) (show decode (mB 135) 34 = .ok (.aload_n 0, 1) by decide +kernel) (pc' := 35) rfl rfl rfl ?_
  refine X_iload_n (q := 1) (show decode (mB 135) 35 = .ok (.iload_n 1, 1) by decide +kernel) (pc' := 36) rfl rfl rfl ?_
  refine X_iconst (v := 1) (show decode (mB 135) 36 = .ok (.iconst 1, 1) by decide +kernel) (pc' := 37) rfl rfl ?_
  refine X_iadd (show decode (mB 135) 37 = .ok (.iadd, 1) by decide +kernel) (pc' := 38) rfl ?_
  exact X_callT (y := 131) (n := 1) (st := [.int (x1 + 1), .ref 65]) (as := [.ref 65, .int (x1 + 1)]) (rest := []) (ls0 := [.ref 65, .int (x1 + 1), .null]) (ci := 13) (show decode (mB 135) 38 = .ok (.invokevirtual 169, 3) by decide +kernel) (pc' := 41) rfl (by decide +kernel) (by decide +kernel) rfl (ls_65 hL) (by decide +kernel) rfl rfl rfl rfl rfl (by decide +kernel) (by decide +kernel) k
set_option maxRecDepth 4000 in
theorem b_X14_atom_41 {xs : Nat → Int32} {L d : Nat} {S : Nat → Shp} {I : Nat → Nat → Int32} {J : Nat → Nat → Int64} {R : Nat → Nat → Nat} {c : Nat × Nat} {Q : Option (Option Value) → MH → Prop} {x1 sx0 : Int32} (hL : Lay S R)  (k : X xs L d 129 0 [.ref 65, .int 41] [] (S, I, J, R, c) (Kt xs L (d + 1) 135 48 [.ref 65, .int x1, .int sx0] [] Q)) : X xs L (d + 1) 135 41 [.ref 65, .int x1, .null] [.int sx0] (S, I, J, R, c) Q := by
  refine X_istore_n (q := 2) (ls' := [.ref 65, .int x1, .int sx0]) (show decode (mB 135) 41 = .ok (.istore_n 2, 1) by decide +kernel) (pc' := 42) rfl rfl rfl ?_
  refine X_aload_n (q := 0) (show decode (mB 135) 42 = .ok (.aload_n 0, 1) by decide +kernel) (pc' := 43) rfl rfl rfl ?_
  refine X_bipush (v := 41) (show decode (mB 135) 43 = .ok (.bipush 41, 2) by decide +kernel) (pc' := 45) rfl (by decide +kernel) ?_
  exact X_callT (y := 129) (n := 1) (st := [.int 41, .ref 65]) (as := [.ref 65, .int 41]) (rest := []) (ls0 := [.ref 65, .int 41]) (ci := 13) (show decode (mB 135) 45 = .ok (.invokevirtual 172, 3) by decide +kernel) (pc' := 48) rfl (by decide +kernel) (by decide +kernel) rfl (ls_65 hL) (by decide +kernel) rfl rfl rfl rfl rfl (by decide +kernel) (by decide +kernel) k
set_option maxRecDepth 4000 in
theorem b_X14_atom_48 {xs : Nat → Int32} {L d : Nat} {S : Nat → Shp} {I : Nat → Nat → Int32} {J : Nat → Nat → Int64} {R : Nat → Nat → Nat} {c : Nat × Nat} {Q : Option (Option Value) → MH → Prop} {x1 x2 : Int32}  (k : Q (some (some (.int x2))) (S, I, J, R, c)) : X xs L (d + 1) 135 48 [.ref 65, .int x1, .int x2] [] (S, I, J, R, c) Q := by
  refine X_iload_n (q := 2) (show decode (mB 135) 48 = .ok (.iload_n 2, 1) by decide +kernel) (pc' := 49) rfl rfl rfl ?_
  exact X_ireturn (ty := .int) (show decode (mB 135) 49 = .ok (.ireturn, 1) by decide +kernel) (by decide +kernel) rfl k
set_option maxRecDepth 4000 in
theorem b_X14_atom_50 {xs : Nat → Int32} {L d : Nat} {S : Nat → Shp} {I : Nat → Nat → Int32} {J : Nat → Nat → Int64} {R : Nat → Nat → Nat} {c : Nat × Nat} {Q : Option (Option Value) → MH → Prop} {x1 : Int32} (hL : Lay S R)  (kt : (I 65 20) = 0 → X xs L (d + 1) 135 63 [.ref 65, .int x1, .null] [.ref 65, .ref 65] (S, I, J, R, c) Q) (kf : ¬ ((I 65 20) = 0) → X xs L (d + 1) 135 59 [.ref 65, .int x1, .null] [.ref 65, .ref 65] (S, I, J, R, c) Q) : X xs L (d + 1) 135 50 [.ref 65, .int x1, .null] [] (S, I, J, R, c) Q := by
  refine X_aload_n (q := 0) (show decode (mB 135) 50 = .ok (.aload_n 0, 1) by decide +kernel) (pc' := 51) rfl rfl rfl ?_
  refine X_aload_n (q := 0) (show decode (mB 135) 51 = .ok (.aload_n 0, 1) by decide +kernel) (pc' := 52) rfl rfl rfl ?_
  refine X_aload_n (q := 0) (show decode (mB 135) 52 = .ok (.aload_n 0, 1) by decide +kernel) (pc' := 53) rfl rfl rfl ?_
  refine X_getI (ci := 13) (f := 20) (x := I 65 20) (show decode (mB 135) 53 = .ok (.getfield 175, 3) by decide +kernel) (pc' := 56) rfl (ls_65 hL) (by decide +kernel) rfl rfl ?_
  exact X_if_eq (tgt := 63) (show decode (mB 135) 56 = .ok (.ifCond .eq 7, 3) by decide +kernel) rfl (pc' := 59) rfl kt kf
set_option maxRecDepth 4000 in
theorem b_X14_atom_59 {xs : Nat → Int32} {L d : Nat} {S : Nat → Shp} {I : Nat → Nat → Int32} {J : Nat → Nat → Int64} {R : Nat → Nat → Nat} {c : Nat × Nat} {Q : Option (Option Value) → MH → Prop} {x1 : Int32}  (k : X xs L (d + 1) 135 64 [.ref 65, .int x1, .null] [.int 1, .ref 65, .ref 65] (S, I, J, R, c) Q) : X xs L (d + 1) 135 59 [.ref 65, .int x1, .null] [.ref 65, .ref 65] (S, I, J, R, c) Q := by
  refine X_iconst (v := 1) (show decode (mB 135) 59 = .ok (.iconst 1, 1) by decide +kernel) (pc' := 60) rfl rfl ?_
  refine X_goto (tgt := 64) (show decode (mB 135) 60 = .ok (.goto 4, 3) by decide +kernel) rfl ?_
  exact k
set_option maxRecDepth 4000 in
theorem b_X14_atom_63 {xs : Nat → Int32} {L d : Nat} {S : Nat → Shp} {I : Nat → Nat → Int32} {J : Nat → Nat → Int64} {R : Nat → Nat → Nat} {c : Nat × Nat} {Q : Option (Option Value) → MH → Prop} {x1 : Int32}  (k : X xs L (d + 1) 135 64 [.ref 65, .int x1, .null] [.int 2, .ref 65, .ref 65] (S, I, J, R, c) Q) : X xs L (d + 1) 135 63 [.ref 65, .int x1, .null] [.ref 65, .ref 65] (S, I, J, R, c) Q := by
  refine X_iconst (v := 2) (show decode (mB 135) 63 = .ok (.iconst 2, 1) by decide +kernel) (pc' := 64) rfl rfl ?_
  exact k
set_option maxRecDepth 4000 in
theorem b_X14_atom_64 {xs : Nat → Int32} {L d : Nat} {S : Nat → Shp} {I : Nat → Nat → Int32} {J : Nat → Nat → Int64} {R : Nat → Nat → Nat} {c : Nat × Nat} {Q : Option (Option Value) → MH → Prop} {x1 sx2 : Int32} (hL : Lay S R)  (k : X xs L d 127 0 [.ref 65, .int sx2] [] (S, I, J, R, c) (Kc xs L (d + 1) 135 67 [.ref 65, .int x1, .null] [.ref 65] Q)) : X xs L (d + 1) 135 64 [.ref 65, .int x1, .null] [.int sx2, .ref 65, .ref 65] (S, I, J, R, c) Q := by
  exact X_callV (y := 127) (n := 1) (st := [.int sx2, .ref 65, .ref 65]) (as := [.ref 65, .int sx2]) (rest := [.ref 65]) (ls0 := [.ref 65, .int sx2]) (ci := 13) (show decode (mB 135) 64 = .ok (.invokevirtual 131, 3) by decide +kernel) (pc' := 67) rfl (by decide +kernel) (by decide +kernel) rfl (ls_65 hL) (by decide +kernel) rfl rfl rfl rfl rfl k
set_option maxRecDepth 4000 in
theorem b_X14_atom_67 {xs : Nat → Int32} {L d : Nat} {S : Nat → Shp} {I : Nat → Nat → Int32} {J : Nat → Nat → Int64} {R : Nat → Nat → Nat} {c : Nat × Nat} {Q : Option (Option Value) → MH → Prop} {x1 sx1 : Int32}  (kt : ¬ sx1 = 0 → X xs L (d + 1) 135 105 [.ref 65, .int x1, .null] [.ref 65] (S, I, J, R, c) Q) (kf : ¬ (¬ sx1 = 0) → X xs L (d + 1) 135 70 [.ref 65, .int x1, .null] [.ref 65] (S, I, J, R, c) Q) : X xs L (d + 1) 135 67 [.ref 65, .int x1, .null] [.int sx1, .ref 65] (S, I, J, R, c) Q := by
  exact X_if_ne (tgt := 105) (show decode (mB 135) 67 = .ok (.ifCond .ne 38, 3) by decide +kernel) rfl (pc' := 70) rfl kt kf
set_option maxRecDepth 4000 in
theorem b_X14_atom_70 {xs : Nat → Int32} {L d : Nat} {S : Nat → Shp} {I : Nat → Nat → Int32} {J : Nat → Nat → Int64} {R : Nat → Nat → Nat} {c : Nat × Nat} {Q : Option (Option Value) → MH → Prop} {x1 : Int32} (hL : Lay S R)  (k : X xs L d 127 0 [.ref 65, .int 3] [] (S, I, J, R, c) (Kc xs L (d + 1) 135 75 [.ref 65, .int x1, .null] [.ref 65] Q)) : X xs L (d + 1) 135 70 [.ref 65, .int x1, .null] [.ref 65] (S, I, J, R, c) Q := by
  refine X_aload_n (q := 0) (show decode (mB 135) 70 = .ok (.aload_n 0, 1) by decide +kernel) (pc' := 71) rfl rfl rfl ?_
  refine X_iconst (v := 3) (show decode (mB 135) 71 = .ok (.iconst 3, 1) by decide +kernel) (pc' := 72) rfl rfl ?_
  exact X_callV (y := 127) (n := 1) (st := [.int 3, .ref 65, .ref 65]) (as := [.ref 65, .int 3]) (rest := [.ref 65]) (ls0 := [.ref 65, .int 3]) (ci := 13) (show decode (mB 135) 72 = .ok (.invokevirtual 131, 3) by decide +kernel) (pc' := 75) rfl (by decide +kernel) (by decide +kernel) rfl (ls_65 hL) (by decide +kernel) rfl rfl rfl rfl rfl k
set_option maxRecDepth 4000 in
theorem b_X14_atom_75 {xs : Nat → Int32} {L d : Nat} {S : Nat → Shp} {I : Nat → Nat → Int32} {J : Nat → Nat → Int64} {R : Nat → Nat → Nat} {c : Nat × Nat} {Q : Option (Option Value) → MH → Prop} {x1 sx1 : Int32}  (kt : sx1 = 0 → X xs L (d + 1) 135 109 [.ref 65, .int x1, .null] [.ref 65] (S, I, J, R, c) Q) (kf : ¬ (sx1 = 0) → X xs L (d + 1) 135 78 [.ref 65, .int x1, .null] [.ref 65] (S, I, J, R, c) Q) : X xs L (d + 1) 135 75 [.ref 65, .int x1, .null] [.int sx1, .ref 65] (S, I, J, R, c) Q := by
  exact X_if_eq (tgt := 109) (show decode (mB 135) 75 = .ok (.ifCond .eq 34, 3) by decide +kernel) rfl (pc' := 78) rfl kt kf
set_option maxRecDepth 4000 in
theorem b_X14_atom_78 {xs : Nat → Int32} {L d : Nat} {S : Nat → Shp} {I : Nat → Nat → Int32} {J : Nat → Nat → Int64} {R : Nat → Nat → Nat} {c : Nat × Nat} {Q : Option (Option Value) → MH → Prop} {x1 : Int32} (hL : Lay S R) (hb86 : inb (I 65 7) 2001 = true) (kt : 0 < (lg_cmp (J 68 (I 65 7).toNatClampNeg) 1) → X xs L (d + 1) 135 109 [.ref 65, .int x1, .null] [.ref 65] (S, I, J, R, c) Q) (kf : ¬ (0 < (lg_cmp (J 68 (I 65 7).toNatClampNeg) 1)) → X xs L (d + 1) 135 92 [.ref 65, .int x1, .null] [.ref 65] (S, I, J, R, c) Q) : X xs L (d + 1) 135 78 [.ref 65, .int x1, .null] [.ref 65] (S, I, J, R, c) Q := by
  refine X_aload_n (q := 0) (show decode (mB 135) 78 = .ok (.aload_n 0, 1) by decide +kernel) (pc' := 79) rfl rfl rfl ?_
  refine X_getR (ci := 13) (f := 3) (q := 68) (show decode (mB 135) 79 = .ok (.getfield 17, 3) by decide +kernel) (pc' := 82) rfl (ls_65 hL) (by decide +kernel) rfl (lr_65_3 hL) ?_
  refine X_aload_n (q := 0) (show decode (mB 135) 82 = .ok (.aload_n 0, 1) by decide +kernel) (pc' := 83) rfl rfl rfl ?_
  refine X_getI (ci := 13) (f := 7) (x := I 65 7) (show decode (mB 135) 83 = .ok (.getfield 122, 3) by decide +kernel) (pc' := 86) rfl (ls_65 hL) (by decide +kernel) rfl rfl ?_
  refine X_laload (w := J 68 (I 65 7).toNatClampNeg) (show decode (mB 135) 86 = .ok (.laload, 1) by decide +kernel) (pc' := 87) rfl (ls_68 hL) hb86 rfl ?_
  refine X_lconst (v := 1) (show decode (mB 135) 87 = .ok (.lconst 1, 1) by decide +kernel) (pc' := 88) rfl rfl ?_
  refine X_lcmp (show decode (mB 135) 88 = .ok (.lcmp, 1) by decide +kernel) (pc' := 89) rfl ?_
  exact X_if_gt (tgt := 109) (show decode (mB 135) 89 = .ok (.ifCond .gt 20, 3) by decide +kernel) rfl (pc' := 92) rfl kt kf
set_option maxRecDepth 4000 in
theorem b_X14_atom_92 {xs : Nat → Int32} {L d : Nat} {S : Nat → Shp} {I : Nat → Nat → Int32} {J : Nat → Nat → Int64} {R : Nat → Nat → Nat} {c : Nat × Nat} {Q : Option (Option Value) → MH → Prop} {x1 : Int32} (hL : Lay S R) (hb100 : inb (I 65 7) 2001 = true) (kt : ¬ (I 70 (I 65 7).toNatClampNeg) = 1 → X xs L (d + 1) 135 109 [.ref 65, .int x1, .null] [.ref 65] (S, I, J, R, c) Q) (kf : ¬ (¬ (I 70 (I 65 7).toNatClampNeg) = 1) → X xs L (d + 1) 135 105 [.ref 65, .int x1, .null] [.ref 65] (S, I, J, R, c) Q) : X xs L (d + 1) 135 92 [.ref 65, .int x1, .null] [.ref 65] (S, I, J, R, c) Q := by
  refine X_aload_n (q := 0) (show decode (mB 135) 92 = .ok (.aload_n 0, 1) by decide +kernel) (pc' := 93) rfl rfl rfl ?_
  refine X_getR (ci := 13) (f := 5) (q := 70) (show decode (mB 135) 93 = .ok (.getfield 24, 3) by decide +kernel) (pc' := 96) rfl (ls_65 hL) (by decide +kernel) rfl (lr_65_5 hL) ?_
  refine X_aload_n (q := 0) (show decode (mB 135) 96 = .ok (.aload_n 0, 1) by decide +kernel) (pc' := 97) rfl rfl rfl ?_
  refine X_getI (ci := 13) (f := 7) (x := I 65 7) (show decode (mB 135) 97 = .ok (.getfield 122, 3) by decide +kernel) (pc' := 100) rfl (ls_65 hL) (by decide +kernel) rfl rfl ?_
  refine X_iaload (w := I 70 (I 65 7).toNatClampNeg) (show decode (mB 135) 100 = .ok (.iaload, 1) by decide +kernel) (pc' := 101) rfl (ls_70 hL) hb100 rfl ?_
  refine X_iconst (v := 1) (show decode (mB 135) 101 = .ok (.iconst 1, 1) by decide +kernel) (pc' := 102) rfl rfl ?_
  exact X_icmp_ne (tgt := 109) (show decode (mB 135) 102 = .ok (.if_icmp .ne 7, 3) by decide +kernel) rfl (pc' := 105) rfl kt kf
set_option maxRecDepth 4000 in
theorem b_X14_atom_105 {xs : Nat → Int32} {L d : Nat} {S : Nat → Shp} {I : Nat → Nat → Int32} {J : Nat → Nat → Int64} {R : Nat → Nat → Nat} {c : Nat × Nat} {Q : Option (Option Value) → MH → Prop} {x1 : Int32}  (k : X xs L (d + 1) 135 110 [.ref 65, .int x1, .null] [.int 1, .ref 65] (S, I, J, R, c) Q) : X xs L (d + 1) 135 105 [.ref 65, .int x1, .null] [.ref 65] (S, I, J, R, c) Q := by
  refine X_iconst (v := 1) (show decode (mB 135) 105 = .ok (.iconst 1, 1) by decide +kernel) (pc' := 106) rfl rfl ?_
  refine X_goto (tgt := 110) (show decode (mB 135) 106 = .ok (.goto 4, 3) by decide +kernel) rfl ?_
  exact k
set_option maxRecDepth 4000 in
theorem b_X14_atom_109 {xs : Nat → Int32} {L d : Nat} {S : Nat → Shp} {I : Nat → Nat → Int32} {J : Nat → Nat → Int64} {R : Nat → Nat → Nat} {c : Nat × Nat} {Q : Option (Option Value) → MH → Prop} {x1 : Int32}  (k : X xs L (d + 1) 135 110 [.ref 65, .int x1, .null] [.int 0, .ref 65] (S, I, J, R, c) Q) : X xs L (d + 1) 135 109 [.ref 65, .int x1, .null] [.ref 65] (S, I, J, R, c) Q := by
  refine X_iconst (v := 0) (show decode (mB 135) 109 = .ok (.iconst 0, 1) by decide +kernel) (pc' := 110) rfl rfl ?_
  exact k
set_option maxRecDepth 4000 in
theorem b_X14_atom_110 {xs : Nat → Int32} {L d : Nat} {S : Nat → Shp} {I : Nat → Nat → Int32} {J : Nat → Nat → Int64} {R : Nat → Nat → Nat} {c : Nat × Nat} {Q : Option (Option Value) → MH → Prop} {x1 sx1 : Int32} (hL : Lay S R)  (k : X xs L d 128 0 [.ref 65, .int sx1] [] (S, I, J, R, c) (Kt xs L (d + 1) 135 113 [.ref 65, .int x1, .null] [] Q)) : X xs L (d + 1) 135 110 [.ref 65, .int x1, .null] [.int sx1, .ref 65] (S, I, J, R, c) Q := by
  exact X_callT (y := 128) (n := 1) (st := [.int sx1, .ref 65]) (as := [.ref 65, .int sx1]) (rest := []) (ls0 := [.ref 65, .int sx1]) (ci := 13) (show decode (mB 135) 110 = .ok (.invokevirtual 134, 3) by decide +kernel) (pc' := 113) rfl (by decide +kernel) (by decide +kernel) rfl (ls_65 hL) (by decide +kernel) rfl rfl rfl rfl rfl (by decide +kernel) (by decide +kernel) k
set_option maxRecDepth 4000 in
theorem b_X14_atom_113 {xs : Nat → Int32} {L d : Nat} {S : Nat → Shp} {I : Nat → Nat → Int32} {J : Nat → Nat → Int64} {R : Nat → Nat → Nat} {c : Nat × Nat} {Q : Option (Option Value) → MH → Prop} {x1 : Int32} (hL : Lay S R)  (kt : 300 ≤ (I 65 21) → X xs L (d + 1) 135 128 [.ref 65, .int x1, .null] [.ref 65] (S, I, J, R, c) Q) (kf : ¬ (300 ≤ (I 65 21)) → X xs L (d + 1) 135 124 [.ref 65, .int x1, .null] [.ref 65] (S, I, J, R, c) Q) : X xs L (d + 1) 135 113 [.ref 65, .int x1, .null] [] (S, I, J, R, c) Q := by
  refine X_aload_n (q := 0) (show decode (mB 135) 113 = .ok (.aload_n 0, 1) by decide +kernel) (pc' := 114) rfl rfl rfl ?_
  refine X_aload_n (q := 0) (show decode (mB 135) 114 = .ok (.aload_n 0, 1) by decide +kernel) (pc' := 115) rfl rfl rfl ?_
  refine X_getI (ci := 13) (f := 21) (x := I 65 21) (show decode (mB 135) 115 = .ok (.getfield 179, 3) by decide +kernel) (pc' := 118) rfl (ls_65 hL) (by decide +kernel) rfl rfl ?_
  refine X_sipush (v := 300) (show decode (mB 135) 118 = .ok (.sipush 300, 3) by decide +kernel) (pc' := 121) rfl (by decide +kernel) ?_
  exact X_icmp_ge (tgt := 128) (show decode (mB 135) 121 = .ok (.if_icmp .ge 7, 3) by decide +kernel) rfl (pc' := 124) rfl kt kf
set_option maxRecDepth 4000 in
theorem b_X14_atom_124 {xs : Nat → Int32} {L d : Nat} {S : Nat → Shp} {I : Nat → Nat → Int32} {J : Nat → Nat → Int64} {R : Nat → Nat → Nat} {c : Nat × Nat} {Q : Option (Option Value) → MH → Prop} {x1 : Int32}  (k : X xs L (d + 1) 135 129 [.ref 65, .int x1, .null] [.int 1, .ref 65] (S, I, J, R, c) Q) : X xs L (d + 1) 135 124 [.ref 65, .int x1, .null] [.ref 65] (S, I, J, R, c) Q := by
  refine X_iconst (v := 1) (show decode (mB 135) 124 = .ok (.iconst 1, 1) by decide +kernel) (pc' := 125) rfl rfl ?_
  refine X_goto (tgt := 129) (show decode (mB 135) 125 = .ok (.goto 4, 3) by decide +kernel) rfl ?_
  exact k
set_option maxRecDepth 4000 in
theorem b_X14_atom_128 {xs : Nat → Int32} {L d : Nat} {S : Nat → Shp} {I : Nat → Nat → Int32} {J : Nat → Nat → Int64} {R : Nat → Nat → Nat} {c : Nat × Nat} {Q : Option (Option Value) → MH → Prop} {x1 : Int32}  (k : X xs L (d + 1) 135 129 [.ref 65, .int x1, .null] [.int 0, .ref 65] (S, I, J, R, c) Q) : X xs L (d + 1) 135 128 [.ref 65, .int x1, .null] [.ref 65] (S, I, J, R, c) Q := by
  refine X_iconst (v := 0) (show decode (mB 135) 128 = .ok (.iconst 0, 1) by decide +kernel) (pc' := 129) rfl rfl ?_
  exact k
set_option maxRecDepth 4000 in
theorem b_X14_atom_129 {xs : Nat → Int32} {L d : Nat} {S : Nat → Shp} {I : Nat → Nat → Int32} {J : Nat → Nat → Int64} {R : Nat → Nat → Nat} {c : Nat × Nat} {Q : Option (Option Value) → MH → Prop} {x1 sx1 : Int32} (hL : Lay S R)  (k : X xs L d 128 0 [.ref 65, .int sx1] [] (S, I, J, R, c) (Kt xs L (d + 1) 135 132 [.ref 65, .int x1, .null] [] Q)) : X xs L (d + 1) 135 129 [.ref 65, .int x1, .null] [.int sx1, .ref 65] (S, I, J, R, c) Q := by
  exact X_callT (y := 128) (n := 1) (st := [.int sx1, .ref 65]) (as := [.ref 65, .int sx1]) (rest := []) (ls0 := [.ref 65, .int sx1]) (ci := 13) (show decode (mB 135) 129 = .ok (.invokevirtual 134, 3) by decide +kernel) (pc' := 132) rfl (by decide +kernel) (by decide +kernel) rfl (ls_65 hL) (by decide +kernel) rfl rfl rfl rfl rfl (by decide +kernel) (by decide +kernel) k
set_option maxRecDepth 4000 in
theorem b_X14_atom_132 {xs : Nat → Int32} {L d : Nat} {S : Nat → Shp} {I : Nat → Nat → Int32} {J : Nat → Nat → Int64} {R : Nat → Nat → Nat} {c : Nat × Nat} {Q : Option (Option Value) → MH → Prop} {x1 : Int32} (hL : Lay S R)  (k : X xs L d 127 0 [.ref 65, .int 3] [] (S, (u2 I 65 21 ((I 65 21) + 1)), J, R, c) (Kc xs L (d + 1) 135 147 [.ref 65, .int x1, .null] [] Q)) : X xs L (d + 1) 135 132 [.ref 65, .int x1, .null] [] (S, I, J, R, c) Q := by
  refine X_aload_n (q := 0) (show decode (mB 135) 132 = .ok (.aload_n 0, 1) by decide +kernel) (pc' := 133) rfl rfl rfl ?_
  refine X_dup (show decode (mB 135) 133 = .ok (.dup, 1) by decide +kernel) (pc' := 134) rfl rfl ?_
  refine X_getI (ci := 13) (f := 21) (x := I 65 21) (show decode (mB 135) 134 = .ok (.getfield 179, 3) by decide +kernel) (pc' := 137) rfl (ls_65 hL) (by decide +kernel) rfl rfl ?_
  refine X_iconst (v := 1) (show decode (mB 135) 137 = .ok (.iconst 1, 1) by decide +kernel) (pc' := 138) rfl rfl ?_
  refine X_iadd (show decode (mB 135) 138 = .ok (.iadd, 1) by decide +kernel) (pc' := 139) rfl ?_
  refine X_putI (ci := 13) (f := 21) (show decode (mB 135) 139 = .ok (.putfield 179, 3) by decide +kernel) (pc' := 142) rfl (ls_65 hL) (by decide +kernel) (by decide +kernel) rfl ?_
  refine X_aload_n (q := 0) (show decode (mB 135) 142 = .ok (.aload_n 0, 1) by decide +kernel) (pc' := 143) rfl rfl rfl ?_
  refine X_iconst (v := 3) (show decode (mB 135) 143 = .ok (.iconst 3, 1) by decide +kernel) (pc' := 144) rfl rfl ?_
  exact X_callV (y := 127) (n := 1) (st := [.int 3, .ref 65]) (as := [.ref 65, .int 3]) (rest := []) (ls0 := [.ref 65, .int 3]) (ci := 13) (show decode (mB 135) 144 = .ok (.invokevirtual 131, 3) by decide +kernel) (pc' := 147) rfl (by decide +kernel) (by decide +kernel) rfl (ls_65 hL) (by decide +kernel) rfl rfl rfl rfl rfl k
set_option maxRecDepth 4000 in
theorem b_X14_atom_147 {xs : Nat → Int32} {L d : Nat} {S : Nat → Shp} {I : Nat → Nat → Int32} {J : Nat → Nat → Int64} {R : Nat → Nat → Nat} {c : Nat × Nat} {Q : Option (Option Value) → MH → Prop} {x1 sx0 : Int32}  (kt : sx0 = 0 → X xs L (d + 1) 135 170 [.ref 65, .int x1, .null] [] (S, I, J, R, c) Q) (kf : ¬ (sx0 = 0) → X xs L (d + 1) 135 150 [.ref 65, .int x1, .null] [] (S, I, J, R, c) Q) : X xs L (d + 1) 135 147 [.ref 65, .int x1, .null] [.int sx0] (S, I, J, R, c) Q := by
  exact X_if_eq (tgt := 170) (show decode (mB 135) 147 = .ok (.ifCond .eq 23, 3) by decide +kernel) rfl (pc' := 150) rfl kt kf
set_option maxRecDepth 4000 in
theorem b_X14_atom_150 {xs : Nat → Int32} {L d : Nat} {S : Nat → Shp} {I : Nat → Nat → Int32} {J : Nat → Nat → Int64} {R : Nat → Nat → Nat} {c : Nat × Nat} {Q : Option (Option Value) → MH → Prop} {x1 : Int32} (hL : Lay S R) (hb159 : inb (I 65 7) 2001 = true) (k : X xs L d 130 0 [.ref 65, .int ((J 68 (I 65 7).toNatClampNeg).toInt32), .int (-1), .int (-1), .null] [] (S, I, J, R, c) (Kc xs L (d + 1) 135 166 [.ref 65, .int x1, .null] [] Q)) : X xs L (d + 1) 135 150 [.ref 65, .int x1, .null] [] (S, I, J, R, c) Q := by
  refine X_aload_n (q := 0) (show decode (mB 135) 150 = .ok (.aload_n 0, 1) by decide +kernel) (pc' := 151) rfl rfl rfl ?_
  refine X_aload_n (q := 0) (show decode (mB 135) 151 = .ok (.aload_n 0, 1) by decide +kernel) (pc' := 152) rfl rfl rfl ?_
  refine X_getR (ci := 13) (f := 3) (q := 68) (show decode (mB 135) 152 = .ok (.getfield 17, 3) by decide +kernel) (pc' := 155) rfl (ls_65 hL) (by decide +kernel) rfl (lr_65_3 hL) ?_
  refine X_aload_n (q := 0) (show decode (mB 135) 155 = .ok (.aload_n 0, 1) by decide +kernel) (pc' := 156) rfl rfl rfl ?_
  refine X_getI (ci := 13) (f := 7) (x := I 65 7) (show decode (mB 135) 156 = .ok (.getfield 122, 3) by decide +kernel) (pc' := 159) rfl (ls_65 hL) (by decide +kernel) rfl rfl ?_
  refine X_laload (w := J 68 (I 65 7).toNatClampNeg) (show decode (mB 135) 159 = .ok (.laload, 1) by decide +kernel) (pc' := 160) rfl (ls_68 hL) hb159 rfl ?_
  refine X_l2i (show decode (mB 135) 160 = .ok (.l2i, 1) by decide +kernel) (pc' := 161) rfl ?_
  refine X_iconst (v := (-1)) (show decode (mB 135) 161 = .ok (.iconst (-1), 1) by decide +kernel) (pc' := 162) rfl rfl ?_
  refine X_iconst (v := (-1)) (show decode (mB 135) 162 = .ok (.iconst (-1), 1) by decide +kernel) (pc' := 163) rfl rfl ?_
  exact X_callV (y := 130) (n := 3) (st := [.int (-1), .int (-1), .int ((J 68 (I 65 7).toNatClampNeg).toInt32), .ref 65]) (as := [.ref 65, .int ((J 68 (I 65 7).toNatClampNeg).toInt32), .int (-1), .int (-1)]) (rest := []) (ls0 := [.ref 65, .int ((J 68 (I 65 7).toNatClampNeg).toInt32), .int (-1), .int (-1), .null]) (ci := 13) (show decode (mB 135) 163 = .ok (.invokevirtual 156, 3) by decide +kernel) (pc' := 166) rfl (by decide +kernel) (by decide +kernel) rfl (ls_65 hL) (by decide +kernel) rfl rfl rfl rfl rfl k
set_option maxRecDepth 4000 in
theorem b_X14_atom_166 {xs : Nat → Int32} {L d : Nat} {S : Nat → Shp} {I : Nat → Nat → Int32} {J : Nat → Nat → Int64} {R : Nat → Nat → Nat} {c : Nat × Nat} {Q : Option (Option Value) → MH → Prop} {x1 sx0 : Int32}  (k : X xs L (d + 1) 135 237 [.ref 65, .int x1, .int sx0] [] (S, I, J, R, c) Q) : X xs L (d + 1) 135 166 [.ref 65, .int x1, .null] [.int sx0] (S, I, J, R, c) Q := by
  refine X_istore_n (q := 2) (ls' := [.ref 65, .int x1, .int sx0]) (show decode (mB 135) 166 = .ok (.istore_n 2, 1) by decide +kernel) (pc' := 167) rfl rfl rfl ?_
  refine X_goto (tgt := 237) (show decode (mB 135) 167 = .ok (.goto 70, 3) by decide +kernel) rfl ?_
  exact k
set_option maxRecDepth 4000 in
theorem b_X14_atom_170 {xs : Nat → Int32} {L d : Nat} {S : Nat → Shp} {I : Nat → Nat → Int32} {J : Nat → Nat → Int64} {R : Nat → Nat → Nat} {c : Nat × Nat} {Q : Option (Option Value) → MH → Prop} {x1 : Int32} (hL : Lay S R)  (kt : (I 65 20) = 0 → X xs L (d + 1) 135 225 [.ref 65, .int x1, .null] [] (S, I, J, R, c) Q) (kf : ¬ ((I 65 20) = 0) → X xs L (d + 1) 135 177 [.ref 65, .int x1, .null] [] (S, I, J, R, c) Q) : X xs L (d + 1) 135 170 [.ref 65, .int x1, .null] [] (S, I, J, R, c) Q := by
  refine X_aload_n (q := 0) (show decode (mB 135) 170 = .ok (.aload_n 0, 1) by decide +kernel) (pc' := 171) rfl rfl rfl ?_
  refine X_getI (ci := 13) (f := 20) (x := I 65 20) (show decode (mB 135) 171 = .ok (.getfield 175, 3) by decide +kernel) (pc' := 174) rfl (ls_65 hL) (by decide +kernel) rfl rfl ?_
  exact X_if_eq (tgt := 225) (show decode (mB 135) 174 = .ok (.ifCond .eq 51, 3) by decide +kernel) rfl (pc' := 177) rfl kt kf
set_option maxRecDepth 4000 in
theorem b_X14_atom_177 {xs : Nat → Int32} {L d : Nat} {S : Nat → Shp} {I : Nat → Nat → Int32} {J : Nat → Nat → Int64} {R : Nat → Nat → Nat} {c : Nat × Nat} {Q : Option (Option Value) → MH → Prop} {x1 : Int32} (hL : Lay S R)  (k : X xs L d 130 0 [.ref 65, .int 78, .int (-1), .int (-1), .null] [] (S, I, J, R, c) (Kc xs L (d + 1) 135 185 [.ref 65, .int x1, .null] [] Q)) : X xs L (d + 1) 135 177 [.ref 65, .int x1, .null] [] (S, I, J, R, c) Q := by
  refine X_aload_n (q := 0) (show decode (mB 135) 177 = .ok (.aload_n 0, 1) by decide +kernel) (pc' := 178) rfl rfl rfl ?_
  refine X_bipush (v := 78) (show decode (mB 135) 178 = .ok (.bipush 78, 2) by decide +kernel) (pc' := 180) rfl (by decide +kernel) ?_
  refine X_iconst (v := (-1)) (show decode (mB 135) 180 = .ok (.iconst (-1), 1) by decide +kernel) (pc' := 181) rfl rfl ?_
  refine X_iconst (v := (-1)) (show decode (mB 135) 181 = .ok (.iconst (-1), 1) by decide +kernel) (pc' := 182) rfl rfl ?_
  exact X_callV (y := 130) (n := 3) (st := [.int (-1), .int (-1), .int 78, .ref 65]) (as := [.ref 65, .int 78, .int (-1), .int (-1)]) (rest := []) (ls0 := [.ref 65, .int 78, .int (-1), .int (-1), .null]) (ci := 13) (show decode (mB 135) 182 = .ok (.invokevirtual 156, 3) by decide +kernel) (pc' := 185) rfl (by decide +kernel) (by decide +kernel) rfl (ls_65 hL) (by decide +kernel) rfl rfl rfl rfl rfl k
set_option maxRecDepth 4000 in
theorem b_X14_atom_185 {xs : Nat → Int32} {L d : Nat} {S : Nat → Shp} {I : Nat → Nat → Int32} {J : Nat → Nat → Int64} {R : Nat → Nat → Nat} {c : Nat × Nat} {Q : Option (Option Value) → MH → Prop} {x1 sx0 : Int32} {q_65_17 : Nat} (hL : Lay S R) (hq_65_17 : R 65 17 = q_65_17) (h_q_65_17 : LyTr S R q_65_17) (hb202 : inb (I 65 7) 2001 = true) (hb203 : inb sx0 2000 = true) (hb220 : inb (I 65 7) 2001 = true) (hb221 : inb sx0 2000 = true) (k : X xs L (d + 1) 135 237 [.ref 65, .int x1, .int sx0] [] (S, (u2 I (q_65_17 + 5) sx0.toNatClampNeg (I 69 (I 65 7).toNatClampNeg)), (u2 J (q_65_17 + 4) sx0.toNatClampNeg (J 68 (I 65 7).toNatClampNeg)), R, c) Q) : X xs L (d + 1) 135 185 [.ref 65, .int x1, .null] [.int sx0] (S, I, J, R, c) Q := by
  refine X_istore_n (q := 2) (ls' := [.ref 65, .int x1, .int sx0]) (show decode (mB 135) 185 = .ok (.istore_n 2, 1) by decide +kernel) (pc' := 186) rfl rfl rfl ?_
  refine X_aload_n (q := 0) (show decode (mB 135) 186 = .ok (.aload_n 0, 1) by decide +kernel) (pc' := 187) rfl rfl rfl ?_
  refine X_getR (ci := 13) (f := 17) (q := q_65_17) (show decode (mB 135) 187 = .ok (.getfield 138, 3) by decide +kernel) (pc' := 190) rfl (ls_65 hL) (by decide +kernel) rfl hq_65_17 ?_
  refine X_getR (ci := 12) (f := 3) (q := (q_65_17 + 4)) (show decode (mB 135) 190 = .ok (.getfield 182, 3) by decide +kernel) (pc' := 193) rfl h_q_65_17.s0 (by decide +kernel) rfl h_q_65_17.r0_3 ?_
  refine X_iload_n (q := 2) (show decode (mB 135) 193 = .ok (.iload_n 2, 1) by decide +kernel) (pc' := 194) rfl rfl rfl ?_
  refine X_aload_n (q := 0) (show decode (mB 135) 194 = .ok (.aload_n 0, 1) by decide +kernel) (pc' := 195) rfl rfl rfl ?_
  refine X_getR (ci := 13) (f := 3) (q := 68) (show decode (mB 135) 195 = .ok (.getfield 17, 3) by decide +kernel) (pc' := 198) rfl (ls_65 hL) (by decide +kernel) rfl (lr_65_3 hL) ?_
  refine X_aload_n (q := 0) (show decode (mB 135) 198 = .ok (.aload_n 0, 1) by decide +kernel) (pc' := 199) rfl rfl rfl ?_
  refine X_getI (ci := 13) (f := 7) (x := I 65 7) (show decode (mB 135) 199 = .ok (.getfield 122, 3) by decide +kernel) (pc' := 202) rfl (ls_65 hL) (by decide +kernel) rfl rfl ?_
  refine X_laload (w := J 68 (I 65 7).toNatClampNeg) (show decode (mB 135) 202 = .ok (.laload, 1) by decide +kernel) (pc' := 203) rfl (ls_68 hL) hb202 rfl ?_
  refine X_lastore (show decode (mB 135) 203 = .ok (.lastore, 1) by decide +kernel) (pc' := 204) rfl h_q_65_17.s4 hb203 ?_
  refine X_aload_n (q := 0) (show decode (mB 135) 204 = .ok (.aload_n 0, 1) by decide +kernel) (pc' := 205) rfl rfl rfl ?_
  refine X_getR (ci := 13) (f := 17) (q := q_65_17) (show decode (mB 135) 205 = .ok (.getfield 138, 3) by decide +kernel) (pc' := 208) rfl (ls_65 hL) (by decide +kernel) rfl hq_65_17 ?_
  refine X_getR (ci := 12) (f := 4) (q := (q_65_17 + 5)) (show decode (mB 135) 208 = .ok (.getfield 185, 3) by decide +kernel) (pc' := 211) rfl h_q_65_17.s0 (by decide +kernel) rfl h_q_65_17.r0_4 ?_
  refine X_iload_n (q := 2) (show decode (mB 135) 211 = .ok (.iload_n 2, 1) by decide +kernel) (pc' := 212) rfl rfl rfl ?_
  refine X_aload_n (q := 0) (show decode (mB 135) 212 = .ok (.aload_n 0, 1) by decide +kernel) (pc' := 213) rfl rfl rfl ?_
  refine X_getR (ci := 13) (f := 4) (q := 69) (show decode (mB 135) 213 = .ok (.getfield 21, 3) by decide +kernel) (pc' := 216) rfl (ls_65 hL) (by decide +kernel) rfl (lr_65_4 hL) ?_
  refine X_aload_n (q := 0) (show decode (mB 135) 216 = .ok (.aload_n 0, 1) by decide +kernel) (pc' := 217) rfl rfl rfl ?_
  refine X_getI (ci := 13) (f := 7) (x := I 65 7) (show decode (mB 135) 217 = .ok (.getfield 122, 3) by decide +kernel) (pc' := 220) rfl (ls_65 hL) (by decide +kernel) rfl rfl ?_
  refine X_iaload (w := I 69 (I 65 7).toNatClampNeg) (show decode (mB 135) 220 = .ok (.iaload, 1) by decide +kernel) (pc' := 221) rfl (ls_69 hL) hb220 rfl ?_
  refine X_iastore (show decode (mB 135) 221 = .ok (.iastore, 1) by decide +kernel) (pc' := 222) rfl h_q_65_17.s5 hb221 ?_
  refine X_goto (tgt := 237) (show decode (mB 135) 222 = .ok (.goto 15, 3) by decide +kernel) rfl ?_
  exact k
set_option maxRecDepth 4000 in
theorem b_X14_atom_225 {xs : Nat → Int32} {L d : Nat} {S : Nat → Shp} {I : Nat → Nat → Int32} {J : Nat → Nat → Int64} {R : Nat → Nat → Nat} {c : Nat × Nat} {Q : Option (Option Value) → MH → Prop} {x1 : Int32} (hL : Lay S R)  (k : X xs L d 136 0 [.ref 65, .null] [] (S, I, J, R, c) (Kt xs L (d + 1) 135 232 [.ref 65, .int x1, .null] [.int 86, .ref 65] Q)) : X xs L (d + 1) 135 225 [.ref 65, .int x1, .null] [] (S, I, J, R, c) Q := by
  refine X_aload_n (q := 0) (show decode (mB 135) 225 = .ok (.aload_n 0, 1) by decide +kernel) (pc' := 226) rfl rfl rfl ?_
  refine X_bipush (v := 86) (show decode (mB 135) 226 = .ok (.bipush 86, 2) by decide +kernel) (pc' := 228) rfl (by decide +kernel) ?_
  refine X_aload_n (q := 0) (show decode (mB 135) 228 = .ok (.aload_n 0, 1) by decide +kernel) (pc' := 229) rfl rfl rfl ?_
  exact X_callT (y := 136) (n := 0) (st := [.ref 65, .int 86, .ref 65]) (as := [.ref 65]) (rest := [.int 86, .ref 65]) (ls0 := [.ref 65, .null]) (ci := 13) (show decode (mB 135) 229 = .ok (.invokevirtual 188, 3) by decide +kernel) (pc' := 232) rfl (by decide +kernel) (by decide +kernel) rfl (ls_65 hL) (by decide +kernel) rfl rfl rfl rfl rfl (by decide +kernel) (by decide +kernel) k
set_option maxRecDepth 4000 in
theorem b_X14_atom_232 {xs : Nat → Int32} {L d : Nat} {S : Nat → Shp} {I : Nat → Nat → Int32} {J : Nat → Nat → Int64} {R : Nat → Nat → Nat} {c : Nat × Nat} {Q : Option (Option Value) → MH → Prop} {x1 sx1 sx2 : Int32} (hL : Lay S R)  (k : X xs L d 130 0 [.ref 65, .int sx1, .int sx2, .int (-1), .null] [] (S, I, J, R, c) (Kc xs L (d + 1) 135 236 [.ref 65, .int x1, .null] [] Q)) : X xs L (d + 1) 135 232 [.ref 65, .int x1, .null] [.int sx2, .int sx1, .ref 65] (S, I, J, R, c) Q := by
  refine X_iconst (v := (-1)) (show decode (mB 135) 232 = .ok (.iconst (-1), 1) by decide +kernel) (pc' := 233) rfl rfl ?_
  exact X_callV (y := 130) (n := 3) (st := [.int (-1), .int sx2, .int sx1, .ref 65]) (as := [.ref 65, .int sx1, .int sx2, .int (-1)]) (rest := []) (ls0 := [.ref 65, .int sx1, .int sx2, .int (-1), .null]) (ci := 13) (show decode (mB 135) 233 = .ok (.invokevirtual 156, 3) by decide +kernel) (pc' := 236) rfl (by decide +kernel) (by decide +kernel) rfl (ls_65 hL) (by decide +kernel) rfl rfl rfl rfl rfl k
set_option maxRecDepth 4000 in
theorem b_X14_atom_236 {xs : Nat → Int32} {L d : Nat} {S : Nat → Shp} {I : Nat → Nat → Int32} {J : Nat → Nat → Int64} {R : Nat → Nat → Nat} {c : Nat × Nat} {Q : Option (Option Value) → MH → Prop} {x1 sx0 : Int32}  (k : X xs L (d + 1) 135 237 [.ref 65, .int x1, .int sx0] [] (S, I, J, R, c) Q) : X xs L (d + 1) 135 236 [.ref 65, .int x1, .null] [.int sx0] (S, I, J, R, c) Q := by
  refine X_istore_n (q := 2) (ls' := [.ref 65, .int x1, .int sx0]) (show decode (mB 135) 236 = .ok (.istore_n 2, 1) by decide +kernel) (pc' := 237) rfl rfl rfl ?_
  exact k
set_option maxRecDepth 4000 in
theorem b_X14_atom_237 {xs : Nat → Int32} {L d : Nat} {S : Nat → Shp} {I : Nat → Nat → Int32} {J : Nat → Nat → Int64} {R : Nat → Nat → Nat} {c : Nat × Nat} {Q : Option (Option Value) → MH → Prop} {x1 x2 : Int32} (hL : Lay S R)  (k : Q (some (some (.int x2))) (S, (u2 I 65 7 ((I 65 7) + 1)), J, R, c)) : X xs L (d + 1) 135 237 [.ref 65, .int x1, .int x2] [] (S, I, J, R, c) Q := by
  refine X_aload_n (q := 0) (show decode (mB 135) 237 = .ok (.aload_n 0, 1) by decide +kernel) (pc' := 238) rfl rfl rfl ?_
  refine X_dup (show decode (mB 135) 238 = .ok (.dup, 1) by decide +kernel) (pc' := 239) rfl rfl ?_
  refine X_getI (ci := 13) (f := 7) (x := I 65 7) (show decode (mB 135) 239 = .ok (.getfield 122, 3) by decide +kernel) (pc' := 242) rfl (ls_65 hL) (by decide +kernel) rfl rfl ?_
  refine X_iconst (v := 1) (show decode (mB 135) 242 = .ok (.iconst 1, 1) by decide +kernel) (pc' := 243) rfl rfl ?_
  refine X_iadd (show decode (mB 135) 243 = .ok (.iadd, 1) by decide +kernel) (pc' := 244) rfl ?_
  refine X_putI (ci := 13) (f := 7) (show decode (mB 135) 244 = .ok (.putfield 122, 3) by decide +kernel) (pc' := 247) rfl (ls_65 hL) (by decide +kernel) (by decide +kernel) rfl ?_
  refine X_iload_n (q := 2) (show decode (mB 135) 247 = .ok (.iload_n 2, 1) by decide +kernel) (pc' := 248) rfl rfl rfl ?_
  exact X_ireturn (ty := .int) (show decode (mB 135) 248 = .ok (.ireturn, 1) by decide +kernel) (by decide +kernel) rfl k
set_option maxRecDepth 4000 in
theorem b_X14_variable_0 {xs : Nat → Int32} {L d : Nat} {S : Nat → Shp} {I : Nat → Nat → Int32} {J : Nat → Nat → Int64} {R : Nat → Nat → Nat} {c : Nat × Nat} {Q : Option (Option Value) → MH → Prop}   (k : X xs L (d + 1) 136 2 [.ref 65, .int 0] [] (S, I, J, R, c) Q) : X xs L (d + 1) 136 0 [.ref 65, .null] [] (S, I, J, R, c) Q := by
  refine X_iconst (v := 0) (show decode (mB 136) 0 = .ok (.iconst 0, 1) by decide +kernel) (pc' := 1) rfl rfl ?_
  refine X_istore_n (q := 1) (ls' := [.ref 65, .int 0]) (show decode (mB 136) 1 = .ok (.istore_n 1, 1) by decide +kernel) (pc' := 2) rfl rfl rfl ?_
  exact k
set_option maxRecDepth 4000 in
theorem b_X14_variable_2 {xs : Nat → Int32} {L d : Nat} {S : Nat → Shp} {I : Nat → Nat → Int32} {J : Nat → Nat → Int64} {R : Nat → Nat → Nat} {c : Nat × Nat} {Q : Option (Option Value) → MH → Prop} {x1 : Int32} {q_65_19 : Nat} (hL : Lay S R) (hq_65_19 : R 65 19 = q_65_19) (h_q_65_19 : LyCs S R q_65_19) (kt : (I q_65_19 8) ≤ x1 → X xs L (d + 1) 136 43 [.ref 65, .int x1] [] (S, I, J, R, c) Q) (kf : ¬ ((I q_65_19 8) ≤ x1) → X xs L (d + 1) 136 13 [.ref 65, .int x1] [] (S, I, J, R, c) Q) : X xs L (d + 1) 136 2 [.ref 65, .int x1] [] (S, I, J, R, c) Q := by
  refine X_iload_n (q := 1) (show decode (mB 136) 2 = .ok (.iload_n 1, 1) by decide +kernel) (pc' := 3) rfl rfl rfl ?_
  refine X_aload_n (q := 0) (show decode (mB 136) 3 = .ok (.aload_n 0, 1) by decide +kernel) (pc' := 4) rfl rfl rfl ?_
  refine X_getR (ci := 13) (f := 19) (q := q_65_19) (show decode (mB 136) 4 = .ok (.getfield 192, 3) by decide +kernel) (pc' := 7) rfl (ls_65 hL) (by decide +kernel) rfl hq_65_19 ?_
  refine X_getI (ci := 10) (f := 8) (x := I q_65_19 8) (show decode (mB 136) 7 = .ok (.getfield 195, 3) by decide +kernel) (pc' := 10) rfl h_q_65_19.s0 (by decide +kernel) rfl rfl ?_
  exact X_icmp_ge (tgt := 43) (show decode (mB 136) 10 = .ok (.if_icmp .ge 33, 3) by decide +kernel) rfl (pc' := 13) rfl kt kf
set_option maxRecDepth 4000 in
theorem b_X14_variable_13 {xs : Nat → Int32} {L d : Nat} {S : Nat → Shp} {I : Nat → Nat → Int32} {J : Nat → Nat → Int64} {R : Nat → Nat → Nat} {c : Nat × Nat} {Q : Option (Option Value) → MH → Prop} {x1 : Int32} {q_65_19 : Nat} (hL : Lay S R) (hq_65_19 : R 65 19 = q_65_19) (h_q_65_19 : LyCs S R q_65_19) (hb21 : inb x1 9 = true) (hb30 : inb (I 65 7) 2001 = true) (kt : ¬ (lg_cmp (J (q_65_19 + 6) x1.toNatClampNeg) (J 68 (I 65 7).toNatClampNeg)) = 0 → X xs L (d + 1) 136 37 [.ref 65, .int x1] [] (S, I, J, R, c) Q) (kf : ¬ (¬ (lg_cmp (J (q_65_19 + 6) x1.toNatClampNeg) (J 68 (I 65 7).toNatClampNeg)) = 0) → X xs L (d + 1) 136 35 [.ref 65, .int x1] [] (S, I, J, R, c) Q) : X xs L (d + 1) 136 13 [.ref 65, .int x1] [] (S, I, J, R, c) Q := by
  refine X_aload_n (q := 0) (show decode (mB 136) 13 = .ok (.aload_n 0, 1) by decide +kernel) (pc' := 14) rfl rfl rfl ?_
  refine X_getR (ci := 13) (f := 19) (q := q_65_19) (show decode (mB 136) 14 = .ok (.getfield 192, 3) by decide +kernel) (pc' := 17) rfl (ls_65 hL) (by decide +kernel) rfl hq_65_19 ?_
  refine X_getR (ci := 10) (f := 5) (q := (q_65_19 + 6)) (show decode (mB 136) 17 = .ok (.getfield 198, 3) by decide +kernel) (pc' := 20) rfl h_q_65_19.s0 (by decide +kernel) rfl h_q_65_19.r0_5 ?_
  refine X_iload_n (q := 1) (show decode (mB 136) 20 = .ok (.iload_n 1, 1) by decide +kernel) (pc' := 21) rfl rfl rfl ?_
  refine X_laload (w := J (q_65_19 + 6) x1.toNatClampNeg) (show decode (mB 136) 21 = .ok (.laload, 1) by decide +kernel) (pc' := 22) rfl h_q_65_19.s6 hb21 rfl ?_
  refine X_aload_n (q := 0) (show decode (mB 136) 22 = .ok (.aload_n 0, 1) by decide +kernel) (pc' := 23) rfl rfl rfl ?_
  refine X_getR (ci := 13) (f := 3) (q := 68) (show decode (mB 136) 23 = .ok (.getfield 17, 3) by decide +kernel) (pc' := 26) rfl (ls_65 hL) (by decide +kernel) rfl (lr_65_3 hL) ?_
  refine X_aload_n (q := 0) (show decode (mB 136) 26 = .ok (.aload_n 0, 1) by decide +kernel) (pc' := 27) rfl rfl rfl ?_
  refine X_getI (ci := 13) (f := 7) (x := I 65 7) (show decode (mB 136) 27 = .ok (.getfield 122, 3) by decide +kernel) (pc' := 30) rfl (ls_65 hL) (by decide +kernel) rfl rfl ?_
  refine X_laload (w := J 68 (I 65 7).toNatClampNeg) (show decode (mB 136) 30 = .ok (.laload, 1) by decide +kernel) (pc' := 31) rfl (ls_68 hL) hb30 rfl ?_
  refine X_lcmp (show decode (mB 136) 31 = .ok (.lcmp, 1) by decide +kernel) (pc' := 32) rfl ?_
  exact X_if_ne (tgt := 37) (show decode (mB 136) 32 = .ok (.ifCond .ne 5, 3) by decide +kernel) rfl (pc' := 35) rfl kt kf
set_option maxRecDepth 4000 in
theorem b_X14_variable_35 {xs : Nat → Int32} {L d : Nat} {S : Nat → Shp} {I : Nat → Nat → Int32} {J : Nat → Nat → Int64} {R : Nat → Nat → Nat} {c : Nat × Nat} {Q : Option (Option Value) → MH → Prop} {x1 : Int32}  (k : Q (some (some (.int x1))) (S, I, J, R, c)) : X xs L (d + 1) 136 35 [.ref 65, .int x1] [] (S, I, J, R, c) Q := by
  refine X_iload_n (q := 1) (show decode (mB 136) 35 = .ok (.iload_n 1, 1) by decide +kernel) (pc' := 36) rfl rfl rfl ?_
  exact X_ireturn (ty := .int) (show decode (mB 136) 36 = .ok (.ireturn, 1) by decide +kernel) (by decide +kernel) rfl k
set_option maxRecDepth 4000 in
theorem b_X14_variable_37 {xs : Nat → Int32} {L d : Nat} {S : Nat → Shp} {I : Nat → Nat → Int32} {J : Nat → Nat → Int64} {R : Nat → Nat → Nat} {c : Nat × Nat} {Q : Option (Option Value) → MH → Prop} {x1 : Int32}  (k : X xs L (d + 1) 136 2 [.ref 65, .int (x1 + 1)] [] (S, I, J, R, c) Q) : X xs L (d + 1) 136 37 [.ref 65, .int x1] [] (S, I, J, R, c) Q := by
  refine X_iinc (q := 1) (v := x1 + 1) (ls' := [.ref 65, .int (x1 + 1)]) (show decode (mB 136) 37 = .ok (.iinc 1 1, 3) by decide +kernel) (pc' := 40) rfl rfl rfl rfl ?_
  refine X_goto (tgt := 2) (show decode (mB 136) 40 = .ok (.goto (-38), 3) by decide +kernel) rfl ?_
  exact k
set_option maxRecDepth 4000 in
theorem b_X14_variable_43 {xs : Nat → Int32} {L d : Nat} {S : Nat → Shp} {I : Nat → Nat → Int32} {J : Nat → Nat → Int64} {R : Nat → Nat → Nat} {c : Nat × Nat} {Q : Option (Option Value) → MH → Prop} {x1 : Int32} {q_65_19 : Nat} (hL : Lay S R) (hq_65_19 : R 65 19 = q_65_19) (h_q_65_19 : LyCs S R q_65_19) (kt : 9 ≤ (I q_65_19 8) → X xs L (d + 1) 136 60 [.ref 65, .int x1] [.ref 65] (S, I, J, R, c) Q) (kf : ¬ (9 ≤ (I q_65_19 8)) → X xs L (d + 1) 136 56 [.ref 65, .int x1] [.ref 65] (S, I, J, R, c) Q) : X xs L (d + 1) 136 43 [.ref 65, .int x1] [] (S, I, J, R, c) Q := by
  refine X_aload_n (q := 0) (show decode (mB 136) 43 = .ok (.aload_n 0, 1) by decide +kernel) (pc' := 44) rfl rfl rfl ?_
  refine X_aload_n (q := 0) (show decode (mB 136) 44 = .ok (.aload_n 0, 1) by decide +kernel) (pc' := 45) rfl rfl rfl ?_
  refine X_getR (ci := 13) (f := 19) (q := q_65_19) (show decode (mB 136) 45 = .ok (.getfield 192, 3) by decide +kernel) (pc' := 48) rfl (ls_65 hL) (by decide +kernel) rfl hq_65_19 ?_
  refine X_getI (ci := 10) (f := 8) (x := I q_65_19 8) (show decode (mB 136) 48 = .ok (.getfield 195, 3) by decide +kernel) (pc' := 51) rfl h_q_65_19.s0 (by decide +kernel) rfl rfl ?_
  refine X_bipush (v := 9) (show decode (mB 136) 51 = .ok (.bipush 9, 2) by decide +kernel) (pc' := 53) rfl (by decide +kernel) ?_
  exact X_icmp_ge (tgt := 60) (show decode (mB 136) 53 = .ok (.if_icmp .ge 7, 3) by decide +kernel) rfl (pc' := 56) rfl kt kf
set_option maxRecDepth 4000 in
theorem b_X14_variable_56 {xs : Nat → Int32} {L d : Nat} {S : Nat → Shp} {I : Nat → Nat → Int32} {J : Nat → Nat → Int64} {R : Nat → Nat → Nat} {c : Nat × Nat} {Q : Option (Option Value) → MH → Prop} {x1 : Int32}  (k : X xs L (d + 1) 136 61 [.ref 65, .int x1] [.int 1, .ref 65] (S, I, J, R, c) Q) : X xs L (d + 1) 136 56 [.ref 65, .int x1] [.ref 65] (S, I, J, R, c) Q := by
  refine X_iconst (v := 1) (show decode (mB 136) 56 = .ok (.iconst 1, 1) by decide +kernel) (pc' := 57) rfl rfl ?_
  refine X_goto (tgt := 61) (show decode (mB 136) 57 = .ok (.goto 4, 3) by decide +kernel) rfl ?_
  exact k
set_option maxRecDepth 4000 in
theorem b_X14_variable_60 {xs : Nat → Int32} {L d : Nat} {S : Nat → Shp} {I : Nat → Nat → Int32} {J : Nat → Nat → Int64} {R : Nat → Nat → Nat} {c : Nat × Nat} {Q : Option (Option Value) → MH → Prop} {x1 : Int32}  (k : X xs L (d + 1) 136 61 [.ref 65, .int x1] [.int 0, .ref 65] (S, I, J, R, c) Q) : X xs L (d + 1) 136 60 [.ref 65, .int x1] [.ref 65] (S, I, J, R, c) Q := by
  refine X_iconst (v := 0) (show decode (mB 136) 60 = .ok (.iconst 0, 1) by decide +kernel) (pc' := 61) rfl rfl ?_
  exact k
set_option maxRecDepth 4000 in
theorem b_X14_variable_61 {xs : Nat → Int32} {L d : Nat} {S : Nat → Shp} {I : Nat → Nat → Int32} {J : Nat → Nat → Int64} {R : Nat → Nat → Nat} {c : Nat × Nat} {Q : Option (Option Value) → MH → Prop} {x1 sx1 : Int32} (hL : Lay S R)  (k : X xs L d 128 0 [.ref 65, .int sx1] [] (S, I, J, R, c) (Kt xs L (d + 1) 136 64 [.ref 65, .int x1] [] Q)) : X xs L (d + 1) 136 61 [.ref 65, .int x1] [.int sx1, .ref 65] (S, I, J, R, c) Q := by
  exact X_callT (y := 128) (n := 1) (st := [.int sx1, .ref 65]) (as := [.ref 65, .int sx1]) (rest := []) (ls0 := [.ref 65, .int sx1]) (ci := 13) (show decode (mB 136) 61 = .ok (.invokevirtual 134, 3) by decide +kernel) (pc' := 64) rfl (by decide +kernel) (by decide +kernel) rfl (ls_65 hL) (by decide +kernel) rfl rfl rfl rfl rfl (by decide +kernel) (by decide +kernel) k
set_option maxRecDepth 4000 in
theorem b_X14_variable_64 {xs : Nat → Int32} {L d : Nat} {S : Nat → Shp} {I : Nat → Nat → Int32} {J : Nat → Nat → Int64} {R : Nat → Nat → Nat} {c : Nat × Nat} {Q : Option (Option Value) → MH → Prop} {x1 : Int32} {q_65_19 : Nat} (hL : Lay S R) (hq_65_19 : R 65 19 = q_65_19) (h_q_65_19 : LyCs S R q_65_19) (hb86 : inb (I 65 7) 2001 = true) (hb87 : inb (I q_65_19 8) 9 = true) (k : Q (some (some (.int (((I q_65_19 8) + 1) - 1)))) (S, (u2 I q_65_19 8 ((I q_65_19 8) + 1)), (u2 J (q_65_19 + 6) ((I q_65_19 8).toNatClampNeg) (J 68 (I 65 7).toNatClampNeg)), R, c)) : X xs L (d + 1) 136 64 [.ref 65, .int x1] [] (S, I, J, R, c) Q := by
  refine X_aload_n (q := 0) (show decode (mB 136) 64 = .ok (.aload_n 0, 1) by decide +kernel) (pc' := 65) rfl rfl rfl ?_
  refine X_getR (ci := 13) (f := 19) (q := q_65_19) (show decode (mB 136) 65 = .ok (.getfield 192, 3) by decide +kernel) (pc' := 68) rfl (ls_65 hL) (by decide +kernel) rfl hq_65_19 ?_
  refine X_getR (ci := 10) (f := 5) (q := (q_65_19 + 6)) (show decode (mB 136) 68 = .ok (.getfield 198, 3) by decide +kernel) (pc' := 71) rfl h_q_65_19.s0 (by decide +kernel) rfl h_q_65_19.r0_5 ?_
  refine X_aload_n (q := 0) (show decode (mB 136) 71 = .ok (.aload_n 0, 1) by decide +kernel) (pc' := 72) rfl rfl rfl ?_
  refine X_getR (ci := 13) (f := 19) (q := q_65_19) (show decode (mB 136) 72 = .ok (.getfield 192, 3) by decide +kernel) (pc' := 75) rfl (ls_65 hL) (by decide +kernel) rfl hq_65_19 ?_
  refine X_getI (ci := 10) (f := 8) (x := I q_65_19 8) (show decode (mB 136) 75 = .ok (.getfield 195, 3) by decide +kernel) (pc' := 78) rfl h_q_65_19.s0 (by decide +kernel) rfl rfl ?_
  refine X_aload_n (q := 0) (show decode (mB 136) 78 = .ok (.aload_n 0, 1) by decide +kernel) (pc' := 79) rfl rfl rfl ?_
  refine X_getR (ci := 13) (f := 3) (q := 68) (show decode (mB 136) 79 = .ok (.getfield 17, 3) by decide +kernel) (pc' := 82) rfl (ls_65 hL) (by decide +kernel) rfl (lr_65_3 hL) ?_
  refine X_aload_n (q := 0) (show decode (mB 136) 82 = .ok (.aload_n 0, 1) by decide +kernel) (pc' := 83) rfl rfl rfl ?_
  refine X_getI (ci := 13) (f := 7) (x := I 65 7) (show decode (mB 136) 83 = .ok (.getfield 122, 3) by decide +kernel) (pc' := 86) rfl (ls_65 hL) (by decide +kernel) rfl rfl ?_
  refine X_laload (w := J 68 (I 65 7).toNatClampNeg) (show decode (mB 136) 86 = .ok (.laload, 1) by decide +kernel) (pc' := 87) rfl (ls_68 hL) hb86 rfl ?_
  refine X_lastore (show decode (mB 136) 87 = .ok (.lastore, 1) by decide +kernel) (pc' := 88) rfl h_q_65_19.s6 hb87 ?_
  refine X_aload_n (q := 0) (show decode (mB 136) 88 = .ok (.aload_n 0, 1) by decide +kernel) (pc' := 89) rfl rfl rfl ?_
  refine X_getR (ci := 13) (f := 19) (q := q_65_19) (show decode (mB 136) 89 = .ok (.getfield 192, 3) by decide +kernel) (pc' := 92) rfl (ls_65 hL) (by decide +kernel) rfl hq_65_19 ?_
  refine X_dup (show decode (mB 136) 92 = .ok (.dup, 1) by decide +kernel) (pc' := 93) rfl rfl ?_
  refine X_getI (ci := 10) (f := 8) (x := I q_65_19 8) (show decode (mB 136) 93 = .ok (.getfield 195, 3) by decide +kernel) (pc' := 96) rfl h_q_65_19.s0 (by decide +kernel) rfl rfl ?_
  refine X_iconst (v := 1) (show decode (mB 136) 96 = .ok (.iconst 1, 1) by decide +kernel) (pc' := 97) rfl rfl ?_
  refine X_iadd (show decode (mB 136) 97 = .ok (.iadd, 1) by decide +kernel) (pc' := 98) rfl ?_
  refine X_putI (ci := 10) (f := 8) (show decode (mB 136) 98 = .ok (.putfield 195, 3) by decide +kernel) (pc' := 101) rfl h_q_65_19.s0 (by decide +kernel) (by decide +kernel) rfl ?_
  refine X_aload_n (q := 0) (show decode (mB 136) 101 = .ok (.aload_n 0, 1) by decide +kernel) (pc' := 102) rfl rfl rfl ?_
  refine X_getR (ci := 13) (f := 19) (q := q_65_19) (show decode (mB 136) 102 = .ok (.getfield 192, 3) by decide +kernel) (pc' := 105) rfl (ls_65 hL) (by decide +kernel) rfl hq_65_19 ?_
  refine X_getI (ci := 10) (f := 8) (x := (I q_65_19 8) + 1) (show decode (mB 136) 105 = .ok (.getfield 195, 3) by decide +kernel) (pc' := 108) rfl h_q_65_19.s0 (by decide +kernel) rfl (by simp [u2, u1]) ?_
  refine X_iconst (v := 1) (show decode (mB 136) 108 = .ok (.iconst 1, 1) by decide +kernel) (pc' := 109) rfl rfl ?_
  refine X_isub (show decode (mB 136) 109 = .ok (.isub, 1) by decide +kernel) (pc' := 110) rfl ?_
  exact X_ireturn (ty := .int) (show decode (mB 136) 110 = .ok (.ireturn, 1) by decide +kernel) (by decide +kernel) rfl k
set_option maxRecDepth 4000 in
theorem b_X14_find_0 {xs : Nat → Int32} {L d : Nat} {S : Nat → Shp} {I : Nat → Nat → Int32} {J : Nat → Nat → Int64} {R : Nat → Nat → Nat} {c : Nat × Nat} {Q : Option (Option Value) → MH → Prop} {r0 : Nat} {y1 : Int64}  (k : X xs L d 137 2 [.ref r0, .long y1, .null, .int 0] [] (S, I, J, R, c) Q) : X xs L d 137 0 [.ref r0, .long y1, .null, .null] [] (S, I, J, R, c) Q := by
  refine X_iconst (v := 0) (show decode (mB 137) 0 = .ok (.iconst 0, 1) by decide +kernel) (pc' := 1) rfl rfl ?_
  refine X_istore_n (q := 3) (ls' := [.ref r0, .long y1, .null, .int 0]) (show decode (mB 137) 1 = .ok (.istore_n 3, 1) by decide +kernel) (pc' := 2) rfl rfl rfl ?_
  exact k
set_option maxRecDepth 4000 in
theorem b_X14_find_2 {xs : Nat → Int32} {L d : Nat} {S : Nat → Shp} {I : Nat → Nat → Int32} {J : Nat → Nat → Int64} {R : Nat → Nat → Nat} {c : Nat × Nat} {Q : Option (Option Value) → MH → Prop} {r0 : Nat} {y1 : Int64} {x3 : Int32} (h_r0 : LyNo S R r0) (kt : (I r0 4) ≤ x3 → X xs L d 137 29 [.ref r0, .long y1, .null, .int x3] [] (S, I, J, R, c) Q) (kf : ¬ ((I r0 4) ≤ x3) → X xs L d 137 10 [.ref r0, .long y1, .null, .int x3] [] (S, I, J, R, c) Q) : X xs L d 137 2 [.ref r0, .long y1, .null, .int x3] [] (S, I, J, R, c) Q := by
  refine X_iload_n (q := 3) (show decode (mB 137) 2 = .ok (.iload_n 3, 1) by decide +kernel) (pc' := 3) rfl rfl rfl ?_
  refine X_aload_n (q := 0) (show decode (mB 137) 3 = .ok (.aload_n 0, 1) by decide +kernel) (pc' := 4) rfl rfl rfl ?_
  refine X_getI (ci := 11) (f := 4) (x := I r0 4) (show decode (mB 137) 4 = .ok (.getfield 200, 3) by decide +kernel) (pc' := 7) rfl h_r0.s0 (by decide +kernel) rfl rfl ?_
  exact X_icmp_ge (tgt := 29) (show decode (mB 137) 7 = .ok (.if_icmp .ge 22, 3) by decide +kernel) rfl (pc' := 10) rfl kt kf
set_option maxRecDepth 4000 in
theorem b_X14_find_10 {xs : Nat → Int32} {L d : Nat} {S : Nat → Shp} {I : Nat → Nat → Int32} {J : Nat → Nat → Int64} {R : Nat → Nat → Nat} {c : Nat × Nat} {Q : Option (Option Value) → MH → Prop} {r0 : Nat} {y1 : Int64} {x3 : Int32} (h_r0 : LyNo S R r0) (hb15 : inb x3 40 = true) (kt : ¬ (lg_cmp (J (r0 + 1) x3.toNatClampNeg) y1) = 0 → X xs L d 137 23 [.ref r0, .long y1, .null, .int x3] [] (S, I, J, R, c) Q) (kf : ¬ (¬ (lg_cmp (J (r0 + 1) x3.toNatClampNeg) y1) = 0) → X xs L d 137 21 [.ref r0, .long y1, .null, .int x3] [] (S, I, J, R, c) Q) : X xs L d 137 10 [.ref r0, .long y1, .null, .int x3] [] (S, I, J, R, c) Q := by
  refine X_aload_n (q := 0) (show decode (mB 137) 10 = .ok (.aload_n 0, 1) by decide +kernel) (pc' := 11) rfl rfl rfl ?_
  refine X_getR (ci := 11) (f := 0) (q := (r0 + 1)) (show decode (mB 137) 11 = .ok (.getfield 201, 3) by decide +kernel) (pc' := 14) rfl h_r0.s0 (by decide +kernel) rfl h_r0.r0_0 ?_
  refine X_iload_n (q := 3) (show decode (mB 137) 14 = .ok (.iload_n 3, 1) by decide +kernel) (pc' := 15) rfl rfl rfl ?_
  refine X_laload (w := J (r0 + 1) x3.toNatClampNeg) (show decode (mB 137) 15 = .ok (.laload, 1) by decide +kernel) (pc' := 16) rfl h_r0.s1 hb15 rfl ?_
  refine X_lload_n (q := 1) (show decode (mB 137) 16 = .ok (.lload_n 1, 1) by decide +kernel) (pc' := 17) rfl rfl rfl ?_
  refine X_lcmp (show decode (mB 137) 17 = .ok (.lcmp, 1) by decide +kernel) (pc' := 18) rfl ?_
  exact X_if_ne (tgt := 23) (show decode (mB 137) 18 = .ok (.ifCond .ne 5, 3) by decide +kernel) rfl (pc' := 21) rfl kt kf
set_option maxRecDepth 4000 in
theorem b_X14_find_21 {xs : Nat → Int32} {L d : Nat} {S : Nat → Shp} {I : Nat → Nat → Int32} {J : Nat → Nat → Int64} {R : Nat → Nat → Nat} {c : Nat × Nat} {Q : Option (Option Value) → MH → Prop} {r0 : Nat} {y1 : Int64} {x3 : Int32}  (k : Q (some (some (.int x3))) (S, I, J, R, c)) : X xs L d 137 21 [.ref r0, .long y1, .null, .int x3] [] (S, I, J, R, c) Q := by
  refine X_iload_n (q := 3) (show decode (mB 137) 21 = .ok (.iload_n 3, 1) by decide +kernel) (pc' := 22) rfl rfl rfl ?_
  exact X_ireturn (ty := .int) (show decode (mB 137) 22 = .ok (.ireturn, 1) by decide +kernel) (by decide +kernel) rfl k
set_option maxRecDepth 4000 in
theorem b_X14_find_23 {xs : Nat → Int32} {L d : Nat} {S : Nat → Shp} {I : Nat → Nat → Int32} {J : Nat → Nat → Int64} {R : Nat → Nat → Nat} {c : Nat × Nat} {Q : Option (Option Value) → MH → Prop} {r0 : Nat} {y1 : Int64} {x3 : Int32}  (k : X xs L d 137 2 [.ref r0, .long y1, .null, .int (x3 + 1)] [] (S, I, J, R, c) Q) : X xs L d 137 23 [.ref r0, .long y1, .null, .int x3] [] (S, I, J, R, c) Q := by
  refine X_iinc (q := 3) (v := x3 + 1) (ls' := [.ref r0, .long y1, .null, .int (x3 + 1)]) (show decode (mB 137) 23 = .ok (.iinc 3 1, 3) by decide +kernel) (pc' := 26) rfl rfl rfl rfl ?_
  refine X_goto (tgt := 2) (show decode (mB 137) 26 = .ok (.goto (-24), 3) by decide +kernel) rfl ?_
  exact k
set_option maxRecDepth 4000 in
theorem b_X14_find_29 {xs : Nat → Int32} {L d : Nat} {S : Nat → Shp} {I : Nat → Nat → Int32} {J : Nat → Nat → Int64} {R : Nat → Nat → Nat} {c : Nat × Nat} {Q : Option (Option Value) → MH → Prop} {r0 : Nat} {y1 : Int64} {x3 : Int32}  (k : Q (some (some (.int (-1)))) (S, I, J, R, c)) : X xs L d 137 29 [.ref r0, .long y1, .null, .int x3] [] (S, I, J, R, c) Q := by
  refine X_iconst (v := (-1)) (show decode (mB 137) 29 = .ok (.iconst (-1), 1) by decide +kernel) (pc' := 30) rfl rfl ?_
  exact X_ireturn (ty := .int) (show decode (mB 137) 30 = .ok (.ireturn, 1) by decide +kernel) (by decide +kernel) rfl k
set_option maxRecDepth 4000 in
theorem b_X14_declare_0 {xs : Nat → Int32} {L d : Nat} {S : Nat → Shp} {I : Nat → Nat → Int32} {J : Nat → Nat → Int64} {R : Nat → Nat → Nat} {c : Nat × Nat} {Q : Option (Option Value) → MH → Prop} {x1 : Int32} (hL : Lay S R)  (k : X xs L d 127 0 [.ref 65, .int 1] [] (S, I, J, R, c) (Kc xs L (d + 1) 138 6 [.ref 65, .int x1, .null] [.ref 65] Q)) : X xs L (d + 1) 138 0 [.ref 65, .int x1, .null] [] (S, I, J, R, c) Q := by
  refine X_aload_n (q := 0) (show decode (mB 138) 0 = .ok (.aload_n 0, 1) by decide +kernel) (pc' := 1) rfl rfl rfl ?_
  refine X_aload_n (q := 0) (show decode (mB 138) 1 = .ok (.aload_n 0, 1) by decide +kernel) (pc' := 2) rfl rfl rfl ?_
  refine X_iconst (v := 1) (show decode (mB 138) 2 = .ok (.iconst 1, 1) by decide +kernel) (pc' := 3) rfl rfl ?_
  exact X_callV (y := 127) (n := 1) (st := [.int 1, .ref 65, .ref 65]) (as := [.ref 65, .int 1]) (rest := [.ref 65]) (ls0 := [.ref 65, .int 1]) (ci := 13) (show decode (mB 138) 3 = .ok (.invokevirtual 131, 3) by decide +kernel) (pc' := 6) rfl (by decide +kernel) (by decide +kernel) rfl (ls_65 hL) (by decide +kernel) rfl rfl rfl rfl rfl k
set_option maxRecDepth 4000 in
theorem b_X14_declare_6 {xs : Nat → Int32} {L d : Nat} {S : Nat → Shp} {I : Nat → Nat → Int32} {J : Nat → Nat → Int64} {R : Nat → Nat → Nat} {c : Nat × Nat} {Q : Option (Option Value) → MH → Prop} {x1 sx1 : Int32}  (kt : sx1 = 0 → X xs L (d + 1) 138 44 [.ref 65, .int x1, .null] [.ref 65] (S, I, J, R, c) Q) (kf : ¬ (sx1 = 0) → X xs L (d + 1) 138 9 [.ref 65, .int x1, .null] [.ref 65] (S, I, J, R, c) Q) : X xs L (d + 1) 138 6 [.ref 65, .int x1, .null] [.int sx1, .ref 65] (S, I, J, R, c) Q := by
  exact X_if_eq (tgt := 44) (show decode (mB 138) 6 = .ok (.ifCond .eq 38, 3) by decide +kernel) rfl (pc' := 9) rfl kt kf
set_option maxRecDepth 4000 in
theorem b_X14_declare_9 {xs : Nat → Int32} {L d : Nat} {S : Nat → Shp} {I : Nat → Nat → Int32} {J : Nat → Nat → Int64} {R : Nat → Nat → Nat} {c : Nat × Nat} {Q : Option (Option Value) → MH → Prop} {x1 : Int32} {q_65_18 : Nat} (hL : Lay S R) (hq_65_18 : R 65 18 = q_65_18) (h_q_65_18 : LyNo S R q_65_18) (kt : 40 ≤ (I q_65_18 4) → X xs L (d + 1) 138 44 [.ref 65, .int x1, .null] [.ref 65] (S, I, J, R, c) Q) (kf : ¬ (40 ≤ (I q_65_18 4)) → X xs L (d + 1) 138 21 [.ref 65, .int x1, .null] [.ref 65] (S, I, J, R, c) Q) : X xs L (d + 1) 138 9 [.ref 65, .int x1, .null] [.ref 65] (S, I, J, R, c) Q := by
  refine X_aload_n (q := 0) (show decode (mB 138) 9 = .ok (.aload_n 0, 1) by decide +kernel) (pc' := 10) rfl rfl rfl ?_
  refine X_getR (ci := 13) (f := 18) (q := q_65_18) (show decode (mB 138) 10 = .ok (.getfield 202, 3) by decide +kernel) (pc' := 13) rfl (ls_65 hL) (by decide +kernel) rfl hq_65_18 ?_
  refine X_getI (ci := 11) (f := 4) (x := I q_65_18 4) (show decode (mB 138) 13 = .ok (.getfield 200, 3) by decide +kernel) (pc' := 16) rfl h_q_65_18.s0 (by decide +kernel) rfl rfl ?_
  refine X_bipush (v := 40) (show decode (mB 138) 16 = .ok (.bipush 40, 2) by decide +kernel) (pc' := 18) rfl (by decide +kernel) ?_
  exact X_icmp_ge (tgt := 44) (show decode (mB 138) 18 = .ok (.if_icmp .ge 26, 3) by decide +kernel) rfl (pc' := 21) rfl kt kf
set_option maxRecDepth 4000 in
theorem b_X14_declare_21 {xs : Nat → Int32} {L d : Nat} {S : Nat → Shp} {I : Nat → Nat → Int32} {J : Nat → Nat → Int64} {R : Nat → Nat → Nat} {c : Nat × Nat} {Q : Option (Option Value) → MH → Prop} {x1 : Int32} {q_65_18 : Nat} (hL : Lay S R) (hq_65_18 : R 65 18 = q_65_18) (hb33 : inb (I 65 7) 2001 = true) (k : X xs L d 137 0 [.ref q_65_18, .long (J 68 (I 65 7).toNatClampNeg), .null, .null] [] (S, I, J, R, c) (Kc xs L (d + 1) 138 37 [.ref 65, .int x1, .null] [.ref 65] Q)) : X xs L (d + 1) 138 21 [.ref 65, .int x1, .null] [.ref 65] (S, I, J, R, c) Q := by
  refine X_aload_n (q := 0) (show decode (mB 138) 21 = .ok (.aload_n 0, 1) by decide +kernel) (pc' := 22) rfl rfl rfl ?_
  refine X_getR (ci := 13) (f := 18) (q := q_65_18) (show decode (mB 138) 22 = .ok (.getfield 202, 3) by decide +kernel) (pc' := 25) rfl (ls_65 hL) (by decide +kernel) rfl hq_65_18 ?_
  refine X_aload_n (q := 0) (show decode (mB 138) 25 = .ok (.aload_n 0, 1) by decide +kernel) (pc' := 26) rfl rfl rfl ?_
  refine X_getR (ci := 13) (f := 3) (q := 68) (show decode (mB 138) 26 = .ok (.getfield 17, 3) by decide +kernel) (pc' := 29) rfl (ls_65 hL) (by decide +kernel) rfl (lr_65_3 hL) ?_
  refine X_aload_n (q := 0) (show decode (mB 138) 29 = .ok (.aload_n 0, 1) by decide +kernel) (pc' := 30) rfl rfl rfl ?_
  refine X_getI (ci := 13) (f := 7) (x := I 65 7) (show decode (mB 138) 30 = .ok (.getfield 122, 3) by decide +kernel) (pc' := 33) rfl (ls_65 hL) (by decide +kernel) rfl rfl ?_
  refine X_laload (w := J 68 (I 65 7).toNatClampNeg) (show decode (mB 138) 33 = .ok (.laload, 1) by decide +kernel) (pc' := 34) rfl (ls_68 hL) hb33 rfl ?_
  exact X_callS (y := 137) (n := 2) (st := [.long (J 68 (I 65 7).toNatClampNeg), .ref q_65_18, .ref 65]) (as := [.ref q_65_18, .long (J 68 (I 65 7).toNatClampNeg)]) (rest := [.ref 65]) (ls0 := [.ref q_65_18, .long (J 68 (I 65 7).toNatClampNeg), .null, .null]) (show decode (mB 138) 34 = .ok (.invokestatic 205, 3) by decide +kernel) (pc' := 37) rfl (by decide +kernel) (by decide +kernel) rfl rfl rfl rfl rfl rfl rfl rfl k
set_option maxRecDepth 4000 in
theorem b_X14_declare_37 {xs : Nat → Int32} {L d : Nat} {S : Nat → Shp} {I : Nat → Nat → Int32} {J : Nat → Nat → Int64} {R : Nat → Nat → Nat} {c : Nat × Nat} {Q : Option (Option Value) → MH → Prop} {x1 sx1 : Int32}  (kt : 0 ≤ sx1 → X xs L (d + 1) 138 44 [.ref 65, .int x1, .null] [.ref 65] (S, I, J, R, c) Q) (kf : ¬ (0 ≤ sx1) → X xs L (d + 1) 138 40 [.ref 65, .int x1, .null] [.ref 65] (S, I, J, R, c) Q) : X xs L (d + 1) 138 37 [.ref 65, .int x1, .null] [.int sx1, .ref 65] (S, I, J, R, c) Q := by
  exact X_if_ge (tgt := 44) (show decode (mB 138) 37 = .ok (.ifCond .ge 7, 3) by decide +kernel) rfl (pc' := 40) rfl kt kf
set_option maxRecDepth 4000 in
theorem b_X14_declare_40 {xs : Nat → Int32} {L d : Nat} {S : Nat → Shp} {I : Nat → Nat → Int32} {J : Nat → Nat → Int64} {R : Nat → Nat → Nat} {c : Nat × Nat} {Q : Option (Option Value) → MH → Prop} {x1 : Int32}  (k : X xs L (d + 1) 138 45 [.ref 65, .int x1, .null] [.int 1, .ref 65] (S, I, J, R, c) Q) : X xs L (d + 1) 138 40 [.ref 65, .int x1, .null] [.ref 65] (S, I, J, R, c) Q := by
  refine X_iconst (v := 1) (show decode (mB 138) 40 = .ok (.iconst 1, 1) by decide +kernel) (pc' := 41) rfl rfl ?_
  refine X_goto (tgt := 45) (show decode (mB 138) 41 = .ok (.goto 4, 3) by decide +kernel) rfl ?_
  exact k
set_option maxRecDepth 4000 in
theorem b_X14_declare_44 {xs : Nat → Int32} {L d : Nat} {S : Nat → Shp} {I : Nat → Nat → Int32} {J : Nat → Nat → Int64} {R : Nat → Nat → Nat} {c : Nat × Nat} {Q : Option (Option Value) → MH → Prop} {x1 : Int32}  (k : X xs L (d + 1) 138 45 [.ref 65, .int x1, .null] [.int 0, .ref 65] (S, I, J, R, c) Q) : X xs L (d + 1) 138 44 [.ref 65, .int x1, .null] [.ref 65] (S, I, J, R, c) Q := by
  refine X_iconst (v := 0) (show decode (mB 138) 44 = .ok (.iconst 0, 1) by decide +kernel) (pc' := 45) rfl rfl ?_
  exact k
set_option maxRecDepth 4000 in
theorem b_X14_declare_45 {xs : Nat → Int32} {L d : Nat} {S : Nat → Shp} {I : Nat → Nat → Int32} {J : Nat → Nat → Int64} {R : Nat → Nat → Nat} {c : Nat × Nat} {Q : Option (Option Value) → MH → Prop} {x1 sx1 : Int32} (hL : Lay S R)  (k : X xs L d 128 0 [.ref 65, .int sx1] [] (S, I, J, R, c) (Kt xs L (d + 1) 138 48 [.ref 65, .int x1, .null] [] Q)) : X xs L (d + 1) 138 45 [.ref 65, .int x1, .null] [.int sx1, .ref 65] (S, I, J, R, c) Q := by
  exact X_callT (y := 128) (n := 1) (st := [.int sx1, .ref 65]) (as := [.ref 65, .int sx1]) (rest := []) (ls0 := [.ref 65, .int sx1]) (ci := 13) (show decode (mB 138) 45 = .ok (.invokevirtual 134, 3) by decide +kernel) (pc' := 48) rfl (by decide +kernel) (by decide +kernel) rfl (ls_65 hL) (by decide +kernel) rfl rfl rfl rfl rfl (by decide +kernel) (by decide +kernel) k
set_option maxRecDepth 4000 in
theorem b_X14_declare_48 {xs : Nat → Int32} {L d : Nat} {S : Nat → Shp} {I : Nat → Nat → Int32} {J : Nat → Nat → Int64} {R : Nat → Nat → Nat} {c : Nat × Nat} {Q : Option (Option Value) → MH → Prop} {x1 : Int32} {q_65_18 : Nat} (hL : Lay S R) (hq_65_18 : R 65 18 = q_65_18) (h_q_65_18 : LyNo S R q_65_18) (hb72 : inb (I 65 7) 2001 = true) (hb73 : inb (I q_65_18 4) 40 = true) (hb83 : inb (I q_65_18 4) 40 = true) (hb93 : inb (I q_65_18 4) 40 = true) (hn_65_q_65_18p3 : 65 ≠ (q_65_18 + 3)) (hn_65_q_65_18p2 : 65 ≠ (q_65_18 + 2)) (hb110 : inb (I 65 7) 2001 = true) (hn_69_q_65_18p3 : 69 ≠ (q_65_18 + 3)) (hn_69_q_65_18p2 : 69 ≠ (q_65_18 + 2)) (hb111 : inb (I q_65_18 4) 40 = true) (hn_65_q_65_18 : 65 ≠ q_65_18) (hn_65_q_65_18p4 : 65 ≠ (q_65_18 + 4)) (k : Q (some none) (S, (u2 (u2 (u2 (u2 (u2 I (q_65_18 + 2) ((I q_65_18 4).toNatClampNeg) x1) (q_65_18 + 3) ((I q_65_18 4).toNatClampNeg) (-1)) (q_65_18 + 4) ((I q_65_18 4).toNatClampNeg) (I 69 (I 65 7).toNatClampNeg)) q_65_18 4 ((I q_65_18 4) + 1)) 65 7 ((I 65 7) + 1)), (u2 J (q_65_18 + 1) ((I q_65_18 4).toNatClampNeg) (J 68 (I 65 7).toNatClampNeg)), R, c)) : X xs L (d + 1) 138 48 [.ref 65, .int x1, .null] [] (S, I, J, R, c) Q := by
  refine X_aload_n (q := 0) (show decode (mB 138) 48 = .ok (.aload_n 0, 1) by decide +kernel) (pc' := 49) rfl rfl rfl ?_
  refine X_getR (ci := 13) (f := 18) (q := q_65_18) (show decode (mB 138) 49 = .ok (.getfield 202, 3) by decide +kernel) (pc' := 52) rfl (ls_65 hL) (by decide +kernel) rfl hq_65_18 ?_
  refine X_getI (ci := 11) (f := 4) (x := I q_65_18 4) (show decode (mB 138) 52 = .ok (.getfield 200, 3) by decide +kernel) (pc' := 55) rfl h_q_65_18.s0 (by decide +kernel) rfl rfl ?_
  refine X_istore_n (q := 2) (ls' := [.ref 65, .int x1, .int (I q_65_18 4)]) (show decode (mB 138) 55 = .ok (.istore_n 2, 1) by decide +kernel) (pc' := 56) rfl rfl rfl ?_
  refine X_aload_n (q := 0) (show decode (mB 138) 56 = .ok (.aload_n 0, 1) by decide +kernel) (pc' := 57) rfl rfl rfl ?_
  refine X_getR (ci := 13) (f := 18) (q := q_65_18) (show decode (mB 138) 57 = .ok (.getfield 202, 3) by decide +kernel) (pc' := 60) rfl (ls_65 hL) (by decide +kernel) rfl hq_65_18 ?_
  refine X_getR (ci := 11) (f := 0) (q := (q_65_18 + 1)) (show decode (mB 138) 60 = .ok (.getfield 201, 3) by decide +kernel) (pc' := 63) rfl h_q_65_18.s0 (by decide +kernel) rfl h_q_65_18.r0_0 ?_
  refine X_iload_n (q := 2) (show decode (mB 138) 63 = .ok (.iload_n 2, 1) by decide +kernel) (pc' := 64) rfl rfl rfl ?_
  refine X_aload_n (q := 0) (show decode (mB 138) 64 = .ok (.aload_n 0, 1) by decide +kernel) (pc' := 65) rfl rfl rfl ?_
  refine X_getR (ci := 13) (f := 3) (q := 68) (show decode (mB 138) 65 = .ok (.getfield 17, 3) by decide +kernel) (pc' := 68) rfl (ls_65 hL) (by decide +kernel) rfl (lr_65_3 hL) ?_
  refine X_aload_n (q := 0) (show decode (mB 138) 68 = .ok (.aload_n 0, 1) by decide +kernel) (pc' := 69) rfl rfl rfl ?_
  refine X_getI (ci := 13) (f := 7) (x := I 65 7) (show decode (mB 138) 69 = .ok (.getfield 122, 3) by decide +kernel) (pc' := 72) rfl (ls_65 hL) (by decide +kernel) rfl rfl ?_
  refine X_laload (w := J 68 (I 65 7).toNatClampNeg) (show decode (mB 138) 72 = .ok (.laload, 1) by decide +kernel) (pc' := 73) rfl (ls_68 hL) hb72 rfl ?_
  refine X_lastore (show decode (mB 138) 73 = .ok (.lastore, 1) by decide +kernel) (pc' := 74) rfl h_q_65_18.s1 hb73 ?_
  refine X_aload_n (q := 0) (show decode (mB 138) 74 = .ok (.aload_n 0, 1) by decide +kernel) (pc' := 75) rfl rfl rfl ?_
  refine X_getR (ci := 13) (f := 18) (q := q_65_18) (show decode (mB 138) 75 = .ok (.getfield 202, 3) by decide +kernel) (pc' := 78) rfl (ls_65 hL) (by decide +kernel) rfl hq_65_18 ?_
  refine X_getR (ci := 11) (f := 1) (q := (q_65_18 + 2)) (show decode (mB 138) 78 = .ok (.getfield 209, 3) by decide +kernel) (pc' := 81) rfl h_q_65_18.s0 (by decide +kernel) rfl h_q_65_18.r0_1 ?_
  refine X_iload_n (q := 2) (show decode (mB 138) 81 = .ok (.iload_n 2, 1) by decide +kernel) (pc' := 82) rfl rfl rfl ?_
  refine X_iload_n (q := 1) (show decode (mB 138) 82 = .ok (.iload_n 1, 1) by decide +kernel) (pc' := 83) rfl rfl rfl ?_
  refine X_iastore (show decode (mB 138) 83 = .ok (.iastore, 1) by decide +kernel) (pc' := 84) rfl h_q_65_18.s2 hb83 ?_
  refine X_aload_n (q := 0) (show decode (mB 138) 84 = .ok (.aload_n 0, 1) by decide +kernel) (pc' := 85) rfl rfl rfl ?_
  refine X_getR (ci := 13) (f := 18) (q := q_65_18) (show decode (mB 138) 85 = .ok (.getfield 202, 3) by decide +kernel) (pc' := 88) rfl (ls_65 hL) (by decide +kernel) rfl hq_65_18 ?_
  refine X_getR (ci := 11) (f := 2) (q := (q_65_18 + 3)) (show decode (mB 138) 88 = .ok (.getfield 210, 3) by decide +kernel) (pc' := 91) rfl h_q_65_18.s0 (by decide +kernel) rfl h_q_65_18.r0_2 ?_
  refine X_iload_n (q := 2) (show decode (mB 138) 91 = .ok (.iload_n 2, 1) by decide +kernel) (pc' := 92) rfl rfl rfl ?_
  refine X_iconst (v := (-1)) (show decode (mB 138) 92 = .ok (.iconst (-1), 1) by decide +kernel) (pc' := 93) rfl rfl ?_
  refine X_iastore (show decode (mB 138) 93 = .ok (.iastore, 1) by decide +kernel) (pc' := 94) rfl h_q_65_18.s3 hb93 ?_
  refine X_aload_n (q := 0) (show decode (mB 138) 94 = .ok (.aload_n 0, 1) by decide +kernel) (pc' := 95) rfl rfl rfl ?_
  refine X_getR (ci := 13) (f := 18) (q := q_65_18) (show decode (mB 138) 95 = .ok (.getfield 202, 3) by decide +kernel) (pc' := 98) rfl (ls_65 hL) (by decide +kernel) rfl hq_65_18 ?_
  refine X_getR (ci := 11) (f := 3) (q := (q_65_18 + 4)) (show decode (mB 138) 98 = .ok (.getfield 212, 3) by decide +kernel) (pc' := 101) rfl h_q_65_18.s0 (by decide +kernel) rfl h_q_65_18.r0_3 ?_
  refine X_iload_n (q := 2) (show decode (mB 138) 101 = .ok (.iload_n 2, 1) by decide +kernel) (pc' := 102) rfl rfl rfl ?_
  refine X_aload_n (q := 0) (show decode (mB 138) 102 = .ok (.aload_n 0, 1) by decide +kernel) (pc' := 103) rfl rfl rfl ?_
  refine X_getR (ci := 13) (f := 4) (q := 69) (show decode (mB 138) 103 = .ok (.getfield 21, 3) by decide +kernel) (pc' := 106) rfl (ls_65 hL) (by decide +kernel) rfl (lr_65_4 hL) ?_
  refine X_aload_n (q := 0) (show decode (mB 138) 106 = .ok (.aload_n 0, 1) by decide +kernel) (pc' := 107) rfl rfl rfl ?_
  refine X_getI (ci := 13) (f := 7) (x := I 65 7) (show decode (mB 138) 107 = .ok (.getfield 122, 3) by decide +kernel) (pc' := 110) rfl (ls_65 hL) (by decide +kernel) rfl (by simp [u2, u1, hn_65_q_65_18p3, hn_65_q_65_18p2]) ?_
  refine X_iaload (w := I 69 (I 65 7).toNatClampNeg) (show decode (mB 138) 110 = .ok (.iaload, 1) by decide +kernel) (pc' := 111) rfl (ls_69 hL) hb110 (by simp [u2, u1, hn_69_q_65_18p3, hn_69_q_65_18p2]) ?_
  refine X_iastore (show decode (mB 138) 111 = .ok (.iastore, 1) by decide +kernel) (pc' := 112) rfl h_q_65_18.s4 hb111 ?_
  refine X_aload_n (q := 0) (show decode (mB 138) 112 = .ok (.aload_n 0, 1) by decide +kernel) (pc' := 113) rfl rfl rfl ?_
  refine X_getR (ci := 13) (f := 18) (q := q_65_18) (show decode (mB 138) 113 = .ok (.getfield 202, 3) by decide +kernel) (pc' := 116) rfl (ls_65 hL) (by decide +kernel) rfl hq_65_18 ?_
  refine X_dup (show decode (mB 138) 116 = .ok (.dup, 1) by decide +kernel) (pc' := 117) rfl rfl ?_
  refine X_getI (ci := 11) (f := 4) (x := I q_65_18 4) (show decode (mB 138) 117 = .ok (.getfield 200, 3) by decide +kernel) (pc' := 120) rfl h_q_65_18.s0 (by decide +kernel) rfl (by simp [u2, u1]) ?_
  refine X_iconst (v := 1) (show decode (mB 138) 120 = .ok (.iconst 1, 1) by decide +kernel) (pc' := 121) rfl rfl ?_
  refine X_iadd (show decode (mB 138) 121 = .ok (.iadd, 1) by decide +kernel) (pc' := 122) rfl ?_
  refine X_putI (ci := 11) (f := 4) (show decode (mB 138) 122 = .ok (.putfield 200, 3) by decide +kernel) (pc' := 125) rfl h_q_65_18.s0 (by decide +kernel) (by decide +kernel) rfl ?_
  refine X_aload_n (q := 0) (show decode (mB 138) 125 = .ok (.aload_n 0, 1) by decide +kernel) (pc' := 126) rfl rfl rfl ?_
  refine X_dup (show decode (mB 138) 126 = .ok (.dup, 1) by decide +kernel) (pc' := 127) rfl rfl ?_
  refine X_getI (ci := 13) (f := 7) (x := I 65 7) (show decode (mB 138) 127 = .ok (.getfield 122, 3) by decide +kernel) (pc' := 130) rfl (ls_65 hL) (by decide +kernel) rfl (by simp [u2, u1, hn_65_q_65_18, hn_65_q_65_18p4, hn_65_q_65_18p3, hn_65_q_65_18p2]) ?_
  refine X_iconst (v := 1) (show decode (mB 138) 130 = .ok (.iconst 1, 1) by decide +kernel) (pc' := 131) rfl rfl ?_
  refine X_iadd (show decode (mB 138) 131 = .ok (.iadd, 1) by decide +kernel) (pc' := 132) rfl ?_
  refine X_putI (ci := 13) (f := 7) (show decode (mB 138) 132 = .ok (.putfield 122, 3) by decide +kernel) (pc' := 135) rfl (ls_65 hL) (by decide +kernel) (by decide +kernel) rfl ?_
  exact X_return (show decode (mB 138) 135 = .ok (.return_, 1) by decide +kernel) (by decide +kernel) k
set_option maxRecDepth 4000 in
theorem b_X14_item_0 {xs : Nat → Int32} {L d : Nat} {S : Nat → Shp} {I : Nat → Nat → Int32} {J : Nat → Nat → Int64} {R : Nat → Nat → Nat} {c : Nat × Nat} {Q : Option (Option Value) → MH → Prop}  (hL : Lay S R) (hb8 : inb (I 65 7) 2001 = true) (kt : (I 67 (I 65 7).toNatClampNeg) = 10 → X xs L (d + 1) 139 29 [.ref 65, .int (I 67 (I 65 7).toNatClampNeg), .null] [.ref 65] (S, I, J, R, c) Q) (kf : ¬ ((I 67 (I 65 7).toNatClampNeg) = 10) → X xs L (d + 1) 139 17 [.ref 65, .int (I 67 (I 65 7).toNatClampNeg), .null] [.ref 65] (S, I, J, R, c) Q) : X xs L (d + 1) 139 0 [.ref 65, .null, .null] [] (S, I, J, R, c) Q := by
  refine X_aload_n (q := 0) (show decode (mB 139) 0 = .ok (.aload_n 0, 1) by decide +kernel) (pc' := 1) rfl rfl rfl ?_
  refine X_getR (ci := 13) (f := 2) (q := 67) (show decode (mB 139) 1 = .ok (.getfield 13, 3) by decide +kernel) (pc' := 4) rfl (ls_65 hL) (by decide +kernel) rfl (lr_65_2 hL) ?_
  refine X_aload_n (q := 0) (show decode (mB 139) 4 = .ok (.aload_n 0, 1) by decide +kernel) (pc' := 5) rfl rfl rfl ?_
  refine X_getI (ci := 13) (f := 7) (x := I 65 7) (show decode (mB 139) 5 = .ok (.getfield 122, 3) by decide +kernel) (pc' := 8) rfl (ls_65 hL) (by decide +kernel) rfl rfl ?_
  refine X_iaload (w := I 67 (I 65 7).toNatClampNeg) (show decode (mB 139) 8 = .ok (.iaload, 1) by decide +kernel) (pc' := 9) rfl (ls_67 hL) hb8 rfl ?_
  refine X_istore_n (q := 1) (ls' := [.ref 65, .int (I 67 (I 65 7).toNatClampNeg), .null]) (show decode (mB 139) 9 = .ok (.istore_n 1, 1) by decide +kernel) (pc' := 10) rfl rfl rfl ?_
  refine X_aload_n (q := 0) (show decode (mB 139) 10 = .ok (.aload_n 0, 1) by decide +kernel) (pc' := 11) rfl rfl rfl ?_
  refine X_iload_n (q := 1) (show decode (mB 139) 11 = .ok (.iload_n 1, 1) by decide +kernel) (pc' := 12) rfl rfl rfl ?_
  refine X_bipush (v := 10) (show decode (mB 139) 12 = .ok (.bipush 10, 2) by decide +kernel) (pc' := 14) rfl (by decide +kernel) ?_
  exact X_icmp_eq (tgt := 29) (show decode (mB 139) 14 = .ok (.if_icmp .eq 15, 3) by decide +kernel) rfl (pc' := 17) rfl kt kf
set_option maxRecDepth 4000 in
theorem b_X14_item_17 {xs : Nat → Int32} {L d : Nat} {S : Nat → Shp} {I : Nat → Nat → Int32} {J : Nat → Nat → Int64} {R : Nat → Nat → Nat} {c : Nat × Nat} {Q : Option (Option Value) → MH → Prop} {x1 : Int32}  (kt : x1 = 11 → X xs L (d + 1) 139 29 [.ref 65, .int x1, .null] [.ref 65] (S, I, J, R, c) Q) (kf : ¬ (x1 = 11) → X xs L (d + 1) 139 23 [.ref 65, .int x1, .null] [.ref 65] (S, I, J, R, c) Q) : X xs L (d + 1) 139 17 [.ref 65, .int x1, .null] [.ref 65] (S, I, J, R, c) Q := by
  refine X_iload_n (q := 1) (show decode (mB 139) 17 = .ok (.iload_n 1, 1) by decide +kernel) (pc' := 18) rfl rfl rfl ?_
  refine X_bipush (v := 11) (show decode (mB 139) 18 = .ok (.bipush 11, 2) by decide +kernel) (pc' := 20) rfl (by decide +kernel) ?_
  exact X_icmp_eq (tgt := 29) (show decode (mB 139) 20 = .ok (.if_icmp .eq 9, 3) by decide +kernel) rfl (pc' := 23) rfl kt kf
set_option maxRecDepth 4000 in
theorem b_X14_item_23 {xs : Nat → Int32} {L d : Nat} {S : Nat → Shp} {I : Nat → Nat → Int32} {J : Nat → Nat → Int64} {R : Nat → Nat → Nat} {c : Nat × Nat} {Q : Option (Option Value) → MH → Prop} {x1 : Int32}  (kt : ¬ x1 = 12 → X xs L (d + 1) 139 33 [.ref 65, .int x1, .null] [.ref 65] (S, I, J, R, c) Q) (kf : ¬ (¬ x1 = 12) → X xs L (d + 1) 139 29 [.ref 65, .int x1, .null] [.ref 65] (S, I, J, R, c) Q) : X xs L (d + 1) 139 23 [.ref 65, .int x1, .null] [.ref 65] (S, I, J, R, c) Q := by
  refine X_iload_n (q := 1) (show decode (mB 139) 23 = .ok (.iload_n 1, 1) by decide +kernel) (pc' := 24) rfl rfl rfl ?_
  refine X_bipush (v := 12) (show decode (mB 139) 24 = .ok (.bipush 12, 2) by decide +kernel) (pc' := 26) rfl (by decide +kernel) ?_
  exact X_icmp_ne (tgt := 33) (show decode (mB 139) 26 = .ok (.if_icmp .ne 7, 3) by decide +kernel) rfl (pc' := 29) rfl kt kf
set_option maxRecDepth 4000 in
theorem b_X14_item_29 {xs : Nat → Int32} {L d : Nat} {S : Nat → Shp} {I : Nat → Nat → Int32} {J : Nat → Nat → Int64} {R : Nat → Nat → Nat} {c : Nat × Nat} {Q : Option (Option Value) → MH → Prop} {x1 : Int32}  (k : X xs L (d + 1) 139 34 [.ref 65, .int x1, .null] [.int 1, .ref 65] (S, I, J, R, c) Q) : X xs L (d + 1) 139 29 [.ref 65, .int x1, .null] [.ref 65] (S, I, J, R, c) Q := by
  refine X_iconst (v := 1) (show decode (mB 139) 29 = .ok (.iconst 1, 1) by decide +kernel) (pc' := 30) rfl rfl ?_
  refine X_goto (tgt := 34) (show decode (mB 139) 30 = .ok (.goto 4, 3) by decide +kernel) rfl ?_
  exact k
set_option maxRecDepth 4000 in
theorem b_X14_item_33 {xs : Nat → Int32} {L d : Nat} {S : Nat → Shp} {I : Nat → Nat → Int32} {J : Nat → Nat → Int64} {R : Nat → Nat → Nat} {c : Nat × Nat} {Q : Option (Option Value) → MH → Prop} {x1 : Int32}  (k : X xs L (d + 1) 139 34 [.ref 65, .int x1, .null] [.int 0, .ref 65] (S, I, J, R, c) Q) : X xs L (d + 1) 139 33 [.ref 65, .int x1, .null] [.ref 65] (S, I, J, R, c) Q := by
  refine X_iconst (v := 0) (show decode (mB 139) 33 = .ok (.iconst 0, 1) by decide +kernel) (pc' := 34) rfl rfl ?_
  exact k
set_option maxRecDepth 4000 in
theorem b_X14_item_34 {xs : Nat → Int32} {L d : Nat} {S : Nat → Shp} {I : Nat → Nat → Int32} {J : Nat → Nat → Int64} {R : Nat → Nat → Nat} {c : Nat × Nat} {Q : Option (Option Value) → MH → Prop} {x1 sx1 : Int32} (hL : Lay S R)  (k : X xs L d 128 0 [.ref 65, .int sx1] [] (S, I, J, R, c) (Kt xs L (d + 1) 139 37 [.ref 65, .int x1, .null] [] Q)) : X xs L (d + 1) 139 34 [.ref 65, .int x1, .null] [.int sx1, .ref 65] (S, I, J, R, c) Q := by
  exact X_callT (y := 128) (n := 1) (st := [.int sx1, .ref 65]) (as := [.ref 65, .int sx1]) (rest := []) (ls0 := [.ref 65, .int sx1]) (ci := 13) (show decode (mB 139) 34 = .ok (.invokevirtual 134, 3) by decide +kernel) (pc' := 37) rfl (by decide +kernel) (by decide +kernel) rfl (ls_65 hL) (by decide +kernel) rfl rfl rfl rfl rfl (by decide +kernel) (by decide +kernel) k
set_option maxRecDepth 4000 in
theorem b_X14_item_37 {xs : Nat → Int32} {L d : Nat} {S : Nat → Shp} {I : Nat → Nat → Int32} {J : Nat → Nat → Int64} {R : Nat → Nat → Nat} {c : Nat × Nat} {Q : Option (Option Value) → MH → Prop} {x1 : Int32} (hL : Lay S R)  (k : X xs L d 138 0 [.ref 65, .int x1, .null] [] (S, (u2 I 65 7 ((I 65 7) + 1)), J, R, c) (Kt xs L (d + 1) 139 52 [.ref 65, .int x1, .null] [] Q)) : X xs L (d + 1) 139 37 [.ref 65, .int x1, .null] [] (S, I, J, R, c) Q := by
  refine X_aload_n (q := 0) (show decode (mB 139) 37 = .ok (.aload_n 0, 1) by decide +kernel) (pc' := 38) rfl rfl rfl ?_
  refine X_dup (show decode (mB 139) 38 = .ok (.dup, 1) by decide +kernel) (pc' := 39) rfl rfl ?_
  refine X_getI (ci := 13) (f := 7) (x := I 65 7) (show decode (mB 139) 39 = .ok (.getfield 122, 3) by decide +kernel) (pc' := 42) rfl (ls_65 hL) (by decide +kernel) rfl rfl ?_
  refine X_iconst (v := 1) (show decode (mB 139) 42 = .ok (.iconst 1, 1) by decide +kernel) (pc' := 43) rfl rfl ?_
  refine X_iadd (show decode (mB 139) 43 = .ok (.iadd, 1) by decide +kernel) (pc' := 44) rfl ?_
  refine X_putI (ci := 13) (f := 7) (show decode (mB 139) 44 = .ok (.putfield 122, 3) by decide +kernel) (pc' := 47) rfl (ls_65 hL) (by decide +kernel) (by decide +kernel) rfl ?_
  refine X_aload_n (q := 0) (show decode (mB 139) 47 = .ok (.aload_n 0, 1) by decide +kernel) (pc' := 48) rfl rfl rfl ?_
  refine X_iload_n (q := 1) (show decode (mB 139) 48 = .ok (.iload_n 1, 1) by decide +kernel) (pc' := 49) rfl rfl rfl ?_
  exact X_callT (y := 138) (n := 1) (st := [.int x1, .ref 65]) (as := [.ref 65, .int x1]) (rest := []) (ls0 := [.ref 65, .int x1, .null]) (ci := 13) (show decode (mB 139) 49 = .ok (.invokevirtual 213, 3) by decide +kernel) (pc' := 52) rfl (by decide +kernel) (by decide +kernel) rfl (ls_65 hL) (by decide +kernel) rfl rfl rfl rfl rfl (by decide +kernel) (by decide +kernel) k
set_option maxRecDepth 4000 in
theorem b_X14_item_52 {xs : Nat → Int32} {L d : Nat} {S : Nat → Shp} {I : Nat → Nat → Int32} {J : Nat → Nat → Int64} {R : Nat → Nat → Nat} {c : Nat × Nat} {Q : Option (Option Value) → MH → Prop} {x1 : Int32}  (kt : ¬ x1 = 10 → X xs L (d + 1) 139 85 [.ref 65, .int x1, .null] [] (S, I, J, R, c) Q) (kf : ¬ (¬ x1 = 10) → X xs L (d + 1) 139 58 [.ref 65, .int x1, .null] [] (S, I, J, R, c) Q) : X xs L (d + 1) 139 52 [.ref 65, .int x1, .null] [] (S, I, J, R, c) Q := by
  refine X_iload_n (q := 1) (show decode (mB 139) 52 = .ok (.iload_n 1, 1) by decide +kernel) (pc' := 53) rfl rfl rfl ?_
  refine X_bipush (v := 10) (show decode (mB 139) 53 = .ok (.bipush 10, 2) by decide +kernel) (pc' := 55) rfl (by decide +kernel) ?_
  exact X_icmp_ne (tgt := 85) (show decode (mB 139) 55 = .ok (.if_icmp .ne 30, 3) by decide +kernel) rfl (pc' := 58) rfl kt kf
set_option maxRecDepth 4000 in
theorem b_X14_item_58 {xs : Nat → Int32} {L d : Nat} {S : Nat → Shp} {I : Nat → Nat → Int32} {J : Nat → Nat → Int64} {R : Nat → Nat → Nat} {c : Nat × Nat} {Q : Option (Option Value) → MH → Prop} {x1 : Int32} (hL : Lay S R)  (k : X xs L d 127 0 [.ref 65, .int 44] [] (S, I, J, R, c) (Kc xs L (d + 1) 139 64 [.ref 65, .int x1, .null] [] Q)) : X xs L (d + 1) 139 58 [.ref 65, .int x1, .null] [] (S, I, J, R, c) Q := by
  refine X_aload_n (q := 0) (show decode (mB 139) 58 = .ok (.aload_n 0, 1) by decide +kernel) (pc' := 59) rfl rfl rfl ?_
  refine X_bipush (v := 44) (show decode (mB 139) 59 = .ok (.bipush 44, 2) by decide +kernel) (pc' := 61) rfl (by decide +kernel) ?_
  exact X_callV (y := 127) (n := 1) (st := [.int 44, .ref 65]) (as := [.ref 65, .int 44]) (rest := []) (ls0 := [.ref 65, .int 44]) (ci := 13) (show decode (mB 139) 61 = .ok (.invokevirtual 131, 3) by decide +kernel) (pc' := 64) rfl (by decide +kernel) (by decide +kernel) rfl (ls_65 hL) (by decide +kernel) rfl rfl rfl rfl rfl k
set_option maxRecDepth 4000 in
theorem b_X14_item_64 {xs : Nat → Int32} {L d : Nat} {S : Nat → Shp} {I : Nat → Nat → Int32} {J : Nat → Nat → Int64} {R : Nat → Nat → Nat} {c : Nat × Nat} {Q : Option (Option Value) → MH → Prop} {x1 sx0 : Int32}  (kt : sx0 = 0 → X xs L (d + 1) 139 115 [.ref 65, .int x1, .null] [] (S, I, J, R, c) Q) (kf : ¬ (sx0 = 0) → X xs L (d + 1) 139 67 [.ref 65, .int x1, .null] [] (S, I, J, R, c) Q) : X xs L (d + 1) 139 64 [.ref 65, .int x1, .null] [.int sx0] (S, I, J, R, c) Q := by
  exact X_if_eq (tgt := 115) (show decode (mB 139) 64 = .ok (.ifCond .eq 51, 3) by decide +kernel) rfl (pc' := 67) rfl kt kf
set_option maxRecDepth 4000 in
theorem b_X14_item_67 {xs : Nat → Int32} {L d : Nat} {S : Nat → Shp} {I : Nat → Nat → Int32} {J : Nat → Nat → Int64} {R : Nat → Nat → Nat} {c : Nat × Nat} {Q : Option (Option Value) → MH → Prop} {x1 : Int32} (hL : Lay S R)  (k : X xs L d 138 0 [.ref 65, .int x1, .null] [] (S, (u2 I 65 7 ((I 65 7) + 1)), J, R, c) (Kt xs L (d + 1) 139 82 [.ref 65, .int x1, .null] [] Q)) : X xs L (d + 1) 139 67 [.ref 65, .int x1, .null] [] (S, I, J, R, c) Q := by
  refine X_aload_n (q := 0) (show decode (mB 139) 67 = .ok (.aload_n 0, 1) by decide +kernel) (pc' := 68) rfl rfl rfl ?_
  refine X_dup (show decode (mB 139) 68 = .ok (.dup, 1) by decide +kernel) (pc' := 69) rfl rfl ?_
  refine X_getI (ci := 13) (f := 7) (x := I 65 7) (show decode (mB 139) 69 = .ok (.getfield 122, 3) by decide +kernel) (pc' := 72) rfl (ls_65 hL) (by decide +kernel) rfl rfl ?_
  refine X_iconst (v := 1) (show decode (mB 139) 72 = .ok (.iconst 1, 1) by decide +kernel) (pc' := 73) rfl rfl ?_
  refine X_iadd (show decode (mB 139) 73 = .ok (.iadd, 1) by decide +kernel) (pc' := 74) rfl ?_
  refine X_putI (ci := 13) (f := 7) (show decode (mB 139) 74 = .ok (.putfield 122, 3) by decide +kernel) (pc' := 77) rfl (ls_65 hL) (by decide +kernel) (by decide +kernel) rfl ?_
  refine X_aload_n (q := 0) (show decode (mB 139) 77 = .ok (.aload_n 0, 1) by decide +kernel) (pc' := 78) rfl rfl rfl ?_
  refine X_iload_n (q := 1) (show decode (mB 139) 78 = .ok (.iload_n 1, 1) by decide +kernel) (pc' := 79) rfl rfl rfl ?_
  exact X_callT (y := 138) (n := 1) (st := [.int x1, .ref 65]) (as := [.ref 65, .int x1]) (rest := []) (ls0 := [.ref 65, .int x1, .null]) (ci := 13) (show decode (mB 139) 79 = .ok (.invokevirtual 213, 3) by decide +kernel) (pc' := 82) rfl (by decide +kernel) (by decide +kernel) rfl (ls_65 hL) (by decide +kernel) rfl rfl rfl rfl rfl (by decide +kernel) (by decide +kernel) k
set_option maxRecDepth 4000 in
theorem b_X14_item_82 {xs : Nat → Int32} {L d : Nat} {S : Nat → Shp} {I : Nat → Nat → Int32} {J : Nat → Nat → Int64} {R : Nat → Nat → Nat} {c : Nat × Nat} {Q : Option (Option Value) → MH → Prop} {x1 : Int32}  (k : X xs L (d + 1) 139 58 [.ref 65, .int x1, .null] [] (S, I, J, R, c) Q) : X xs L (d + 1) 139 82 [.ref 65, .int x1, .null] [] (S, I, J, R, c) Q := by
  refine X_goto (tgt := 58) (show decode (mB 139) 82 = .ok (.goto (-24), 3) by decide +kernel) rfl ?_
  exact k
set_option maxRecDepth 4000 in
theorem b_X14_item_85 {xs : Nat → Int32} {L d : Nat} {S : Nat → Shp} {I : Nat → Nat → Int32} {J : Nat → Nat → Int64} {R : Nat → Nat → Nat} {c : Nat × Nat} {Q : Option (Option Value) → MH → Prop} {x1 : Int32} {q_65_18 : Nat} (hL : Lay S R) (hq_65_18 : R 65 18 = q_65_18) (h_q_65_18 : LyNo S R q_65_18) (k : X xs L d 129 0 [.ref 65, .int 61] [] (S, I, J, R, c) (Kt xs L (d + 1) 139 101 [.ref 65, .int x1, .int ((I q_65_18 4) - 1)] [] Q)) : X xs L (d + 1) 139 85 [.ref 65, .int x1, .null] [] (S, I, J, R, c) Q := by
  refine X_aload_n (q := 0) (show decode (mB 139) 85 = .ok (.aload_n 0, 1) by decide +kernel) (pc' := 86) rfl rfl rfl ?_
  refine X_getR (ci := 13) (f := 18) (q := q_65_18) (show decode (mB 139) 86 = .ok (.getfield 202, 3) by decide +kernel) (pc' := 89) rfl (ls_65 hL) (by decide +kernel) rfl hq_65_18 ?_
  refine X_getI (ci := 11) (f := 4) (x := I q_65_18 4) (show decode (mB 139) 89 = .ok (.getfield 200, 3) by decide +kernel) (pc' := 92) rfl h_q_65_18.s0 (by decide +kernel) rfl rfl ?_
  refine X_iconst (v := 1) (show decode (mB 139) 92 = .ok (.iconst 1, 1) by decide +kernel) (pc' := 93) rfl rfl ?_
  refine X_isub (show decode (mB 139) 93 = .ok (.isub, 1) by decide +kernel) (pc' := 94) rfl ?_
  refine X_istore_n (q := 2) (ls' := [.ref 65, .int x1, .int ((I q_65_18 4) - 1)]) (show decode (mB 139) 94 = .ok (.istore_n 2, 1) by decide +kernel) (pc' := 95) rfl rfl rfl ?_
  refine X_aload_n (q := 0) (show decode (mB 139) 95 = .ok (.aload_n 0, 1) by decide +kernel) (pc' := 96) rfl rfl rfl ?_
  refine X_bipush (v := 61) (show decode (mB 139) 96 = .ok (.bipush 61, 2) by decide +kernel) (pc' := 98) rfl (by decide +kernel) ?_
  exact X_callT (y := 129) (n := 1) (st := [.int 61, .ref 65]) (as := [.ref 65, .int 61]) (rest := []) (ls0 := [.ref 65, .int 61]) (ci := 13) (show decode (mB 139) 98 = .ok (.invokevirtual 172, 3) by decide +kernel) (pc' := 101) rfl (by decide +kernel) (by decide +kernel) rfl (ls_65 hL) (by decide +kernel) rfl rfl rfl rfl rfl (by decide +kernel) (by decide +kernel) k
set_option maxRecDepth 4000 in
theorem b_X14_item_101 {xs : Nat → Int32} {L d : Nat} {S : Nat → Shp} {I : Nat → Nat → Int32} {J : Nat → Nat → Int64} {R : Nat → Nat → Nat} {c : Nat × Nat} {Q : Option (Option Value) → MH → Prop} {x1 x2 : Int32} {q_65_18 : Nat} (hL : Lay S R) (hq_65_18 : R 65 18 = q_65_18) (h_q_65_18 : LyNo S R q_65_18) (k : X xs L d 131 0 [.ref 65, .int 0, .null] [] (S, I, J, R, c) (Kt xs L (d + 1) 139 114 [.ref 65, .int x1, .int x2] [.int x2, .ref (q_65_18 + 3)] Q)) : X xs L (d + 1) 139 101 [.ref 65, .int x1, .int x2] [] (S, I, J, R, c) Q := by
  refine X_aload_n (q := 0) (show decode (mB 139) 101 = .ok (.aload_n 0, 1) by decide +kernel) (pc' := 102) rfl rfl rfl ?_
  refine X_getR (ci := 13) (f := 18) (q := q_65_18) (show decode (mB 139) 102 = .ok (.getfield 202, 3) by decide +kernel) (pc' := 105) rfl (ls_65 hL) (by decide +kernel) rfl hq_65_18 ?_
  refine X_getR (ci := 11) (f := 2) (q := (q_65_18 + 3)) (show decode (mB 139) 105 = .ok (.getfield 210, 3) by decide +kernel) (pc' := 108) rfl h_q_65_18.s0 (by decide +kernel) rfl h_q_65_18.r0_2 ?_
  refine X_iload_n (q := 2) (show decode (mB 139) 108 = .ok (.iload_n 2, 1) by decide +kernel) (pc' := 109) rfl rfl rfl ?_
  refine X_aload_n (q := 0) (show decode (mB 139) 109 = .ok (.aload_n 0, 1) by decide +kernel) (pc' := 110) rfl rfl rfl ?_
  refine X_iconst (v := 0) (show decode (mB 139) 110 = .ok (.iconst 0, 1) by decide +kernel) (pc' := 111) rfl rfl ?_
  exact X_callT (y := 131) (n := 1) (st := [.int 0, .ref 65, .int x2, .ref (q_65_18 + 3)]) (as := [.ref 65, .int 0]) (rest := [.int x2, .ref (q_65_18 + 3)]) (ls0 := [.ref 65, .int 0, .null]) (ci := 13) (show decode (mB 139) 111 = .ok (.invokevirtual 169, 3) by decide +kernel) (pc' := 114) rfl (by decide +kernel) (by decide +kernel) rfl (ls_65 hL) (by decide +kernel) rfl rfl rfl rfl rfl (by decide +kernel) (by decide +kernel) k
set_option maxRecDepth 4000 in
theorem b_X14_item_114 {xs : Nat → Int32} {L d : Nat} {S : Nat → Shp} {I : Nat → Nat → Int32} {J : Nat → Nat → Int64} {R : Nat → Nat → Nat} {c : Nat × Nat} {Q : Option (Option Value) → MH → Prop} {x1 x2 sx1 sx2 : Int32} {sr0 n_sr0 : Nat} (hs_sr0 : S sr0 = .inr (.int, n_sr0)) (hb114 : inb sx1 n_sr0 = true) (k : X xs L (d + 1) 139 115 [.ref 65, .int x1, .int x2] [] (S, (u2 I sr0 sx1.toNatClampNeg sx2), J, R, c) Q) : X xs L (d + 1) 139 114 [.ref 65, .int x1, .int x2] [.int sx2, .int sx1, .ref sr0] (S, I, J, R, c) Q := by
  refine X_iastore (show decode (mB 139) 114 = .ok (.iastore, 1) by decide +kernel) (pc' := 115) rfl hs_sr0 hb114 ?_
  exact k
set_option maxRecDepth 4000 in
theorem b_X14_item_115 {xs : Nat → Int32} {L d : Nat} {S : Nat → Shp} {I : Nat → Nat → Int32} {J : Nat → Nat → Int64} {R : Nat → Nat → Nat} {c : Nat × Nat} {Q : Option (Option Value) → MH → Prop} {x1 : Int32} {v2 : Value} (hL : Lay S R)  (k : X xs L d 129 0 [.ref 65, .int 59] [] (S, I, J, R, c) (Kt xs L (d + 1) 139 121 [.ref 65, .int x1, v2] [] Q)) : X xs L (d + 1) 139 115 [.ref 65, .int x1, v2] [] (S, I, J, R, c) Q := by
  refine X_aload_n (q := 0) (show decode (mB 139) 115 = .ok (.aload_n 0, 1) by decide +kernel) (pc' := 116) rfl rfl rfl ?_
  refine X_bipush (v := 59) (show decode (mB 139) 116 = .ok (.bipush 59, 2) by decide +kernel) (pc' := 118) rfl (by decide +kernel) ?_
  exact X_callT (y := 129) (n := 1) (st := [.int 59, .ref 65]) (as := [.ref 65, .int 59]) (rest := []) (ls0 := [.ref 65, .int 59]) (ci := 13) (show decode (mB 139) 118 = .ok (.invokevirtual 172, 3) by decide +kernel) (pc' := 121) rfl (by decide +kernel) (by decide +kernel) rfl (ls_65 hL) (by decide +kernel) rfl rfl rfl rfl rfl (by decide +kernel) (by decide +kernel) k
set_option maxRecDepth 4000 in
theorem b_X14_item_121 {xs : Nat → Int32} {L d : Nat} {S : Nat → Shp} {I : Nat → Nat → Int32} {J : Nat → Nat → Int64} {R : Nat → Nat → Nat} {c : Nat × Nat} {Q : Option (Option Value) → MH → Prop} {x1 : Int32} {v2 : Value}  (k : Q (some none) (S, I, J, R, c)) : X xs L (d + 1) 139 121 [.ref 65, .int x1, v2] [] (S, I, J, R, c) Q := by
  exact X_return (show decode (mB 139) 121 = .ok (.return_, 1) by decide +kernel) (by decide +kernel) k
set_option maxRecDepth 4000 in
theorem b_X14_names_0 {xs : Nat → Int32} {L d : Nat} {S : Nat → Shp} {I : Nat → Nat → Int32} {J : Nat → Nat → Int64} {R : Nat → Nat → Nat} {c : Nat × Nat} {Q : Option (Option Value) → MH → Prop} {x1 x2 : Int32}  (kt : x1 < 0 → X xs L (d + 1) 140 17 [.ref 65, .int x1, .int x2] [] (S, I, J, R, c) Q) (kf : ¬ (x1 < 0) → X xs L (d + 1) 140 4 [.ref 65, .int x1, .int x2] [] (S, I, J, R, c) Q) : X xs L (d + 1) 140 0 [.ref 65, .int x1, .int x2] [] (S, I, J, R, c) Q := by
  refine X_iload_n (q := 1) (show decode (mB 140) 0 = .ok (.iload_n 1, 1) by decide +kernel) (pc' := 1) rfl rfl rfl ?_
  exact X_if_lt (tgt := 17) (show decode (mB 140) 1 = .ok (.ifCond .lt 16, 3) by decide +kernel) rfl (pc' := 4) rfl kt kf
set_option maxRecDepth 4000 in
theorem b_X14_names_4 {xs : Nat → Int32} {L d : Nat} {S : Nat → Shp} {I : Nat → Nat → Int32} {J : Nat → Nat → Int64} {R : Nat → Nat → Nat} {c : Nat × Nat} {Q : Option (Option Value) → MH → Prop} {x1 x2 : Int32} {q_65_17 : Nat} (hL : Lay S R) (hq_65_17 : R 65 17 = q_65_17) (h_q_65_17 : LyTr S R q_65_17) (hb12 : inb x1 2000 = true) (kt : 1 < (I (q_65_17 + 1) x1.toNatClampNeg) → X xs L (d + 1) 140 19 [.ref 65, .int x1, .int x2] [] (S, I, J, R, c) Q) (kf : ¬ (1 < (I (q_65_17 + 1) x1.toNatClampNeg)) → X xs L (d + 1) 140 17 [.ref 65, .int x1, .int x2] [] (S, I, J, R, c) Q) : X xs L (d + 1) 140 4 [.ref 65, .int x1, .int x2] [] (S, I, J, R, c) Q := by
  refine X_aload_n (q := 0) (show decode (mB 140) 4 = .ok (.aload_n 0, 1) by decide +kernel) (pc' := 5) rfl rfl rfl ?_
  refine X_getR (ci := 13) (f := 17) (q := q_65_17) (show decode (mB 140) 5 = .ok (.getfield 138, 3) by decide +kernel) (pc' := 8) rfl (ls_65 hL) (by decide +kernel) rfl hq_65_17 ?_
  refine X_getR (ci := 12) (f := 0) (q := (q_65_17 + 1)) (show decode (mB 140) 8 = .ok (.getfield 144, 3) by decide +kernel) (pc' := 11) rfl h_q_65_17.s0 (by decide +kernel) rfl h_q_65_17.r0_0 ?_
  refine X_iload_n (q := 1) (show decode (mB 140) 11 = .ok (.iload_n 1, 1) by decide +kernel) (pc' := 12) rfl rfl rfl ?_
  refine X_iaload (w := I (q_65_17 + 1) x1.toNatClampNeg) (show decode (mB 140) 12 = .ok (.iaload, 1) by decide +kernel) (pc' := 13) rfl h_q_65_17.s1 hb12 rfl ?_
  refine X_iconst (v := 1) (show decode (mB 140) 13 = .ok (.iconst 1, 1) by decide +kernel) (pc' := 14) rfl rfl ?_
  exact X_icmp_gt (tgt := 19) (show decode (mB 140) 14 = .ok (.if_icmp .gt 5, 3) by decide +kernel) rfl (pc' := 17) rfl kt kf
set_option maxRecDepth 4000 in
theorem b_X14_names_17 {xs : Nat → Int32} {L d : Nat} {S : Nat → Shp} {I : Nat → Nat → Int32} {J : Nat → Nat → Int64} {R : Nat → Nat → Nat} {c : Nat × Nat} {Q : Option (Option Value) → MH → Prop} {x1 x2 : Int32}  (k : Q (some (some (.int 0))) (S, I, J, R, c)) : X xs L (d + 1) 140 17 [.ref 65, .int x1, .int x2] [] (S, I, J, R, c) Q := by
  refine X_iconst (v := 0) (show decode (mB 140) 17 = .ok (.iconst 0, 1) by decide +kernel) (pc' := 18) rfl rfl ?_
  exact X_ireturn (ty := .boolean) (show decode (mB 140) 18 = .ok (.ireturn, 1) by decide +kernel) (by decide +kernel) rfl k
set_option maxRecDepth 4000 in
theorem b_X14_names_19 {xs : Nat → Int32} {L d : Nat} {S : Nat → Shp} {I : Nat → Nat → Int32} {J : Nat → Nat → Int64} {R : Nat → Nat → Nat} {c : Nat × Nat} {Q : Option (Option Value) → MH → Prop} {x1 x2 : Int32} {q_65_17 : Nat} (hL : Lay S R) (hq_65_17 : R 65 17 = q_65_17) (h_q_65_17 : LyTr S R q_65_17) (hb27 : inb x1 2000 = true) (kt : ¬ (I (q_65_17 + 1) x1.toNatClampNeg) = 78 → X xs L (d + 1) 140 52 [.ref 65, .int x1, .int x2] [] (S, I, J, R, c) Q) (kf : ¬ (¬ (I (q_65_17 + 1) x1.toNatClampNeg) = 78) → X xs L (d + 1) 140 33 [.ref 65, .int x1, .int x2] [] (S, I, J, R, c) Q) : X xs L (d + 1) 140 19 [.ref 65, .int x1, .int x2] [] (S, I, J, R, c) Q := by
  refine X_aload_n (q := 0) (show decode (mB 140) 19 = .ok (.aload_n 0, 1) by decide +kernel) (pc' := 20) rfl rfl rfl ?_
  refine X_getR (ci := 13) (f := 17) (q := q_65_17) (show decode (mB 140) 20 = .ok (.getfield 138, 3) by decide +kernel) (pc' := 23) rfl (ls_65 hL) (by decide +kernel) rfl hq_65_17 ?_
  refine X_getR (ci := 12) (f := 0) (q := (q_65_17 + 1)) (show decode (mB 140) 23 = .ok (.getfield 144, 3) by decide +kernel) (pc' := 26) rfl h_q_65_17.s0 (by decide +kernel) rfl h_q_65_17.r0_0 ?_
  refine X_iload_n (q := 1) (show decode (mB 140) 26 = .ok (.iload_n 1, 1) by decide +kernel) (pc' := 27) rfl rfl rfl ?_
  refine X_iaload (w := I (q_65_17 + 1) x1.toNatClampNeg) (show decode (mB 140) 27 = .ok (.iaload, 1) by decide +kernel) (pc' := 28) rfl h_q_65_17.s1 hb27 rfl ?_
  refine X_bipush (v := 78) (show decode (mB 140) 28 = .ok (.bipush 78, 2) by decide +kernel) (pc' := 30) rfl (by decide +kernel) ?_
  exact X_icmp_ne (tgt := 52) (show decode (mB 140) 30 = .ok (.if_icmp .ne 22, 3) by decide +kernel) rfl (pc' := 33) rfl kt kf
set_option maxRecDepth 4000 in
theorem b_X14_names_33 {xs : Nat → Int32} {L d : Nat} {S : Nat → Shp} {I : Nat → Nat → Int32} {J : Nat → Nat → Int64} {R : Nat → Nat → Nat} {c : Nat × Nat} {Q : Option (Option Value) → MH → Prop} {x1 x2 : Int32} {q_65_17 : Nat} (hL : Lay S R) (hq_65_17 : R 65 17 = q_65_17) (h_q_65_17 : LyTr S R q_65_17) (hb41 : inb x1 2000 = true) (kt : ¬ (I (q_65_17 + 2) x1.toNatClampNeg) = x2 → X xs L (d + 1) 140 50 [.ref 65, .int x1, .int x2] [] (S, I, J, R, c) Q) (kf : ¬ (¬ (I (q_65_17 + 2) x1.toNatClampNeg) = x2) → X xs L (d + 1) 140 46 [.ref 65, .int x1, .int x2] [] (S, I, J, R, c) Q) : X xs L (d + 1) 140 33 [.ref 65, .int x1, .int x2] [] (S, I, J, R, c) Q := by
  refine X_aload_n (q := 0) (show decode (mB 140) 33 = .ok (.aload_n 0, 1) by decide +kernel) (pc' := 34) rfl rfl rfl ?_
  refine X_getR (ci := 13) (f := 17) (q := q_65_17) (show decode (mB 140) 34 = .ok (.getfield 138, 3) by decide +kernel) (pc' := 37) rfl (ls_65 hL) (by decide +kernel) rfl hq_65_17 ?_
  refine X_getR (ci := 12) (f := 1) (q := (q_65_17 + 2)) (show decode (mB 140) 37 = .ok (.getfield 147, 3) by decide +kernel) (pc' := 40) rfl h_q_65_17.s0 (by decide +kernel) rfl h_q_65_17.r0_1 ?_
  refine X_iload_n (q := 1) (show decode (mB 140) 40 = .ok (.iload_n 1, 1) by decide +kernel) (pc' := 41) rfl rfl rfl ?_
  refine X_iaload (w := I (q_65_17 + 2) x1.toNatClampNeg) (show decode (mB 140) 41 = .ok (.iaload, 1) by decide +kernel) (pc' := 42) rfl h_q_65_17.s2 hb41 rfl ?_
  refine X_iload_n (q := 2) (show decode (mB 140) 42 = .ok (.iload_n 2, 1) by decide +kernel) (pc' := 43) rfl rfl rfl ?_
  exact X_icmp_ne (tgt := 50) (show decode (mB 140) 43 = .ok (.if_icmp .ne 7, 3) by decide +kernel) rfl (pc' := 46) rfl kt kf
set_option maxRecDepth 4000 in
theorem b_X14_names_46 {xs : Nat → Int32} {L d : Nat} {S : Nat → Shp} {I : Nat → Nat → Int32} {J : Nat → Nat → Int64} {R : Nat → Nat → Nat} {c : Nat × Nat} {Q : Option (Option Value) → MH → Prop} {x1 x2 : Int32}  (k : X xs L (d + 1) 140 51 [.ref 65, .int x1, .int x2] [.int 1] (S, I, J, R, c) Q) : X xs L (d + 1) 140 46 [.ref 65, .int x1, .int x2] [] (S, I, J, R, c) Q := by
  refine X_iconst (v := 1) (show decode (mB 140) 46 = .ok (.iconst 1, 1) by decide +kernel) (pc' := 47) rfl rfl ?_
  refine X_goto (tgt := 51) (show decode (mB 140) 47 = .ok (.goto 4, 3) by decide +kernel) rfl ?_
  exact k
set_option maxRecDepth 4000 in
theorem b_X14_names_50 {xs : Nat → Int32} {L d : Nat} {S : Nat → Shp} {I : Nat → Nat → Int32} {J : Nat → Nat → Int64} {R : Nat → Nat → Nat} {c : Nat × Nat} {Q : Option (Option Value) → MH → Prop} {x1 x2 : Int32}  (k : X xs L (d + 1) 140 51 [.ref 65, .int x1, .int x2] [.int 0] (S, I, J, R, c) Q) : X xs L (d + 1) 140 50 [.ref 65, .int x1, .int x2] [] (S, I, J, R, c) Q := by
  refine X_iconst (v := 0) (show decode (mB 140) 50 = .ok (.iconst 0, 1) by decide +kernel) (pc' := 51) rfl rfl ?_
  exact k
set_option maxRecDepth 4000 in
theorem b_X14_names_51 {xs : Nat → Int32} {L d : Nat} {S : Nat → Shp} {I : Nat → Nat → Int32} {J : Nat → Nat → Int64} {R : Nat → Nat → Nat} {c : Nat × Nat} {Q : Option (Option Value) → MH → Prop} {x1 x2 sx0 : Int32} (hz51 : sx0 = 0 ∨ sx0 = 1) (k : Q (some (some (.int sx0))) (S, I, J, R, c)) : X xs L (d + 1) 140 51 [.ref 65, .int x1, .int x2] [.int sx0] (S, I, J, R, c) Q := by
  exact X_ireturn (ty := .boolean) (show decode (mB 140) 51 = .ok (.ireturn, 1) by decide +kernel) (by decide +kernel) (nz hz51) k
set_option maxRecDepth 4000 in
theorem b_X14_names_52 {xs : Nat → Int32} {L d : Nat} {S : Nat → Shp} {I : Nat → Nat → Int32} {J : Nat → Nat → Int64} {R : Nat → Nat → Nat} {c : Nat × Nat} {Q : Option (Option Value) → MH → Prop} {x1 x2 : Int32} {q_65_17 : Nat} (hL : Lay S R) (hq_65_17 : R 65 17 = q_65_17) (h_q_65_17 : LyTr S R q_65_17) (hb61 : inb x1 2000 = true) (k : X xs L d 140 0 [.ref 65, .int (I (q_65_17 + 2) x1.toNatClampNeg), .int x2] [] (S, I, J, R, c) (Kc xs L (d + 1) 140 66 [.ref 65, .int x1, .int x2] [] Q)) : X xs L (d + 1) 140 52 [.ref 65, .int x1, .int x2] [] (S, I, J, R, c) Q := by
  refine X_aload_n (q := 0) (show decode (mB 140) 52 = .ok (.aload_n 0, 1) by decide +kernel) (pc' := 53) rfl rfl rfl ?_
  refine X_aload_n (q := 0) (show decode (mB 140) 53 = .ok (.aload_n 0, 1) by decide +kernel) (pc' := 54) rfl rfl rfl ?_
  refine X_getR (ci := 13) (f := 17) (q := q_65_17) (show decode (mB 140) 54 = .ok (.getfield 138, 3) by decide +kernel) (pc' := 57) rfl (ls_65 hL) (by decide +kernel) rfl hq_65_17 ?_
  refine X_getR (ci := 12) (f := 1) (q := (q_65_17 + 2)) (show decode (mB 140) 57 = .ok (.getfield 147, 3) by decide +kernel) (pc' := 60) rfl h_q_65_17.s0 (by decide +kernel) rfl h_q_65_17.r0_1 ?_
  refine X_iload_n (q := 1) (show decode (mB 140) 60 = .ok (.iload_n 1, 1) by decide +kernel) (pc' := 61) rfl rfl rfl ?_
  refine X_iaload (w := I (q_65_17 + 2) x1.toNatClampNeg) (show decode (mB 140) 61 = .ok (.iaload, 1) by decide +kernel) (pc' := 62) rfl h_q_65_17.s2 hb61 rfl ?_
  refine X_iload_n (q := 2) (show decode (mB 140) 62 = .ok (.iload_n 2, 1) by decide +kernel) (pc' := 63) rfl rfl rfl ?_
  exact X_callV (y := 140) (n := 2) (st := [.int x2, .int (I (q_65_17 + 2) x1.toNatClampNeg), .ref 65]) (as := [.ref 65, .int (I (q_65_17 + 2) x1.toNatClampNeg), .int x2]) (rest := []) (ls0 := [.ref 65, .int (I (q_65_17 + 2) x1.toNatClampNeg), .int x2]) (ci := 13) (show decode (mB 140) 63 = .ok (.invokevirtual 216, 3) by decide +kernel) (pc' := 66) rfl (by decide +kernel) (by decide +kernel) rfl (ls_65 hL) (by decide +kernel) rfl rfl rfl rfl rfl k
set_option maxRecDepth 4000 in
theorem b_X14_names_66 {xs : Nat → Int32} {L d : Nat} {S : Nat → Shp} {I : Nat → Nat → Int32} {J : Nat → Nat → Int64} {R : Nat → Nat → Nat} {c : Nat × Nat} {Q : Option (Option Value) → MH → Prop} {x1 x2 sx0 : Int32}  (kt : ¬ sx0 = 0 → X xs L (d + 1) 140 100 [.ref 65, .int x1, .int x2] [] (S, I, J, R, c) Q) (kf : ¬ (¬ sx0 = 0) → X xs L (d + 1) 140 69 [.ref 65, .int x1, .int x2] [] (S, I, J, R, c) Q) : X xs L (d + 1) 140 66 [.ref 65, .int x1, .int x2] [.int sx0] (S, I, J, R, c) Q := by
  exact X_if_ne (tgt := 100) (show decode (mB 140) 66 = .ok (.ifCond .ne 34, 3) by decide +kernel) rfl (pc' := 69) rfl kt kf
set_option maxRecDepth 4000 in
theorem b_X14_names_69 {xs : Nat → Int32} {L d : Nat} {S : Nat → Shp} {I : Nat → Nat → Int32} {J : Nat → Nat → Int64} {R : Nat → Nat → Nat} {c : Nat × Nat} {Q : Option (Option Value) → MH → Prop} {x1 x2 : Int32} {q_65_17 : Nat} (hL : Lay S R) (hq_65_17 : R 65 17 = q_65_17) (h_q_65_17 : LyTr S R q_65_17) (hb77 : inb x1 2000 = true) (kt : (I (q_65_17 + 1) x1.toNatClampNeg) = 33 → X xs L (d + 1) 140 104 [.ref 65, .int x1, .int x2] [] (S, I, J, R, c) Q) (kf : ¬ ((I (q_65_17 + 1) x1.toNatClampNeg) = 33) → X xs L (d + 1) 140 83 [.ref 65, .int x1, .int x2] [] (S, I, J, R, c) Q) : X xs L (d + 1) 140 69 [.ref 65, .int x1, .int x2] [] (S, I, J, R, c) Q := by
  refine X_aload_n (q := 0) (show decode (mB 140) 69 = .ok (.aload_n 0, 1) by decide +kernel) (pc' := 70) rfl rfl rfl ?_
  refine X_getR (ci := 13) (f := 17) (q := q_65_17) (show decode (mB 140) 70 = .ok (.getfield 138, 3) by decide +kernel) (pc' := 73) rfl (ls_65 hL) (by decide +kernel) rfl hq_65_17 ?_
  refine X_getR (ci := 12) (f := 0) (q := (q_65_17 + 1)) (show decode (mB 140) 73 = .ok (.getfield 144, 3) by decide +kernel) (pc' := 76) rfl h_q_65_17.s0 (by decide +kernel) rfl h_q_65_17.r0_0 ?_
  refine X_iload_n (q := 1) (show decode (mB 140) 76 = .ok (.iload_n 1, 1) by decide +kernel) (pc' := 77) rfl rfl rfl ?_
  refine X_iaload (w := I (q_65_17 + 1) x1.toNatClampNeg) (show decode (mB 140) 77 = .ok (.iaload, 1) by decide +kernel) (pc' := 78) rfl h_q_65_17.s1 hb77 rfl ?_
  refine X_bipush (v := 33) (show decode (mB 140) 78 = .ok (.bipush 33, 2) by decide +kernel) (pc' := 80) rfl (by decide +kernel) ?_
  exact X_icmp_eq (tgt := 104) (show decode (mB 140) 80 = .ok (.if_icmp .eq 24, 3) by decide +kernel) rfl (pc' := 83) rfl kt kf
set_option maxRecDepth 4000 in
theorem b_X14_names_83 {xs : Nat → Int32} {L d : Nat} {S : Nat → Shp} {I : Nat → Nat → Int32} {J : Nat → Nat → Int64} {R : Nat → Nat → Nat} {c : Nat × Nat} {Q : Option (Option Value) → MH → Prop} {x1 x2 : Int32} {q_65_17 : Nat} (hL : Lay S R) (hq_65_17 : R 65 17 = q_65_17) (h_q_65_17 : LyTr S R q_65_17) (hb92 : inb x1 2000 = true) (k : X xs L d 140 0 [.ref 65, .int (I (q_65_17 + 3) x1.toNatClampNeg), .int x2] [] (S, I, J, R, c) (Kc xs L (d + 1) 140 97 [.ref 65, .int x1, .int x2] [] Q)) : X xs L (d + 1) 140 83 [.ref 65, .int x1, .int x2] [] (S, I, J, R, c) Q := by
  refine X_aload_n (q := 0) (show decode (mB 140) 83 = .ok (.aload_n 0, 1) by decide +kernel) (pc' := 84) rfl rfl rfl ?_
  refine X_aload_n (q := 0) (show decode (mB 140) 84 = .ok (.aload_n 0, 1) by decide +kernel) (pc' := 85) rfl rfl rfl ?_
  refine X_getR (ci := 13) (f := 17) (q := q_65_17) (show decode (mB 140) 85 = .ok (.getfield 138, 3) by decide +kernel) (pc' := 88) rfl (ls_65 hL) (by decide +kernel) rfl hq_65_17 ?_
  refine X_getR (ci := 12) (f := 2) (q := (q_65_17 + 3)) (show decode (mB 140) 88 = .ok (.getfield 150, 3) by decide +kernel) (pc' := 91) rfl h_q_65_17.s0 (by decide +kernel) rfl h_q_65_17.r0_2 ?_
  refine X_iload_n (q := 1) (show decode (mB 140) 91 = .ok (.iload_n 1, 1) by decide +kernel) (pc' := 92) rfl rfl rfl ?_
  refine X_iaload (w := I (q_65_17 + 3) x1.toNatClampNeg) (show decode (mB 140) 92 = .ok (.iaload, 1) by decide +kernel) (pc' := 93) rfl h_q_65_17.s3 hb92 rfl ?_
  refine X_iload_n (q := 2) (show decode (mB 140) 93 = .ok (.iload_n 2, 1) by decide +kernel) (pc' := 94) rfl rfl rfl ?_
  exact X_callV (y := 140) (n := 2) (st := [.int x2, .int (I (q_65_17 + 3) x1.toNatClampNeg), .ref 65]) (as := [.ref 65, .int (I (q_65_17 + 3) x1.toNatClampNeg), .int x2]) (rest := []) (ls0 := [.ref 65, .int (I (q_65_17 + 3) x1.toNatClampNeg), .int x2]) (ci := 13) (show decode (mB 140) 94 = .ok (.invokevirtual 216, 3) by decide +kernel) (pc' := 97) rfl (by decide +kernel) (by decide +kernel) rfl (ls_65 hL) (by decide +kernel) rfl rfl rfl rfl rfl k
set_option maxRecDepth 4000 in
theorem b_X14_names_97 {xs : Nat → Int32} {L d : Nat} {S : Nat → Shp} {I : Nat → Nat → Int32} {J : Nat → Nat → Int64} {R : Nat → Nat → Nat} {c : Nat × Nat} {Q : Option (Option Value) → MH → Prop} {x1 x2 sx0 : Int32}  (kt : sx0 = 0 → X xs L (d + 1) 140 104 [.ref 65, .int x1, .int x2] [] (S, I, J, R, c) Q) (kf : ¬ (sx0 = 0) → X xs L (d + 1) 140 100 [.ref 65, .int x1, .int x2] [] (S, I, J, R, c) Q) : X xs L (d + 1) 140 97 [.ref 65, .int x1, .int x2] [.int sx0] (S, I, J, R, c) Q := by
  exact X_if_eq (tgt := 104) (show decode (mB 140) 97 = .ok (.ifCond .eq 7, 3) by decide +kernel) rfl (pc' := 100) rfl kt kf
set_option maxRecDepth 4000 in
theorem b_X14_names_100 {xs : Nat → Int32} {L d : Nat} {S : Nat → Shp} {I : Nat → Nat → Int32} {J : Nat → Nat → Int64} {R : Nat → Nat → Nat} {c : Nat × Nat} {Q : Option (Option Value) → MH → Prop} {x1 x2 : Int32}  (k : X xs L (d + 1) 140 105 [.ref 65, .int x1, .int x2] [.int 1] (S, I, J, R, c) Q) : X xs L (d + 1) 140 100 [.ref 65, .int x1, .int x2] [] (S, I, J, R, c) Q := by
  refine X_iconst (v := 1) (show decode (mB 140) 100 = .ok (.iconst 1, 1) by decide +kernel) (pc' := 101) rfl rfl ?_
  refine X_goto (tgt := 105) (show decode (mB 140) 101 = .ok (.goto 4, 3) by decide +kernel) rfl ?_
  exact k
set_option maxRecDepth 4000 in
theorem b_X14_names_104 {xs : Nat → Int32} {L d : Nat} {S : Nat → Shp} {I : Nat → Nat → Int32} {J : Nat → Nat → Int64} {R : Nat → Nat → Nat} {c : Nat × Nat} {Q : Option (Option Value) → MH → Prop} {x1 x2 : Int32}  (k : X xs L (d + 1) 140 105 [.ref 65, .int x1, .int x2] [.int 0] (S, I, J, R, c) Q) : X xs L (d + 1) 140 104 [.ref 65, .int x1, .int x2] [] (S, I, J, R, c) Q := by
  refine X_iconst (v := 0) (show decode (mB 140) 104 = .ok (.iconst 0, 1) by decide +kernel) (pc' := 105) rfl rfl ?_
  exact k
set_option maxRecDepth 4000 in
theorem b_X14_names_105 {xs : Nat → Int32} {L d : Nat} {S : Nat → Shp} {I : Nat → Nat → Int32} {J : Nat → Nat → Int64} {R : Nat → Nat → Nat} {c : Nat × Nat} {Q : Option (Option Value) → MH → Prop} {x1 x2 sx0 : Int32} (hz105 : sx0 = 0 ∨ sx0 = 1) (k : Q (some (some (.int sx0))) (S, I, J, R, c)) : X xs L (d + 1) 140 105 [.ref 65, .int x1, .int x2] [.int sx0] (S, I, J, R, c) Q := by
  exact X_ireturn (ty := .boolean) (show decode (mB 140) 105 = .ok (.ireturn, 1) by decide +kernel) (by decide +kernel) (nz hz105) k
set_option maxRecDepth 4000 in
theorem b_X14_reach_0 {xs : Nat → Int32} {L d : Nat} {S : Nat → Shp} {I : Nat → Nat → Int32} {J : Nat → Nat → Int64} {R : Nat → Nat → Nat} {c : Nat × Nat} {Q : Option (Option Value) → MH → Prop} {r1 : Nat} {x2 x3 : Int32} (hL : Lay S R)  (k : X xs L (d + 1) 141 9 [.ref 65, .ref r1, .int x2, .int x3, .ref 118, .int 0, .null, .null, .null] [] (S, I, J, R, c) Q) : X xs L (d + 1) 141 0 [.ref 65, .ref r1, .int x2, .int x3, .null, .null, .null, .null, .null] [] (S, I, J, R, c) Q := by
  refine X_aload_n (q := 0) (show decode (mB 141) 0 = .ok (.aload_n 0, 1) by decide +kernel) (pc' := 1) rfl rfl rfl ?_
  refine X_getR (ci := 13) (f := 30) (q := 118) (show decode (mB 141) 1 = .ok (.getfield 80, 3) by decide +kernel) (pc' := 4) rfl (ls_65 hL) (by decide +kernel) rfl (lr_65_30 hL) ?_
  refine X_astore (q := 4) (ls' := [.ref 65, .ref r1, .int x2, .int x3, .ref 118, .null, .null, .null, .null]) (show decode (mB 141) 4 = .ok (.astore 4, 2) by decide +kernel) (pc' := 6) rfl rfl ?_
  refine X_iconst (v := 0) (show decode (mB 141) 6 = .ok (.iconst 0, 1) by decide +kernel) (pc' := 7) rfl rfl ?_
  refine X_istore (q := 5) (ls' := [.ref 65, .ref r1, .int x2, .int x3, .ref 118, .int 0, .null, .null, .null]) (show decode (mB 141) 7 = .ok (.istore 5, 2) by decide +kernel) (pc' := 9) rfl rfl ?_
  exact k
set_option maxRecDepth 4000 in
theorem b_X14_reach_9 {xs : Nat → Int32} {L d : Nat} {S : Nat → Shp} {I : Nat → Nat → Int32} {J : Nat → Nat → Int64} {R : Nat → Nat → Nat} {c : Nat × Nat} {Q : Option (Option Value) → MH → Prop} {r1 : Nat} {x2 x3 x5 : Int32}  (kt : 40 ≤ x5 → X xs L (d + 1) 141 28 [.ref 65, .ref r1, .int x2, .int x3, .ref 118, .int x5, .null, .null, .null] [] (S, I, J, R, c) Q) (kf : ¬ (40 ≤ x5) → X xs L (d + 1) 141 16 [.ref 65, .ref r1, .int x2, .int x3, .ref 118, .int x5, .null, .null, .null] [] (S, I, J, R, c) Q) : X xs L (d + 1) 141 9 [.ref 65, .ref r1, .int x2, .int x3, .ref 118, .int x5, .null, .null, .null] [] (S, I, J, R, c) Q := by
  refine X_iload (q := 5) (show decode (mB 141) 9 = .ok (.iload 5, 2) by decide +kernel) (pc' := 11) rfl rfl ?_
  refine X_bipush (v := 40) (show decode (mB 141) 11 = .ok (.bipush 40, 2) by decide +kernel) (pc' := 13) rfl (by decide +kernel) ?_
  exact X_icmp_ge (tgt := 28) (show decode (mB 141) 13 = .ok (.if_icmp .ge 15, 3) by decide +kernel) rfl (pc' := 16) rfl kt kf
set_option maxRecDepth 4000 in
theorem b_X14_reach_16 {xs : Nat → Int32} {L d : Nat} {S : Nat → Shp} {I : Nat → Nat → Int32} {J : Nat → Nat → Int64} {R : Nat → Nat → Nat} {c : Nat × Nat} {Q : Option (Option Value) → MH → Prop} {r1 : Nat} {x2 x3 x5 : Int32} (hL : Lay S R) (hb21 : inb x5 40 = true) (k : X xs L (d + 1) 141 9 [.ref 65, .ref r1, .int x2, .int x3, .ref 118, .int (x5 + 1), .null, .null, .null] [] (S, (u2 I 118 x5.toNatClampNeg (vp_nar .boolean 0)), J, R, c) Q) : X xs L (d + 1) 141 16 [.ref 65, .ref r1, .int x2, .int x3, .ref 118, .int x5, .null, .null, .null] [] (S, I, J, R, c) Q := by
  refine X_aload (q := 4) (show decode (mB 141) 16 = .ok (.aload 4, 2) by decide +kernel) (pc' := 18) rfl rfl ?_
  refine X_iload (q := 5) (show decode (mB 141) 18 = .ok (.iload 5, 2) by decide +kernel) (pc' := 20) rfl rfl ?_
  refine X_iconst (v := 0) (show decode (mB 141) 20 = .ok (.iconst 0, 1) by decide +kernel) (pc' := 21) rfl rfl ?_
  refine X_zastore (show decode (mB 141) 21 = .ok (.bastore, 1) by decide +kernel) (pc' := 22) rfl (ls_118 hL) hb21 ?_
  refine X_iinc (q := 5) (v := x5 + 1) (ls' := [.ref 65, .ref r1, .int x2, .int x3, .ref 118, .int (x5 + 1), .null, .null, .null]) (show decode (mB 141) 22 = .ok (.iinc 5 1, 3) by decide +kernel) (pc' := 25) rfl rfl rfl rfl ?_
  refine X_goto (tgt := 9) (show decode (mB 141) 25 = .ok (.goto (-16), 3) by decide +kernel) rfl ?_
  exact k
set_option maxRecDepth 4000 in
theorem b_X14_reach_28 {xs : Nat → Int32} {L d : Nat} {S : Nat → Shp} {I : Nat → Nat → Int32} {J : Nat → Nat → Int64} {R : Nat → Nat → Nat} {c : Nat × Nat} {Q : Option (Option Value) → MH → Prop} {r1 : Nat} {x2 x3 x5 : Int32}  (k : X xs L (d + 1) 141 31 [.ref 65, .ref r1, .int x2, .int x3, .ref 118, .int 1, .null, .null, .null] [] (S, I, J, R, c) Q) : X xs L (d + 1) 141 28 [.ref 65, .ref r1, .int x2, .int x3, .ref 118, .int x5, .null, .null, .null] [] (S, I, J, R, c) Q := by
  refine X_iconst (v := 1) (show decode (mB 141) 28 = .ok (.iconst 1, 1) by decide +kernel) (pc' := 29) rfl rfl ?_
  refine X_istore (q := 5) (ls' := [.ref 65, .ref r1, .int x2, .int x3, .ref 118, .int 1, .null, .null, .null]) (show decode (mB 141) 29 = .ok (.istore 5, 2) by decide +kernel) (pc' := 31) rfl rfl ?_
  exact k
set_option maxRecDepth 4000 in
theorem b_X14_reach_31 {xs : Nat → Int32} {L d : Nat} {S : Nat → Shp} {I : Nat → Nat → Int32} {J : Nat → Nat → Int64} {R : Nat → Nat → Nat} {c : Nat × Nat} {Q : Option (Option Value) → MH → Prop} {r1 : Nat} {x2 x3 x5 : Int32} {v6 v7 v8 : Value}  (kt : x5 = 0 → X xs L (d + 1) 141 172 [.ref 65, .ref r1, .int x2, .int x3, .ref 118, .int x5, v6, v7, v8] [] (S, I, J, R, c) Q) (kf : ¬ (x5 = 0) → X xs L (d + 1) 141 36 [.ref 65, .ref r1, .int x2, .int x3, .ref 118, .int x5, v6, v7, v8] [] (S, I, J, R, c) Q) : X xs L (d + 1) 141 31 [.ref 65, .ref r1, .int x2, .int x3, .ref 118, .int x5, v6, v7, v8] [] (S, I, J, R, c) Q := by
  refine X_iload (q := 5) (show decode (mB 141) 31 = .ok (.iload 5, 2) by decide +kernel) (pc' := 33) rfl rfl ?_
  exact X_if_eq (tgt := 172) (show decode (mB 141) 33 = .ok (.ifCond .eq 139, 3) by decide +kernel) rfl (pc' := 36) rfl kt kf
set_option maxRecDepth 4000 in
theorem b_X14_reach_36 {xs : Nat → Int32} {L d : Nat} {S : Nat → Shp} {I : Nat → Nat → Int32} {J : Nat → Nat → Int64} {R : Nat → Nat → Nat} {c : Nat × Nat} {Q : Option (Option Value) → MH → Prop} {r1 : Nat} {x2 x3 x5 : Int32} {v6 v7 v8 : Value}  (k : X xs L (d + 1) 141 42 [.ref 65, .ref r1, .int x2, .int x3, .ref 118, .int 0, .int 0, v7, v8] [] (S, I, J, R, c) Q) : X xs L (d + 1) 141 36 [.ref 65, .ref r1, .int x2, .int x3, .ref 118, .int x5, v6, v7, v8] [] (S, I, J, R, c) Q := by
  refine X_iconst (v := 0) (show decode (mB 141) 36 = .ok (.iconst 0, 1) by decide +kernel) (pc' := 37) rfl rfl ?_
  refine X_istore (q := 5) (ls' := [.ref 65, .ref r1, .int x2, .int x3, .ref 118, .int 0, v6, v7, v8]) (show decode (mB 141) 37 = .ok (.istore 5, 2) by decide +kernel) (pc' := 39) rfl rfl ?_
  refine X_iconst (v := 0) (show decode (mB 141) 39 = .ok (.iconst 0, 1) by decide +kernel) (pc' := 40) rfl rfl ?_
  refine X_istore (q := 6) (ls' := [.ref 65, .ref r1, .int x2, .int x3, .ref 118, .int 0, .int 0, v7, v8]) (show decode (mB 141) 40 = .ok (.istore 6, 2) by decide +kernel) (pc' := 42) rfl rfl ?_
  exact k
set_option maxRecDepth 4000 in
theorem b_X14_reach_42 {xs : Nat → Int32} {L d : Nat} {S : Nat → Shp} {I : Nat → Nat → Int32} {J : Nat → Nat → Int64} {R : Nat → Nat → Nat} {c : Nat × Nat} {Q : Option (Option Value) → MH → Prop} {r1 : Nat} {x2 x3 x5 x6 : Int32} {v7 v8 : Value} (h_r1 : LyNo S R r1) (kt : (I r1 4) ≤ x6 → X xs L (d + 1) 141 169 [.ref 65, .ref r1, .int x2, .int x3, .ref 118, .int x5, .int x6, v7, v8] [] (S, I, J, R, c) Q) (kf : ¬ ((I r1 4) ≤ x6) → X xs L (d + 1) 141 51 [.ref 65, .ref r1, .int x2, .int x3, .ref 118, .int x5, .int x6, v7, v8] [] (S, I, J, R, c) Q) : X xs L (d + 1) 141 42 [.ref 65, .ref r1, .int x2, .int x3, .ref 118, .int x5, .int x6, v7, v8] [] (S, I, J, R, c) Q := by
  refine X_iload (q := 6) (show decode (mB 141) 42 = .ok (.iload 6, 2) by decide +kernel) (pc' := 44) rfl rfl ?_
  refine X_aload_n (q := 1) (show decode (mB 141) 44 = .ok (.aload_n 1, 1) by decide +kernel) (pc' := 45) rfl rfl rfl ?_
  refine X_getI (ci := 11) (f := 4) (x := I r1 4) (show decode (mB 141) 45 = .ok (.getfield 200, 3) by decide +kernel) (pc' := 48) rfl h_r1.s0 (by decide +kernel) rfl rfl ?_
  exact X_icmp_ge (tgt := 169) (show decode (mB 141) 48 = .ok (.if_icmp .ge 121, 3) by decide +kernel) rfl (pc' := 51) rfl kt kf
set_option maxRecDepth 4000 in
theorem b_X14_reach_51 {xs : Nat → Int32} {L d : Nat} {S : Nat → Shp} {I : Nat → Nat → Int32} {J : Nat → Nat → Int64} {R : Nat → Nat → Nat} {c : Nat × Nat} {Q : Option (Option Value) → MH → Prop} {r1 : Nat} {x2 x3 x5 x6 : Int32} {v7 v8 : Value} (hL : Lay S R) (hb55 : inb x6 40 = true) (kt : ¬ (I 118 x6.toNatClampNeg) = 0 → X xs L (d + 1) 141 163 [.ref 65, .ref r1, .int x2, .int x3, .ref 118, .int x5, .int x6, v7, v8] [] (S, I, J, R, c) Q) (kf : ¬ (¬ (I 118 x6.toNatClampNeg) = 0) → X xs L (d + 1) 141 59 [.ref 65, .ref r1, .int x2, .int x3, .ref 118, .int x5, .int x6, v7, v8] [] (S, I, J, R, c) Q) : X xs L (d + 1) 141 51 [.ref 65, .ref r1, .int x2, .int x3, .ref 118, .int x5, .int x6, v7, v8] [] (S, I, J, R, c) Q := by
  refine X_aload (q := 4) (show decode (mB 141) 51 = .ok (.aload 4, 2) by decide +kernel) (pc' := 53) rfl rfl ?_
  refine X_iload (q := 6) (show decode (mB 141) 53 = .ok (.iload 6, 2) by decide +kernel) (pc' := 55) rfl rfl ?_
  refine X_zaload (w := I 118 x6.toNatClampNeg) (show decode (mB 141) 55 = .ok (.baload, 1) by decide +kernel) (pc' := 56) rfl (ls_118 hL) hb55 rfl ?_
  exact X_if_ne (tgt := 163) (show decode (mB 141) 56 = .ok (.ifCond .ne 107, 3) by decide +kernel) rfl (pc' := 59) rfl kt kf
set_option maxRecDepth 4000 in
theorem b_X14_reach_59 {xs : Nat → Int32} {L d : Nat} {S : Nat → Shp} {I : Nat → Nat → Int32} {J : Nat → Nat → Int64} {R : Nat → Nat → Nat} {c : Nat × Nat} {Q : Option (Option Value) → MH → Prop} {r1 : Nat} {x2 x3 x5 x6 : Int32} {v7 v8 : Value}  (kt : x3 = 0 → X xs L (d + 1) 141 78 [.ref 65, .ref r1, .int x2, .int x3, .ref 118, .int x5, .int x6, v7, v8] [] (S, I, J, R, c) Q) (kf : ¬ (x3 = 0) → X xs L (d + 1) 141 63 [.ref 65, .ref r1, .int x2, .int x3, .ref 118, .int x5, .int x6, v7, v8] [] (S, I, J, R, c) Q) : X xs L (d + 1) 141 59 [.ref 65, .ref r1, .int x2, .int x3, .ref 118, .int x5, .int x6, v7, v8] [] (S, I, J, R, c) Q := by
  refine X_iload_n (q := 3) (show decode (mB 141) 59 = .ok (.iload_n 3, 1) by decide +kernel) (pc' := 60) rfl rfl rfl ?_
  exact X_if_eq (tgt := 78) (show decode (mB 141) 60 = .ok (.ifCond .eq 18, 3) by decide +kernel) rfl (pc' := 63) rfl kt kf
set_option maxRecDepth 4000 in
theorem b_X14_reach_63 {xs : Nat → Int32} {L d : Nat} {S : Nat → Shp} {I : Nat → Nat → Int32} {J : Nat → Nat → Int64} {R : Nat → Nat → Nat} {c : Nat × Nat} {Q : Option (Option Value) → MH → Prop} {r1 : Nat} {x2 x3 x5 x6 : Int32} {v7 v8 : Value} (h_r1 : LyNo S R r1) (hb69 : inb x6 40 = true) (kt : (I (r1 + 2) x6.toNatClampNeg) = 11 → X xs L (d + 1) 141 78 [.ref 65, .ref r1, .int x2, .int x3, .ref 118, .int x5, .int x6, v7, v8] [] (S, I, J, R, c) Q) (kf : ¬ ((I (r1 + 2) x6.toNatClampNeg) = 11) → X xs L (d + 1) 141 75 [.ref 65, .ref r1, .int x2, .int x3, .ref 118, .int x5, .int x6, v7, v8] [] (S, I, J, R, c) Q) : X xs L (d + 1) 141 63 [.ref 65, .ref r1, .int x2, .int x3, .ref 118, .int x5, .int x6, v7, v8] [] (S, I, J, R, c) Q := by
  refine X_aload_n (q := 1) (show decode (mB 141) 63 = .ok (.aload_n 1, 1) by decide +kernel) (pc' := 64) rfl rfl rfl ?_
  refine X_getR (ci := 11) (f := 1) (q := (r1 + 2)) (show decode (mB 141) 64 = .ok (.getfield 209, 3) by decide +kernel) (pc' := 67) rfl h_r1.s0 (by decide +kernel) rfl h_r1.r0_1 ?_
  refine X_iload (q := 6) (show decode (mB 141) 67 = .ok (.iload 6, 2) by decide +kernel) (pc' := 69) rfl rfl ?_
  refine X_iaload (w := I (r1 + 2) x6.toNatClampNeg) (show decode (mB 141) 69 = .ok (.iaload, 1) by decide +kernel) (pc' := 70) rfl h_r1.s2 hb69 rfl ?_
  refine X_bipush (v := 11) (show decode (mB 141) 70 = .ok (.bipush 11, 2) by decide +kernel) (pc' := 72) rfl (by decide +kernel) ?_
  exact X_icmp_eq (tgt := 78) (show decode (mB 141) 72 = .ok (.if_icmp .eq 6, 3) by decide +kernel) rfl (pc' := 75) rfl kt kf
set_option maxRecDepth 4000 in
theorem b_X14_reach_75 {xs : Nat → Int32} {L d : Nat} {S : Nat → Shp} {I : Nat → Nat → Int32} {J : Nat → Nat → Int64} {R : Nat → Nat → Nat} {c : Nat × Nat} {Q : Option (Option Value) → MH → Prop} {r1 : Nat} {x2 x3 x5 x6 : Int32} {v7 v8 : Value}  (k : X xs L (d + 1) 141 163 [.ref 65, .ref r1, .int x2, .int x3, .ref 118, .int x5, .int x6, v7, v8] [] (S, I, J, R, c) Q) : X xs L (d + 1) 141 75 [.ref 65, .ref r1, .int x2, .int x3, .ref 118, .int x5, .int x6, v7, v8] [] (S, I, J, R, c) Q := by
  refine X_goto (tgt := 163) (show decode (mB 141) 75 = .ok (.goto 88, 3) by decide +kernel) rfl ?_
  exact k
set_option maxRecDepth 4000 in
theorem b_X14_reach_78 {xs : Nat → Int32} {L d : Nat} {S : Nat → Shp} {I : Nat → Nat → Int32} {J : Nat → Nat → Int64} {R : Nat → Nat → Nat} {c : Nat × Nat} {Q : Option (Option Value) → MH → Prop} {r1 : Nat} {x2 x3 x5 x6 : Int32} {v7 v8 : Value} (hL : Lay S R) (h_r1 : LyNo S R r1) (hb84 : inb x2 40 = true) (k : X xs L d 140 0 [.ref 65, .int (I (r1 + 3) x2.toNatClampNeg), .int x6] [] (S, I, J, R, c) (Kc xs L (d + 1) 141 90 [.ref 65, .ref r1, .int x2, .int x3, .ref 118, .int x5, .int x6, v7, v8] [] Q)) : X xs L (d + 1) 141 78 [.ref 65, .ref r1, .int x2, .int x3, .ref 118, .int x5, .int x6, v7, v8] [] (S, I, J, R, c) Q := by
  refine X_aload_n (q := 0) (show decode (mB 141) 78 = .ok (.aload_n 0, 1) by decide +kernel) (pc' := 79) rfl rfl rfl ?_
  refine X_aload_n (q := 1) (show decode (mB 141) 79 = .ok (.aload_n 1, 1) by decide +kernel) (pc' := 80) rfl rfl rfl ?_
  refine X_getR (ci := 11) (f := 2) (q := (r1 + 3)) (show decode (mB 141) 80 = .ok (.getfield 210, 3) by decide +kernel) (pc' := 83) rfl h_r1.s0 (by decide +kernel) rfl h_r1.r0_2 ?_
  refine X_iload_n (q := 2) (show decode (mB 141) 83 = .ok (.iload_n 2, 1) by decide +kernel) (pc' := 84) rfl rfl rfl ?_
  refine X_iaload (w := I (r1 + 3) x2.toNatClampNeg) (show decode (mB 141) 84 = .ok (.iaload, 1) by decide +kernel) (pc' := 85) rfl h_r1.s3 hb84 rfl ?_
  refine X_iload (q := 6) (show decode (mB 141) 85 = .ok (.iload 6, 2) by decide +kernel) (pc' := 87) rfl rfl ?_
  exact X_callV (y := 140) (n := 2) (st := [.int x6, .int (I (r1 + 3) x2.toNatClampNeg), .ref 65]) (as := [.ref 65, .int (I (r1 + 3) x2.toNatClampNeg), .int x6]) (rest := []) (ls0 := [.ref 65, .int (I (r1 + 3) x2.toNatClampNeg), .int x6]) (ci := 13) (show decode (mB 141) 87 = .ok (.invokevirtual 216, 3) by decide +kernel) (pc' := 90) rfl (by decide +kernel) (by decide +kernel) rfl (ls_65 hL) (by decide +kernel) rfl rfl rfl rfl rfl k
set_option maxRecDepth 4000 in
theorem b_X14_reach_90 {xs : Nat → Int32} {L d : Nat} {S : Nat → Shp} {I : Nat → Nat → Int32} {J : Nat → Nat → Int64} {R : Nat → Nat → Nat} {c : Nat × Nat} {Q : Option (Option Value) → MH → Prop} {r1 : Nat} {x2 x3 x5 x6 sx0 : Int32} {v7 v8 : Value}  (k : X xs L (d + 1) 141 95 [.ref 65, .ref r1, .int x2, .int x3, .ref 118, .int x5, .int x6, .int sx0, .int 0] [] (S, I, J, R, c) Q) : X xs L (d + 1) 141 90 [.ref 65, .ref r1, .int x2, .int x3, .ref 118, .int x5, .int x6, v7, v8] [.int sx0] (S, I, J, R, c) Q := by
  refine X_istore (q := 7) (ls' := [.ref 65, .ref r1, .int x2, .int x3, .ref 118, .int x5, .int x6, .int sx0, v8]) (show decode (mB 141) 90 = .ok (.istore 7, 2) by decide +kernel) (pc' := 92) rfl rfl ?_
  refine X_iconst (v := 0) (show decode (mB 141) 92 = .ok (.iconst 0, 1) by decide +kernel) (pc' := 93) rfl rfl ?_
  refine X_istore (q := 8) (ls' := [.ref 65, .ref r1, .int x2, .int x3, .ref 118, .int x5, .int x6, .int sx0, .int 0]) (show decode (mB 141) 93 = .ok (.istore 8, 2) by decide +kernel) (pc' := 95) rfl rfl ?_
  exact k
set_option maxRecDepth 4000 in
theorem b_X14_reach_95 {xs : Nat → Int32} {L d : Nat} {S : Nat → Shp} {I : Nat → Nat → Int32} {J : Nat → Nat → Int64} {R : Nat → Nat → Nat} {c : Nat × Nat} {Q : Option (Option Value) → MH → Prop} {r1 : Nat} {x2 x3 x5 x6 x7 x8 : Int32} (h_r1 : LyNo S R r1) (kt : (I r1 4) ≤ x8 → X xs L (d + 1) 141 146 [.ref 65, .ref r1, .int x2, .int x3, .ref 118, .int x5, .int x6, .int x7, .int x8] [] (S, I, J, R, c) Q) (kf : ¬ ((I r1 4) ≤ x8) → X xs L (d + 1) 141 104 [.ref 65, .ref r1, .int x2, .int x3, .ref 118, .int x5, .int x6, .int x7, .int x8] [] (S, I, J, R, c) Q) : X xs L (d + 1) 141 95 [.ref 65, .ref r1, .int x2, .int x3, .ref 118, .int x5, .int x6, .int x7, .int x8] [] (S, I, J, R, c) Q := by
  refine X_iload (q := 8) (show decode (mB 141) 95 = .ok (.iload 8, 2) by decide +kernel) (pc' := 97) rfl rfl ?_
  refine X_aload_n (q := 1) (show decode (mB 141) 97 = .ok (.aload_n 1, 1) by decide +kernel) (pc' := 98) rfl rfl rfl ?_
  refine X_getI (ci := 11) (f := 4) (x := I r1 4) (show decode (mB 141) 98 = .ok (.getfield 200, 3) by decide +kernel) (pc' := 101) rfl h_r1.s0 (by decide +kernel) rfl rfl ?_
  exact X_icmp_ge (tgt := 146) (show decode (mB 141) 101 = .ok (.if_icmp .ge 45, 3) by decide +kernel) rfl (pc' := 104) rfl kt kf
set_option maxRecDepth 4000 in
theorem b_X14_reach_104 {xs : Nat → Int32} {L d : Nat} {S : Nat → Shp} {I : Nat → Nat → Int32} {J : Nat → Nat → Int64} {R : Nat → Nat → Nat} {c : Nat × Nat} {Q : Option (Option Value) → MH → Prop} {r1 : Nat} {x2 x3 x5 x6 x7 x8 : Int32}  (kt : ¬ x7 = 0 → X xs L (d + 1) 141 146 [.ref 65, .ref r1, .int x2, .int x3, .ref 118, .int x5, .int x6, .int x7, .int x8] [] (S, I, J, R, c) Q) (kf : ¬ (¬ x7 = 0) → X xs L (d + 1) 141 109 [.ref 65, .ref r1, .int x2, .int x3, .ref 118, .int x5, .int x6, .int x7, .int x8] [] (S, I, J, R, c) Q) : X xs L (d + 1) 141 104 [.ref 65, .ref r1, .int x2, .int x3, .ref 118, .int x5, .int x6, .int x7, .int x8] [] (S, I, J, R, c) Q := by
  refine X_iload (q := 7) (show decode (mB 141) 104 = .ok (.iload 7, 2) by decide +kernel) (pc' := 106) rfl rfl ?_
  exact X_if_ne (tgt := 146) (show decode (mB 141) 106 = .ok (.ifCond .ne 40, 3) by decide +kernel) rfl (pc' := 109) rfl kt kf
set_option maxRecDepth 4000 in
theorem b_X14_reach_109 {xs : Nat → Int32} {L d : Nat} {S : Nat → Shp} {I : Nat → Nat → Int32} {J : Nat → Nat → Int64} {R : Nat → Nat → Nat} {c : Nat × Nat} {Q : Option (Option Value) → MH → Prop} {r1 : Nat} {x2 x3 x5 x6 x7 x8 : Int32} (hL : Lay S R) (hb113 : inb x8 40 = true) (kt : (I 118 x8.toNatClampNeg) = 0 → X xs L (d + 1) 141 137 [.ref 65, .ref r1, .int x2, .int x3, .ref 118, .int x5, .int x6, .int x7, .int x8] [] (S, I, J, R, c) Q) (kf : ¬ ((I 118 x8.toNatClampNeg) = 0) → X xs L (d + 1) 141 117 [.ref 65, .ref r1, .int x2, .int x3, .ref 118, .int x5, .int x6, .int x7, .int x8] [] (S, I, J, R, c) Q) : X xs L (d + 1) 141 109 [.ref 65, .ref r1, .int x2, .int x3, .ref 118, .int x5, .int x6, .int x7, .int x8] [] (S, I, J, R, c) Q := by
  refine X_aload (q := 4) (show decode (mB 141) 109 = .ok (.aload 4, 2) by decide +kernel) (pc' := 111) rfl rfl ?_
  refine X_iload (q := 8) (show decode (mB 141) 111 = .ok (.iload 8, 2) by decide +kernel) (pc' := 113) rfl rfl ?_
  refine X_zaload (w := I 118 x8.toNatClampNeg) (show decode (mB 141) 113 = .ok (.baload, 1) by decide +kernel) (pc' := 114) rfl (ls_118 hL) hb113 rfl ?_
  exact X_if_eq (tgt := 137) (show decode (mB 141) 114 = .ok (.ifCond .eq 23, 3) by decide +kernel) rfl (pc' := 117) rfl kt kf
set_option maxRecDepth 4000 in
theorem b_X14_reach_117 {xs : Nat → Int32} {L d : Nat} {S : Nat → Shp} {I : Nat → Nat → Int32} {J : Nat → Nat → Int64} {R : Nat → Nat → Nat} {c : Nat × Nat} {Q : Option (Option Value) → MH → Prop} {r1 : Nat} {x2 x3 x5 x6 x7 x8 : Int32} (hL : Lay S R) (h_r1 : LyNo S R r1) (hb124 : inb x8 40 = true) (k : X xs L d 140 0 [.ref 65, .int (I (r1 + 3) x8.toNatClampNeg), .int x6] [] (S, I, J, R, c) (Kc xs L (d + 1) 141 130 [.ref 65, .ref r1, .int x2, .int x3, .ref 118, .int x5, .int x6, .int x7, .int x8] [] Q)) : X xs L (d + 1) 141 117 [.ref 65, .ref r1, .int x2, .int x3, .ref 118, .int x5, .int x6, .int x7, .int x8] [] (S, I, J, R, c) Q := by
  refine X_aload_n (q := 0) (show decode (mB 141) 117 = .ok (.aload_n 0, 1) by decide +kernel) (pc' := 118) rfl rfl rfl ?_
  refine X_aload_n (q := 1) (show decode (mB 141) 118 = .ok (.aload_n 1, 1) by decide +kernel) (pc' := 119) rfl rfl rfl ?_
  refine X_getR (ci := 11) (f := 2) (q := (r1 + 3)) (show decode (mB 141) 119 = .ok (.getfield 210, 3) by decide +kernel) (pc' := 122) rfl h_r1.s0 (by decide +kernel) rfl h_r1.r0_2 ?_
  refine X_iload (q := 8) (show decode (mB 141) 122 = .ok (.iload 8, 2) by decide +kernel) (pc' := 124) rfl rfl ?_
  refine X_iaload (w := I (r1 + 3) x8.toNatClampNeg) (show decode (mB 141) 124 = .ok (.iaload, 1) by decide +kernel) (pc' := 125) rfl h_r1.s3 hb124 rfl ?_
  refine X_iload (q := 6) (show decode (mB 141) 125 = .ok (.iload 6, 2) by decide +kernel) (pc' := 127) rfl rfl ?_
  exact X_callV (y := 140) (n := 2) (st := [.int x6, .int (I (r1 + 3) x8.toNatClampNeg), .ref 65]) (as := [.ref 65, .int (I (r1 + 3) x8.toNatClampNeg), .int x6]) (rest := []) (ls0 := [.ref 65, .int (I (r1 + 3) x8.toNatClampNeg), .int x6]) (ci := 13) (show decode (mB 141) 127 = .ok (.invokevirtual 216, 3) by decide +kernel) (pc' := 130) rfl (by decide +kernel) (by decide +kernel) rfl (ls_65 hL) (by decide +kernel) rfl rfl rfl rfl rfl k
set_option maxRecDepth 4000 in
theorem b_X14_reach_130 {xs : Nat → Int32} {L d : Nat} {S : Nat → Shp} {I : Nat → Nat → Int32} {J : Nat → Nat → Int64} {R : Nat → Nat → Nat} {c : Nat × Nat} {Q : Option (Option Value) → MH → Prop} {r1 : Nat} {x2 x3 x5 x6 x7 x8 sx0 : Int32}  (kt : sx0 = 0 → X xs L (d + 1) 141 137 [.ref 65, .ref r1, .int x2, .int x3, .ref 118, .int x5, .int x6, .int x7, .int x8] [] (S, I, J, R, c) Q) (kf : ¬ (sx0 = 0) → X xs L (d + 1) 141 133 [.ref 65, .ref r1, .int x2, .int x3, .ref 118, .int x5, .int x6, .int x7, .int x8] [] (S, I, J, R, c) Q) : X xs L (d + 1) 141 130 [.ref 65, .ref r1, .int x2, .int x3, .ref 118, .int x5, .int x6, .int x7, .int x8] [.int sx0] (S, I, J, R, c) Q := by
  exact X_if_eq (tgt := 137) (show decode (mB 141) 130 = .ok (.ifCond .eq 7, 3) by decide +kernel) rfl (pc' := 133) rfl kt kf
set_option maxRecDepth 4000 in
theorem b_X14_reach_133 {xs : Nat → Int32} {L d : Nat} {S : Nat → Shp} {I : Nat → Nat → Int32} {J : Nat → Nat → Int64} {R : Nat → Nat → Nat} {c : Nat × Nat} {Q : Option (Option Value) → MH → Prop} {r1 : Nat} {x2 x3 x5 x6 x7 x8 : Int32}  (k : X xs L (d + 1) 141 138 [.ref 65, .ref r1, .int x2, .int x3, .ref 118, .int x5, .int x6, .int x7, .int x8] [.int 1] (S, I, J, R, c) Q) : X xs L (d + 1) 141 133 [.ref 65, .ref r1, .int x2, .int x3, .ref 118, .int x5, .int x6, .int x7, .int x8] [] (S, I, J, R, c) Q := by
  refine X_iconst (v := 1) (show decode (mB 141) 133 = .ok (.iconst 1, 1) by decide +kernel) (pc' := 134) rfl rfl ?_
  refine X_goto (tgt := 138) (show decode (mB 141) 134 = .ok (.goto 4, 3) by decide +kernel) rfl ?_
  exact k
set_option maxRecDepth 4000 in
theorem b_X14_reach_137 {xs : Nat → Int32} {L d : Nat} {S : Nat → Shp} {I : Nat → Nat → Int32} {J : Nat → Nat → Int64} {R : Nat → Nat → Nat} {c : Nat × Nat} {Q : Option (Option Value) → MH → Prop} {r1 : Nat} {x2 x3 x5 x6 x7 x8 : Int32}  (k : X xs L (d + 1) 141 138 [.ref 65, .ref r1, .int x2, .int x3, .ref 118, .int x5, .int x6, .int x7, .int x8] [.int 0] (S, I, J, R, c) Q) : X xs L (d + 1) 141 137 [.ref 65, .ref r1, .int x2, .int x3, .ref 118, .int x5, .int x6, .int x7, .int x8] [] (S, I, J, R, c) Q := by
  refine X_iconst (v := 0) (show decode (mB 141) 137 = .ok (.iconst 0, 1) by decide +kernel) (pc' := 138) rfl rfl ?_
  exact k
set_option maxRecDepth 4000 in
theorem b_X14_reach_138 {xs : Nat → Int32} {L d : Nat} {S : Nat → Shp} {I : Nat → Nat → Int32} {J : Nat → Nat → Int64} {R : Nat → Nat → Nat} {c : Nat × Nat} {Q : Option (Option Value) → MH → Prop} {r1 : Nat} {x2 x3 x5 x6 x7 x8 sx0 : Int32}  (k : X xs L (d + 1) 141 95 [.ref 65, .ref r1, .int x2, .int x3, .ref 118, .int x5, .int x6, .int sx0, .int (x8 + 1)] [] (S, I, J, R, c) Q) : X xs L (d + 1) 141 138 [.ref 65, .ref r1, .int x2, .int x3, .ref 118, .int x5, .int x6, .int x7, .int x8] [.int sx0] (S, I, J, R, c) Q := by
  refine X_istore (q := 7) (ls' := [.ref 65, .ref r1, .int x2, .int x3, .ref 118, .int x5, .int x6, .int sx0, .int x8]) (show decode (mB 141) 138 = .ok (.istore 7, 2) by decide +kernel) (pc' := 140) rfl rfl ?_
  refine X_iinc (q := 8) (v := x8 + 1) (ls' := [.ref 65, .ref r1, .int x2, .int x3, .ref 118, .int x5, .int x6, .int sx0, .int (x8 + 1)]) (show decode (mB 141) 140 = .ok (.iinc 8 1, 3) by decide +kernel) (pc' := 143) rfl rfl rfl rfl ?_
  refine X_goto (tgt := 95) (show decode (mB 141) 143 = .ok (.goto (-48), 3) by decide +kernel) rfl ?_
  exact k
set_option maxRecDepth 4000 in
theorem b_X14_reach_146 {xs : Nat → Int32} {L d : Nat} {S : Nat → Shp} {I : Nat → Nat → Int32} {J : Nat → Nat → Int64} {R : Nat → Nat → Nat} {c : Nat × Nat} {Q : Option (Option Value) → MH → Prop} {r1 : Nat} {x2 x3 x5 x6 x7 x8 : Int32}  (kt : ¬ x7 = 0 → X xs L (d + 1) 141 154 [.ref 65, .ref r1, .int x2, .int x3, .ref 118, .int x5, .int x6, .int x7, .int x8] [] (S, I, J, R, c) Q) (kf : ¬ (¬ x7 = 0) → X xs L (d + 1) 141 151 [.ref 65, .ref r1, .int x2, .int x3, .ref 118, .int x5, .int x6, .int x7, .int x8] [] (S, I, J, R, c) Q) : X xs L (d + 1) 141 146 [.ref 65, .ref r1, .int x2, .int x3, .ref 118, .int x5, .int x6, .int x7, .int x8] [] (S, I, J, R, c) Q := by
  refine X_iload (q := 7) (show decode (mB 141) 146 = .ok (.iload 7, 2) by decide +kernel) (pc' := 148) rfl rfl ?_
  exact X_if_ne (tgt := 154) (show decode (mB 141) 148 = .ok (.ifCond .ne 6, 3) by decide +kernel) rfl (pc' := 151) rfl kt kf
set_option maxRecDepth 4000 in
theorem b_X14_reach_151 {xs : Nat → Int32} {L d : Nat} {S : Nat → Shp} {I : Nat → Nat → Int32} {J : Nat → Nat → Int64} {R : Nat → Nat → Nat} {c : Nat × Nat} {Q : Option (Option Value) → MH → Prop} {r1 : Nat} {x2 x3 x5 x6 x7 x8 : Int32}  (k : X xs L (d + 1) 141 163 [.ref 65, .ref r1, .int x2, .int x3, .ref 118, .int x5, .int x6, .int x7, .int x8] [] (S, I, J, R, c) Q) : X xs L (d + 1) 141 151 [.ref 65, .ref r1, .int x2, .int x3, .ref 118, .int x5, .int x6, .int x7, .int x8] [] (S, I, J, R, c) Q := by
  refine X_goto (tgt := 163) (show decode (mB 141) 151 = .ok (.goto 12, 3) by decide +kernel) rfl ?_
  exact k
set_option maxRecDepth 4000 in
theorem b_X14_reach_154 {xs : Nat → Int32} {L d : Nat} {S : Nat → Shp} {I : Nat → Nat → Int32} {J : Nat → Nat → Int64} {R : Nat → Nat → Nat} {c : Nat × Nat} {Q : Option (Option Value) → MH → Prop} {r1 : Nat} {x2 x3 x5 x6 x7 x8 : Int32} (hL : Lay S R) (hb159 : inb x6 40 = true) (k : X xs L (d + 1) 141 163 [.ref 65, .ref r1, .int x2, .int x3, .ref 118, .int 1, .int x6, .int x7, .int x8] [] (S, (u2 I 118 x6.toNatClampNeg (vp_nar .boolean 1)), J, R, c) Q) : X xs L (d + 1) 141 154 [.ref 65, .ref r1, .int x2, .int x3, .ref 118, .int x5, .int x6, .int x7, .int x8] [] (S, I, J, R, c) Q := by
  refine X_aload (q := 4) (show decode (mB 141) 154 = .ok (.aload 4, 2) by decide +kernel) (pc' := 156) rfl rfl ?_
  refine X_iload (q := 6) (show decode (mB 141) 156 = .ok (.iload 6, 2) by decide +kernel) (pc' := 158) rfl rfl ?_
  refine X_iconst (v := 1) (show decode (mB 141) 158 = .ok (.iconst 1, 1) by decide +kernel) (pc' := 159) rfl rfl ?_
  refine X_zastore (show decode (mB 141) 159 = .ok (.bastore, 1) by decide +kernel) (pc' := 160) rfl (ls_118 hL) hb159 ?_
  refine X_iconst (v := 1) (show decode (mB 141) 160 = .ok (.iconst 1, 1) by decide +kernel) (pc' := 161) rfl rfl ?_
  refine X_istore (q := 5) (ls' := [.ref 65, .ref r1, .int x2, .int x3, .ref 118, .int 1, .int x6, .int x7, .int x8]) (show decode (mB 141) 161 = .ok (.istore 5, 2) by decide +kernel) (pc' := 163) rfl rfl ?_
  exact k
set_option maxRecDepth 4000 in
theorem b_X14_reach_163 {xs : Nat → Int32} {L d : Nat} {S : Nat → Shp} {I : Nat → Nat → Int32} {J : Nat → Nat → Int64} {R : Nat → Nat → Nat} {c : Nat × Nat} {Q : Option (Option Value) → MH → Prop} {r1 : Nat} {x2 x3 x5 x6 : Int32} {v7 v8 : Value}  (k : X xs L (d + 1) 141 42 [.ref 65, .ref r1, .int x2, .int x3, .ref 118, .int x5, .int (x6 + 1), v7, v8] [] (S, I, J, R, c) Q) : X xs L (d + 1) 141 163 [.ref 65, .ref r1, .int x2, .int x3, .ref 118, .int x5, .int x6, v7, v8] [] (S, I, J, R, c) Q := by
  refine X_iinc (q := 6) (v := x6 + 1) (ls' := [.ref 65, .ref r1, .int x2, .int x3, .ref 118, .int x5, .int (x6 + 1), v7, v8]) (show decode (mB 141) 163 = .ok (.iinc 6 1, 3) by decide +kernel) (pc' := 166) rfl rfl rfl rfl ?_
  refine X_goto (tgt := 42) (show decode (mB 141) 166 = .ok (.goto (-124), 3) by decide +kernel) rfl ?_
  exact k
set_option maxRecDepth 4000 in
theorem b_X14_reach_169 {xs : Nat → Int32} {L d : Nat} {S : Nat → Shp} {I : Nat → Nat → Int32} {J : Nat → Nat → Int64} {R : Nat → Nat → Nat} {c : Nat × Nat} {Q : Option (Option Value) → MH → Prop} {r1 : Nat} {x2 x3 x5 x6 : Int32} {v7 v8 : Value}  (k : X xs L (d + 1) 141 31 [.ref 65, .ref r1, .int x2, .int x3, .ref 118, .int x5, .int x6, v7, v8] [] (S, I, J, R, c) Q) : X xs L (d + 1) 141 169 [.ref 65, .ref r1, .int x2, .int x3, .ref 118, .int x5, .int x6, v7, v8] [] (S, I, J, R, c) Q := by
  refine X_goto (tgt := 31) (show decode (mB 141) 169 = .ok (.goto (-138), 3) by decide +kernel) rfl ?_
  exact k
set_option maxRecDepth 4000 in
theorem b_X14_reach_172 {xs : Nat → Int32} {L d : Nat} {S : Nat → Shp} {I : Nat → Nat → Int32} {J : Nat → Nat → Int64} {R : Nat → Nat → Nat} {c : Nat × Nat} {Q : Option (Option Value) → MH → Prop} {r1 : Nat} {x2 x3 x5 : Int32} {v6 v7 v8 : Value}  (k : Q (some none) (S, I, J, R, c)) : X xs L (d + 1) 141 172 [.ref 65, .ref r1, .int x2, .int x3, .ref 118, .int x5, v6, v7, v8] [] (S, I, J, R, c) Q := by
  exact X_return (show decode (mB 141) 172 = .ok (.return_, 1) by decide +kernel) (by decide +kernel) k
set_option maxRecDepth 4000 in
theorem b_X14_finish_0 {xs : Nat → Int32} {L d : Nat} {S : Nat → Shp} {I : Nat → Nat → Int32} {J : Nat → Nat → Int64} {R : Nat → Nat → Nat} {c : Nat × Nat} {Q : Option (Option Value) → MH → Prop}   (k : X xs L (d + 8) 142 2 [.ref 65, .int 0] [] (S, I, J, R, c) Q) : X xs L (d + 8) 142 0 [.ref 65, .null] [] (S, I, J, R, c) Q := by
  refine X_iconst (v := 0) (show decode (mB 142) 0 = .ok (.iconst 0, 1) by decide +kernel) (pc' := 1) rfl rfl ?_
  refine X_istore_n (q := 1) (ls' := [.ref 65, .int 0]) (show decode (mB 142) 1 = .ok (.istore_n 1, 1) by decide +kernel) (pc' := 2) rfl rfl rfl ?_
  exact k
set_option maxRecDepth 4000 in
theorem b_X14_finish_2 {xs : Nat → Int32} {L d : Nat} {S : Nat → Shp} {I : Nat → Nat → Int32} {J : Nat → Nat → Int64} {R : Nat → Nat → Nat} {c : Nat × Nat} {Q : Option (Option Value) → MH → Prop} {x1 : Int32} {q_65_17 : Nat} (hL : Lay S R) (hq_65_17 : R 65 17 = q_65_17) (h_q_65_17 : LyTr S R q_65_17) (kt : (I q_65_17 5) ≤ x1 → X xs L (d + 8) 142 97 [.ref 65, .int x1] [] (S, I, J, R, c) Q) (kf : ¬ ((I q_65_17 5) ≤ x1) → X xs L (d + 8) 142 13 [.ref 65, .int x1] [] (S, I, J, R, c) Q) : X xs L (d + 8) 142 2 [.ref 65, .int x1] [] (S, I, J, R, c) Q := by
  refine X_iload_n (q := 1) (show decode (mB 142) 2 = .ok (.iload_n 1, 1) by decide +kernel) (pc' := 3) rfl rfl rfl ?_
  refine X_aload_n (q := 0) (show decode (mB 142) 3 = .ok (.aload_n 0, 1) by decide +kernel) (pc' := 4) rfl rfl rfl ?_
  refine X_getR (ci := 13) (f := 17) (q := q_65_17) (show decode (mB 142) 4 = .ok (.getfield 138, 3) by decide +kernel) (pc' := 7) rfl (ls_65 hL) (by decide +kernel) rfl hq_65_17 ?_
  refine X_getI (ci := 12) (f := 5) (x := I q_65_17 5) (show decode (mB 142) 7 = .ok (.getfield 141, 3) by decide +kernel) (pc' := 10) rfl h_q_65_17.s0 (by decide +kernel) rfl rfl ?_
  exact X_icmp_ge (tgt := 97) (show decode (mB 142) 10 = .ok (.if_icmp .ge 87, 3) by decide +kernel) rfl (pc' := 13) rfl kt kf
set_option maxRecDepth 4000 in
theorem b_X14_finish_13 {xs : Nat → Int32} {L d : Nat} {S : Nat → Shp} {I : Nat → Nat → Int32} {J : Nat → Nat → Int64} {R : Nat → Nat → Nat} {c : Nat × Nat} {Q : Option (Option Value) → MH → Prop} {x1 : Int32} {q_65_17 : Nat} (hL : Lay S R) (hq_65_17 : R 65 17 = q_65_17) (h_q_65_17 : LyTr S R q_65_17) (hb21 : inb x1 2000 = true) (kt : (I (q_65_17 + 1) x1.toNatClampNeg) = 78 → X xs L (d + 8) 142 30 [.ref 65, .int x1] [] (S, I, J, R, c) Q) (kf : ¬ ((I (q_65_17 + 1) x1.toNatClampNeg) = 78) → X xs L (d + 8) 142 27 [.ref 65, .int x1] [] (S, I, J, R, c) Q) : X xs L (d + 8) 142 13 [.ref 65, .int x1] [] (S, I, J, R, c) Q := by
  refine X_aload_n (q := 0) (show decode (mB 142) 13 = .ok (.aload_n 0, 1) by decide +kernel) (pc' := 14) rfl rfl rfl ?_
  refine X_getR (ci := 13) (f := 17) (q := q_65_17) (show decode (mB 142) 14 = .ok (.getfield 138, 3) by decide +kernel) (pc' := 17) rfl (ls_65 hL) (by decide +kernel) rfl hq_65_17 ?_
  refine X_getR (ci := 12) (f := 0) (q := (q_65_17 + 1)) (show decode (mB 142) 17 = .ok (.getfield 144, 3) by decide +kernel) (pc' := 20) rfl h_q_65_17.s0 (by decide +kernel) rfl h_q_65_17.r0_0 ?_
  refine X_iload_n (q := 1) (show decode (mB 142) 20 = .ok (.iload_n 1, 1) by decide +kernel) (pc' := 21) rfl rfl rfl ?_
  refine X_iaload (w := I (q_65_17 + 1) x1.toNatClampNeg) (show decode (mB 142) 21 = .ok (.iaload, 1) by decide +kernel) (pc' := 22) rfl h_q_65_17.s1 hb21 rfl ?_
  refine X_bipush (v := 78) (show decode (mB 142) 22 = .ok (.bipush 78, 2) by decide +kernel) (pc' := 24) rfl (by decide +kernel) ?_
  exact X_icmp_eq (tgt := 30) (show decode (mB 142) 24 = .ok (.if_icmp .eq 6, 3) by decide +kernel) rfl (pc' := 27) rfl kt kf
set_option maxRecDepth 4000 in
theorem b_X14_finish_27 {xs : Nat → Int32} {L d : Nat} {S : Nat → Shp} {I : Nat → Nat → Int32} {J : Nat → Nat → Int64} {R : Nat → Nat → Nat} {c : Nat × Nat} {Q : Option (Option Value) → MH → Prop} {x1 : Int32}  (k : X xs L (d + 8) 142 91 [.ref 65, .int x1] [] (S, I, J, R, c) Q) : X xs L (d + 8) 142 27 [.ref 65, .int x1] [] (S, I, J, R, c) Q := by
  refine X_goto (tgt := 91) (show decode (mB 142) 27 = .ok (.goto 64, 3) by decide +kernel) rfl ?_
  exact k
set_option maxRecDepth 4000 in
theorem b_X14_finish_30 {xs : Nat → Int32} {L d : Nat} {S : Nat → Shp} {I : Nat → Nat → Int32} {J : Nat → Nat → Int64} {R : Nat → Nat → Nat} {c : Nat × Nat} {Q : Option (Option Value) → MH → Prop} {x1 : Int32} {q_65_17 q_65_18 : Nat} (hL : Lay S R) (hq_65_17 : R 65 17 = q_65_17) (h_q_65_17 : LyTr S R q_65_17) (hq_65_18 : R 65 18 = q_65_18) (hb50 : inb x1 2000 = true) (k : X xs L (d + 7) 137 0 [.ref q_65_18, .long (J (q_65_17 + 4) x1.toNatClampNeg), .null, .null] [] (S, I, J, R, c) (Kc xs L (d + 8) 142 54 [.ref 65, .int x1] [.int x1, .ref (q_65_17 + 2)] Q)) : X xs L (d + 8) 142 30 [.ref 65, .int x1] [] (S, I, J, R, c) Q := by
  refine X_aload_n (q := 0) (show decode (mB 142) 30 = .ok (.aload_n 0, 1) by decide +kernel) (pc' := 31) rfl rfl rfl ?_
  refine X_getR (ci := 13) (f := 17) (q := q_65_17) (show decode (mB 142) 31 = .ok (.getfield 138, 3) by decide +kernel) (pc' := 34) rfl (ls_65 hL) (by decide +kernel) rfl hq_65_17 ?_
  refine X_getR (ci := 12) (f := 1) (q := (q_65_17 + 2)) (show decode (mB 142) 34 = .ok (.getfield 147, 3) by decide +kernel) (pc' := 37) rfl h_q_65_17.s0 (by decide +kernel) rfl h_q_65_17.r0_1 ?_
  refine X_iload_n (q := 1) (show decode (mB 142) 37 = .ok (.iload_n 1, 1) by decide +kernel) (pc' := 38) rfl rfl rfl ?_
  refine X_aload_n (q := 0) (show decode (mB 142) 38 = .ok (.aload_n 0, 1) by decide +kernel) (pc' := 39) rfl rfl rfl ?_
  refine X_getR (ci := 13) (f := 18) (q := q_65_18) (show decode (mB 142) 39 = .ok (.getfield 202, 3) by decide +kernel) (pc' := 42) rfl (ls_65 hL) (by decide +kernel) rfl hq_65_18 ?_
  refine X_aload_n (q := 0) (show decode (mB 142) 42 = .ok (.aload_n 0, 1) by decide +kernel) (pc' := 43) rfl rfl rfl ?_
  refine X_getR (ci := 13) (f := 17) (q := q_65_17) (show decode (mB 142) 43 = .ok (.getfield 138, 3) by decide +kernel) (pc' := 46) rfl (ls_65 hL) (by decide +kernel) rfl hq_65_17 ?_
  refine X_getR (ci := 12) (f := 3) (q := (q_65_17 + 4)) (show decode (mB 142) 46 = .ok (.getfield 182, 3) by decide +kernel) (pc' := 49) rfl h_q_65_17.s0 (by decide +kernel) rfl h_q_65_17.r0_3 ?_
  refine X_iload_n (q := 1) (show decode (mB 142) 49 = .ok (.iload_n 1, 1) by decide +kernel) (pc' := 50) rfl rfl rfl ?_
  refine X_laload (w := J (q_65_17 + 4) x1.toNatClampNeg) (show decode (mB 142) 50 = .ok (.laload, 1) by decide +kernel) (pc' := 51) rfl h_q_65_17.s4 hb50 rfl ?_
  exact X_callS (y := 137) (n := 2) (st := [.long (J (q_65_17 + 4) x1.toNatClampNeg), .ref q_65_18, .int x1, .ref (q_65_17 + 2)]) (as := [.ref q_65_18, .long (J (q_65_17 + 4) x1.toNatClampNeg)]) (rest := [.int x1, .ref (q_65_17 + 2)]) (ls0 := [.ref q_65_18, .long (J (q_65_17 + 4) x1.toNatClampNeg), .null, .null]) (show decode (mB 142) 51 = .ok (.invokestatic 205, 3) by decide +kernel) (pc' := 54) rfl (by decide +kernel) (by decide +kernel) rfl rfl rfl rfl rfl rfl rfl rfl k
set_option maxRecDepth 4000 in
theorem b_X14_finish_54 {xs : Nat → Int32} {L d : Nat} {S : Nat → Shp} {I : Nat → Nat → Int32} {J : Nat → Nat → Int64} {R : Nat → Nat → Nat} {c : Nat × Nat} {Q : Option (Option Value) → MH → Prop} {x1 sx1 sx2 : Int32} {sr0 n_sr0 q_65_17 : Nat} (hL : Lay S R) (hs_sr0 : S sr0 = .inr (.int, n_sr0)) (hb54 : inb sx1 n_sr0 = true) (hq_65_17 : R 65 17 = q_65_17) (h_q_65_17 : LyTr S R q_65_17) (hb63 : inb x1 2000 = true) (hn_q_65_17p2_sr0 : (q_65_17 + 2) ≠ sr0) (kt : (I (q_65_17 + 2) x1.toNatClampNeg) < 0 → X xs L (d + 8) 142 70 [.ref 65, .int x1] [] (S, (u2 I sr0 sx1.toNatClampNeg sx2), J, R, c) Q) (kf : ¬ ((I (q_65_17 + 2) x1.toNatClampNeg) < 0) → X xs L (d + 8) 142 67 [.ref 65, .int x1] [] (S, (u2 I sr0 sx1.toNatClampNeg sx2), J, R, c) Q) : X xs L (d + 8) 142 54 [.ref 65, .int x1] [.int sx2, .int sx1, .ref sr0] (S, I, J, R, c) Q := by
  refine X_iastore (show decode (mB 142) 54 = .ok (.iastore, 1) by decide +kernel) (pc' := 55) rfl hs_sr0 hb54 ?_
  refine X_aload_n (q := 0) (show decode (mB 142) 55 = .ok (.aload_n 0, 1) by decide +kernel) (pc' := 56) rfl rfl rfl ?_
  refine X_getR (ci := 13) (f := 17) (q := q_65_17) (show decode (mB 142) 56 = .ok (.getfield 138, 3) by decide +kernel) (pc' := 59) rfl (ls_65 hL) (by decide +kernel) rfl hq_65_17 ?_
  refine X_getR (ci := 12) (f := 1) (q := (q_65_17 + 2)) (show decode (mB 142) 59 = .ok (.getfield 147, 3) by decide +kernel) (pc' := 62) rfl h_q_65_17.s0 (by decide +kernel) rfl h_q_65_17.r0_1 ?_
  refine X_iload_n (q := 1) (show decode (mB 142) 62 = .ok (.iload_n 1, 1) by decide +kernel) (pc' := 63) rfl rfl rfl ?_
  refine X_iaload (w := I (q_65_17 + 2) x1.toNatClampNeg) (show decode (mB 142) 63 = .ok (.iaload, 1) by decide +kernel) (pc' := 64) rfl h_q_65_17.s2 hb63 (by simp [u2, u1, hn_q_65_17p2_sr0]) ?_
  exact X_if_lt (tgt := 70) (show decode (mB 142) 64 = .ok (.ifCond .lt 6, 3) by decide +kernel) rfl (pc' := 67) rfl kt kf
set_option maxRecDepth 4000 in
theorem b_X14_finish_67 {xs : Nat → Int32} {L d : Nat} {S : Nat → Shp} {I : Nat → Nat → Int32} {J : Nat → Nat → Int64} {R : Nat → Nat → Nat} {c : Nat × Nat} {Q : Option (Option Value) → MH → Prop} {x1 : Int32}  (k : X xs L (d + 8) 142 91 [.ref 65, .int x1] [] (S, I, J, R, c) Q) : X xs L (d + 8) 142 67 [.ref 65, .int x1] [] (S, I, J, R, c) Q := by
  refine X_goto (tgt := 91) (show decode (mB 142) 67 = .ok (.goto 24, 3) by decide +kernel) rfl ?_
  exact k
set_option maxRecDepth 4000 in
theorem b_X14_finish_70 {xs : Nat → Int32} {L d : Nat} {S : Nat → Shp} {I : Nat → Nat → Int32} {J : Nat → Nat → Int64} {R : Nat → Nat → Nat} {c : Nat × Nat} {Q : Option (Option Value) → MH → Prop} {x1 : Int32} {q_65_17 : Nat} (hL : Lay S R) (hq_65_17 : R 65 17 = q_65_17) (h_q_65_17 : LyTr S R q_65_17) (hb79 : inb x1 2000 = true) (k : Q none (thM (S, (u2 I 65 8 (I (q_65_17 + 5) x1.toNatClampNeg)), J, R, c))) : X xs L (d + 8) 142 70 [.ref 65, .int x1] [] (S, I, J, R, c) Q := by
  refine X_aload_n (q := 0) (show decode (mB 142) 70 = .ok (.aload_n 0, 1) by decide +kernel) (pc' := 71) rfl rfl rfl ?_
  refine X_aload_n (q := 0) (show decode (mB 142) 71 = .ok (.aload_n 0, 1) by decide +kernel) (pc' := 72) rfl rfl rfl ?_
  refine X_getR (ci := 13) (f := 17) (q := q_65_17) (show decode (mB 142) 72 = .ok (.getfield 138, 3) by decide +kernel) (pc' := 75) rfl (ls_65 hL) (by decide +kernel) rfl hq_65_17 ?_
  refine X_getR (ci := 12) (f := 4) (q := (q_65_17 + 5)) (show decode (mB 142) 75 = .ok (.getfield 185, 3) by decide +kernel) (pc' := 78) rfl h_q_65_17.s0 (by decide +kernel) rfl h_q_65_17.r0_4 ?_
  refine X_iload_n (q := 1) (show decode (mB 142) 78 = .ok (.iload_n 1, 1) by decide +kernel) (pc' := 79) rfl rfl rfl ?_
  refine X_iaload (w := I (q_65_17 + 5) x1.toNatClampNeg) (show decode (mB 142) 79 = .ok (.iaload, 1) by decide +kernel) (pc' := 80) rfl h_q_65_17.s5 hb79 rfl ?_
  refine X_putI (ci := 13) (f := 8) (show decode (mB 142) 80 = .ok (.putfield 125, 3) by decide +kernel) (pc' := 83) rfl (ls_65 hL) (by decide +kernel) (by decide +kernel) rfl ?_
  exact X_thr (show decode (mB 142) 83 = .ok (.new 128, 3) by decide +kernel) (by decide +kernel) (by decide +kernel) (Nat.le_add_left 8 d) k
set_option maxRecDepth 4000 in
theorem b_X14_finish_91 {xs : Nat → Int32} {L d : Nat} {S : Nat → Shp} {I : Nat → Nat → Int32} {J : Nat → Nat → Int64} {R : Nat → Nat → Nat} {c : Nat × Nat} {Q : Option (Option Value) → MH → Prop} {x1 : Int32}  (k : X xs L (d + 8) 142 2 [.ref 65, .int (x1 + 1)] [] (S, I, J, R, c) Q) : X xs L (d + 8) 142 91 [.ref 65, .int x1] [] (S, I, J, R, c) Q := by
  refine X_iinc (q := 1) (v := x1 + 1) (ls' := [.ref 65, .int (x1 + 1)]) (show decode (mB 142) 91 = .ok (.iinc 1 1, 3) by decide +kernel) (pc' := 94) rfl rfl rfl rfl ?_
  refine X_goto (tgt := 2) (show decode (mB 142) 94 = .ok (.goto (-92), 3) by decide +kernel) rfl ?_
  exact k
set_option maxRecDepth 4000 in
theorem b_X14_finish_97 {xs : Nat → Int32} {L d : Nat} {S : Nat → Shp} {I : Nat → Nat → Int32} {J : Nat → Nat → Int64} {R : Nat → Nat → Nat} {c : Nat × Nat} {Q : Option (Option Value) → MH → Prop} {x1 : Int32}  (k : X xs L (d + 8) 142 99 [.ref 65, .int 0] [] (S, I, J, R, c) Q) : X xs L (d + 8) 142 97 [.ref 65, .int x1] [] (S, I, J, R, c) Q := by
  refine X_iconst (v := 0) (show decode (mB 142) 97 = .ok (.iconst 0, 1) by decide +kernel) (pc' := 98) rfl rfl ?_
  refine X_istore_n (q := 1) (ls' := [.ref 65, .int 0]) (show decode (mB 142) 98 = .ok (.istore_n 1, 1) by decide +kernel) (pc' := 99) rfl rfl rfl ?_
  exact k
set_option maxRecDepth 4000 in
theorem b_X14_finish_99 {xs : Nat → Int32} {L d : Nat} {S : Nat → Shp} {I : Nat → Nat → Int32} {J : Nat → Nat → Int64} {R : Nat → Nat → Nat} {c : Nat × Nat} {Q : Option (Option Value) → MH → Prop} {x1 : Int32} {q_65_18 : Nat} (hL : Lay S R) (hq_65_18 : R 65 18 = q_65_18) (h_q_65_18 : LyNo S R q_65_18) (kt : (I q_65_18 4) ≤ x1 → X xs L (d + 8) 142 176 [.ref 65, .int x1] [] (S, I, J, R, c) Q) (kf : ¬ ((I q_65_18 4) ≤ x1) → X xs L (d + 8) 142 110 [.ref 65, .int x1] [] (S, I, J, R, c) Q) : X xs L (d + 8) 142 99 [.ref 65, .int x1] [] (S, I, J, R, c) Q := by
  refine X_iload_n (q := 1) (show decode (mB 142) 99 = .ok (.iload_n 1, 1) by decide +kernel) (pc' := 100) rfl rfl rfl ?_
  refine X_aload_n (q := 0) (show decode (mB 142) 100 = .ok (.aload_n 0, 1) by decide +kernel) (pc' := 101) rfl rfl rfl ?_
  refine X_getR (ci := 13) (f := 18) (q := q_65_18) (show decode (mB 142) 101 = .ok (.getfield 202, 3) by decide +kernel) (pc' := 104) rfl (ls_65 hL) (by decide +kernel) rfl hq_65_18 ?_
  refine X_getI (ci := 11) (f := 4) (x := I q_65_18 4) (show decode (mB 142) 104 = .ok (.getfield 200, 3) by decide +kernel) (pc' := 107) rfl h_q_65_18.s0 (by decide +kernel) rfl rfl ?_
  exact X_icmp_ge (tgt := 176) (show decode (mB 142) 107 = .ok (.if_icmp .ge 69, 3) by decide +kernel) rfl (pc' := 110) rfl kt kf
set_option maxRecDepth 4000 in
theorem b_X14_finish_110 {xs : Nat → Int32} {L d : Nat} {S : Nat → Shp} {I : Nat → Nat → Int32} {J : Nat → Nat → Int64} {R : Nat → Nat → Nat} {c : Nat × Nat} {Q : Option (Option Value) → MH → Prop} {x1 : Int32} {q_65_18 : Nat} (hL : Lay S R) (hq_65_18 : R 65 18 = q_65_18) (h_q_65_18 : LyNo S R q_65_18) (hb118 : inb x1 40 = true) (kt : (I (q_65_18 + 2) x1.toNatClampNeg) = 11 → X xs L (d + 8) 142 127 [.ref 65, .int x1] [] (S, I, J, R, c) Q) (kf : ¬ ((I (q_65_18 + 2) x1.toNatClampNeg) = 11) → X xs L (d + 8) 142 124 [.ref 65, .int x1] [] (S, I, J, R, c) Q) : X xs L (d + 8) 142 110 [.ref 65, .int x1] [] (S, I, J, R, c) Q := by
  refine X_aload_n (q := 0) (show decode (mB 142) 110 = .ok (.aload_n 0, 1) by decide +kernel) (pc' := 111) rfl rfl rfl ?_
  refine X_getR (ci := 13) (f := 18) (q := q_65_18) (show decode (mB 142) 111 = .ok (.getfield 202, 3) by decide +kernel) (pc' := 114) rfl (ls_65 hL) (by decide +kernel) rfl hq_65_18 ?_
  refine X_getR (ci := 11) (f := 1) (q := (q_65_18 + 2)) (show decode (mB 142) 114 = .ok (.getfield 209, 3) by decide +kernel) (pc' := 117) rfl h_q_65_18.s0 (by decide +kernel) rfl h_q_65_18.r0_1 ?_
  refine X_iload_n (q := 1) (show decode (mB 142) 117 = .ok (.iload_n 1, 1) by decide +kernel) (pc' := 118) rfl rfl rfl ?_
  refine X_iaload (w := I (q_65_18 + 2) x1.toNatClampNeg) (show decode (mB 142) 118 = .ok (.iaload, 1) by decide +kernel) (pc' := 119) rfl h_q_65_18.s2 hb118 rfl ?_
  refine X_bipush (v := 11) (show decode (mB 142) 119 = .ok (.bipush 11, 2) by decide +kernel) (pc' := 121) rfl (by decide +kernel) ?_
  exact X_icmp_eq (tgt := 127) (show decode (mB 142) 121 = .ok (.if_icmp .eq 6, 3) by decide +kernel) rfl (pc' := 124) rfl kt kf
set_option maxRecDepth 4000 in
theorem b_X14_finish_124 {xs : Nat → Int32} {L d : Nat} {S : Nat → Shp} {I : Nat → Nat → Int32} {J : Nat → Nat → Int64} {R : Nat → Nat → Nat} {c : Nat × Nat} {Q : Option (Option Value) → MH → Prop} {x1 : Int32}  (k : X xs L (d + 8) 142 170 [.ref 65, .int x1] [] (S, I, J, R, c) Q) : X xs L (d + 8) 142 124 [.ref 65, .int x1] [] (S, I, J, R, c) Q := by
  refine X_goto (tgt := 170) (show decode (mB 142) 124 = .ok (.goto 46, 3) by decide +kernel) rfl ?_
  exact k
set_option maxRecDepth 4000 in
theorem b_X14_finish_127 {xs : Nat → Int32} {L d : Nat} {S : Nat → Shp} {I : Nat → Nat → Int32} {J : Nat → Nat → Int64} {R : Nat → Nat → Nat} {c : Nat × Nat} {Q : Option (Option Value) → MH → Prop} {x1 : Int32} {q_65_18 : Nat} (hL : Lay S R) (hq_65_18 : R 65 18 = q_65_18) (k : X xs L (d + 7) 141 0 [.ref 65, .ref q_65_18, .int x1, .int 1, .null, .null, .null, .null, .null] [] (S, I, J, R, c) (Kc xs L (d + 8) 142 137 [.ref 65, .int x1] [] Q)) : X xs L (d + 8) 142 127 [.ref 65, .int x1] [] (S, I, J, R, c) Q := by
  refine X_aload_n (q := 0) (show decode (mB 142) 127 = .ok (.aload_n 0, 1) by decide +kernel) (pc' := 128) rfl rfl rfl ?_
  refine X_aload_n (q := 0) (show decode (mB 142) 128 = .ok (.aload_n 0, 1) by decide +kernel) (pc' := 129) rfl rfl rfl ?_
  refine X_getR (ci := 13) (f := 18) (q := q_65_18) (show decode (mB 142) 129 = .ok (.getfield 202, 3) by decide +kernel) (pc' := 132) rfl (ls_65 hL) (by decide +kernel) rfl hq_65_18 ?_
  refine X_iload_n (q := 1) (show decode (mB 142) 132 = .ok (.iload_n 1, 1) by decide +kernel) (pc' := 133) rfl rfl rfl ?_
  refine X_iconst (v := 1) (show decode (mB 142) 133 = .ok (.iconst 1, 1) by decide +kernel) (pc' := 134) rfl rfl ?_
  exact X_callV (y := 141) (n := 3) (st := [.int 1, .int x1, .ref q_65_18, .ref 65]) (as := [.ref 65, .ref q_65_18, .int x1, .int 1]) (rest := []) (ls0 := [.ref 65, .ref q_65_18, .int x1, .int 1, .null, .null, .null, .null, .null]) (ci := 13) (show decode (mB 142) 134 = .ok (.invokevirtual 220, 3) by decide +kernel) (pc' := 137) rfl (by decide +kernel) (by decide +kernel) rfl (ls_65 hL) (by decide +kernel) rfl rfl rfl rfl rfl k
set_option maxRecDepth 4000 in
theorem b_X14_finish_137 {xs : Nat → Int32} {L d : Nat} {S : Nat → Shp} {I : Nat → Nat → Int32} {J : Nat → Nat → Int64} {R : Nat → Nat → Nat} {c : Nat × Nat} {Q : Option (Option Value) → MH → Prop} {x1 : Int32} (hL : Lay S R) (hb142 : inb x1 40 = true) (kt : ¬ (I 118 x1.toNatClampNeg) = 0 → X xs L (d + 8) 142 149 [.ref 65, .int x1] [] (S, I, J, R, c) Q) (kf : ¬ (¬ (I 118 x1.toNatClampNeg) = 0) → X xs L (d + 8) 142 146 [.ref 65, .int x1] [] (S, I, J, R, c) Q) : X xs L (d + 8) 142 137 [.ref 65, .int x1] [] (S, I, J, R, c) Q := by
  refine X_aload_n (q := 0) (show decode (mB 142) 137 = .ok (.aload_n 0, 1) by decide +kernel) (pc' := 138) rfl rfl rfl ?_
  refine X_getR (ci := 13) (f := 30) (q := 118) (show decode (mB 142) 138 = .ok (.getfield 80, 3) by decide +kernel) (pc' := 141) rfl (ls_65 hL) (by decide +kernel) rfl (lr_65_30 hL) ?_
  refine X_iload_n (q := 1) (show decode (mB 142) 141 = .ok (.iload_n 1, 1) by decide +kernel) (pc' := 142) rfl rfl rfl ?_
  refine X_zaload (w := I 118 x1.toNatClampNeg) (show decode (mB 142) 142 = .ok (.baload, 1) by decide +kernel) (pc' := 143) rfl (ls_118 hL) hb142 rfl ?_
  exact X_if_ne (tgt := 149) (show decode (mB 142) 143 = .ok (.ifCond .ne 6, 3) by decide +kernel) rfl (pc' := 146) rfl kt kf
set_option maxRecDepth 4000 in
theorem b_X14_finish_146 {xs : Nat → Int32} {L d : Nat} {S : Nat → Shp} {I : Nat → Nat → Int32} {J : Nat → Nat → Int64} {R : Nat → Nat → Nat} {c : Nat × Nat} {Q : Option (Option Value) → MH → Prop} {x1 : Int32}  (k : X xs L (d + 8) 142 170 [.ref 65, .int x1] [] (S, I, J, R, c) Q) : X xs L (d + 8) 142 146 [.ref 65, .int x1] [] (S, I, J, R, c) Q := by
  refine X_goto (tgt := 170) (show decode (mB 142) 146 = .ok (.goto 24, 3) by decide +kernel) rfl ?_
  exact k
set_option maxRecDepth 4000 in
theorem b_X14_finish_149 {xs : Nat → Int32} {L d : Nat} {S : Nat → Shp} {I : Nat → Nat → Int32} {J : Nat → Nat → Int64} {R : Nat → Nat → Nat} {c : Nat × Nat} {Q : Option (Option Value) → MH → Prop} {x1 : Int32} {q_65_18 : Nat} (hL : Lay S R) (hq_65_18 : R 65 18 = q_65_18) (h_q_65_18 : LyNo S R q_65_18) (hb158 : inb x1 40 = true) (k : Q none (thM (S, (u2 I 65 8 (I (q_65_18 + 4) x1.toNatClampNeg)), J, R, c))) : X xs L (d + 8) 142 149 [.ref 65, .int x1] [] (S, I, J, R, c) Q := by
  refine X_aload_n (q := 0) (show decode (mB 142) 149 = .ok (.aload_n 0, 1) by decide +kernel) (pc' := 150) rfl rfl rfl ?_
  refine X_aload_n (q := 0) (show decode (mB 142) 150 = .ok (.aload_n 0, 1) by decide +kernel) (pc' := 151) rfl rfl rfl ?_
  refine X_getR (ci := 13) (f := 18) (q := q_65_18) (show decode (mB 142) 151 = .ok (.getfield 202, 3) by decide +kernel) (pc' := 154) rfl (ls_65 hL) (by decide +kernel) rfl hq_65_18 ?_
  refine X_getR (ci := 11) (f := 3) (q := (q_65_18 + 4)) (show decode (mB 142) 154 = .ok (.getfield 212, 3) by decide +kernel) (pc' := 157) rfl h_q_65_18.s0 (by decide +kernel) rfl h_q_65_18.r0_3 ?_
  refine X_iload_n (q := 1) (show decode (mB 142) 157 = .ok (.iload_n 1, 1) by decide +kernel) (pc' := 158) rfl rfl rfl ?_
  refine X_iaload (w := I (q_65_18 + 4) x1.toNatClampNeg) (show decode (mB 142) 158 = .ok (.iaload, 1) by decide +kernel) (pc' := 159) rfl h_q_65_18.s4 hb158 rfl ?_
  refine X_putI (ci := 13) (f := 8) (show decode (mB 142) 159 = .ok (.putfield 125, 3) by decide +kernel) (pc' := 162) rfl (ls_65 hL) (by decide +kernel) (by decide +kernel) rfl ?_
  exact X_thr (show decode (mB 142) 162 = .ok (.new 128, 3) by decide +kernel) (by decide +kernel) (by decide +kernel) (Nat.le_add_left 8 d) k
set_option maxRecDepth 4000 in
theorem b_X14_finish_170 {xs : Nat → Int32} {L d : Nat} {S : Nat → Shp} {I : Nat → Nat → Int32} {J : Nat → Nat → Int64} {R : Nat → Nat → Nat} {c : Nat × Nat} {Q : Option (Option Value) → MH → Prop} {x1 : Int32}  (k : X xs L (d + 8) 142 99 [.ref 65, .int (x1 + 1)] [] (S, I, J, R, c) Q) : X xs L (d + 8) 142 170 [.ref 65, .int x1] [] (S, I, J, R, c) Q := by
  refine X_iinc (q := 1) (v := x1 + 1) (ls' := [.ref 65, .int (x1 + 1)]) (show decode (mB 142) 170 = .ok (.iinc 1 1, 3) by decide +kernel) (pc' := 173) rfl rfl rfl rfl ?_
  refine X_goto (tgt := 99) (show decode (mB 142) 173 = .ok (.goto (-74), 3) by decide +kernel) rfl ?_
  exact k
set_option maxRecDepth 4000 in
theorem b_X14_finish_176 {xs : Nat → Int32} {L d : Nat} {S : Nat → Shp} {I : Nat → Nat → Int32} {J : Nat → Nat → Int64} {R : Nat → Nat → Nat} {c : Nat × Nat} {Q : Option (Option Value) → MH → Prop} {x1 : Int32}  (k : Q (some none) (S, I, J, R, c)) : X xs L (d + 8) 142 176 [.ref 65, .int x1] [] (S, I, J, R, c) Q := by
  exact X_return (show decode (mB 142) 176 = .ok (.return_, 1) by decide +kernel) (by decide +kernel) k
set_option maxRecDepth 4000 in
theorem b_X14_circuit_0 {xs : Nat → Int32} {L d : Nat} {S : Nat → Shp} {I : Nat → Nat → Int32} {J : Nat → Nat → Int64} {R : Nat → Nat → Nat} {c : Nat × Nat} {Q : Option (Option Value) → MH → Prop}  (hL : Lay S R)  (k : X xs L d 126 0 [.ref 65, .null, .null, .null, .null, .null, .null, .null] [] (S, I, J, R, c) (Kc xs L (d + 1) 143 4 [.ref 65, .null] [] Q)) : X xs L (d + 1) 143 0 [.ref 65, .null] [] (S, I, J, R, c) Q := by
  refine X_aload_n (q := 0) (show decode (mB 143) 0 = .ok (.aload_n 0, 1) by decide +kernel) (pc' := 1) rfl rfl rfl ?_
  exact X_callV (y := 126) (n := 0) (st := [.ref 65]) (as := [.ref 65]) (rest := []) (ls0 := [.ref 65, .null, .null, .null, .null, .null, .null, .null]) (ci := 13) (show decode (mB 143) 1 = .ok (.invokevirtual 224, 3) by decide +kernel) (pc' := 4) rfl (by decide +kernel) (by decide +kernel) rfl (ls_65 hL) (by decide +kernel) rfl rfl rfl rfl rfl k
set_option maxRecDepth 4000 in
theorem b_X14_circuit_4 {xs : Nat → Int32} {L d : Nat} {S : Nat → Shp} {I : Nat → Nat → Int32} {J : Nat → Nat → Int64} {R : Nat → Nat → Nat} {c : Nat × Nat} {Q : Option (Option Value) → MH → Prop} {q_65_10 q_65_12 : Nat} (hL : Lay S R) (hq_65_10 : R 65 10 = q_65_10) (h_q_65_10 : LyTr S R q_65_10) (hq_65_12 : R 65 12 = q_65_12) (h_q_65_12 : LyNo S R q_65_12) (k : X xs L (d + 1) 143 51 [.ref 65, .null] [] (S, (u2 (u2 (u2 (u2 (u2 I q_65_10 5 0) q_65_12 4 0) 65 20 1) 65 21 0) 65 7 0), J, (u2 (u2 R 65 17 q_65_10) 65 18 q_65_12), c) Q) : X xs L (d + 1) 143 4 [.ref 65, .null] [] (S, I, J, R, c) Q := by
  refine X_aload_n (q := 0) (show decode (mB 143) 4 = .ok (.aload_n 0, 1) by decide +kernel) (pc' := 5) rfl rfl rfl ?_
  refine X_aload_n (q := 0) (show decode (mB 143) 5 = .ok (.aload_n 0, 1) by decide +kernel) (pc' := 6) rfl rfl rfl ?_
  refine X_getR (ci := 13) (f := 10) (q := q_65_10) (show decode (mB 143) 6 = .ok (.getfield 34, 3) by decide +kernel) (pc' := 9) rfl (ls_65 hL) (by decide +kernel) rfl hq_65_10 ?_
  refine X_putR (ci := 13) (f := 17) (show decode (mB 143) 9 = .ok (.putfield 138, 3) by decide +kernel) (pc' := 12) rfl (ls_65 hL) (by decide +kernel) (by decide +kernel) rfl ?_
  refine X_aload_n (q := 0) (show decode (mB 143) 12 = .ok (.aload_n 0, 1) by decide +kernel) (pc' := 13) rfl rfl rfl ?_
  refine X_getR (ci := 13) (f := 17) (q := q_65_10) (show decode (mB 143) 13 = .ok (.getfield 138, 3) by decide +kernel) (pc' := 16) rfl (ls_65 hL) (by decide +kernel) rfl (by simp [u2, u1]) ?_
  refine X_iconst (v := 0) (show decode (mB 143) 16 = .ok (.iconst 0, 1) by decide +kernel) (pc' := 17) rfl rfl ?_
  refine X_putI (ci := 12) (f := 5) (show decode (mB 143) 17 = .ok (.putfield 141, 3) by decide +kernel) (pc' := 20) rfl h_q_65_10.s0 (by decide +kernel) (by decide +kernel) rfl ?_
  refine X_aload_n (q := 0) (show decode (mB 143) 20 = .ok (.aload_n 0, 1) by decide +kernel) (pc' := 21) rfl rfl rfl ?_
  refine X_aload_n (q := 0) (show decode (mB 143) 21 = .ok (.aload_n 0, 1) by decide +kernel) (pc' := 22) rfl rfl rfl ?_
  refine X_getR (ci := 13) (f := 12) (q := q_65_12) (show decode (mB 143) 22 = .ok (.getfield 44, 3) by decide +kernel) (pc' := 25) rfl (ls_65 hL) (by decide +kernel) rfl (by simp [u2, u1]; exact hq_65_12) ?_
  refine X_putR (ci := 13) (f := 18) (show decode (mB 143) 25 = .ok (.putfield 202, 3) by decide +kernel) (pc' := 28) rfl (ls_65 hL) (by decide +kernel) (by decide +kernel) rfl ?_
  refine X_aload_n (q := 0) (show decode (mB 143) 28 = .ok (.aload_n 0, 1) by decide +kernel) (pc' := 29) rfl rfl rfl ?_
  refine X_getR (ci := 13) (f := 18) (q := q_65_12) (show decode (mB 143) 29 = .ok (.getfield 202, 3) by decide +kernel) (pc' := 32) rfl (ls_65 hL) (by decide +kernel) rfl (by simp [u2, u1]) ?_
  refine X_iconst (v := 0) (show decode (mB 143) 32 = .ok (.iconst 0, 1) by decide +kernel) (pc' := 33) rfl rfl ?_
  refine X_putI (ci := 11) (f := 4) (show decode (mB 143) 33 = .ok (.putfield 200, 3) by decide +kernel) (pc' := 36) rfl h_q_65_12.s0 (by decide +kernel) (by decide +kernel) rfl ?_
  refine X_aload_n (q := 0) (show decode (mB 143) 36 = .ok (.aload_n 0, 1) by decide +kernel) (pc' := 37) rfl rfl rfl ?_
  refine X_iconst (v := 1) (show decode (mB 143) 37 = .ok (.iconst 1, 1) by decide +kernel) (pc' := 38) rfl rfl ?_
  refine X_putZ (ci := 13) (f := 20) (show decode (mB 143) 38 = .ok (.putfield 175, 3) by decide +kernel) (pc' := 41) rfl (ls_65 hL) (by decide +kernel) (by decide +kernel) rfl (Or.inr rfl) ?_
  refine X_aload_n (q := 0) (show decode (mB 143) 41 = .ok (.aload_n 0, 1) by decide +kernel) (pc' := 42) rfl rfl rfl ?_
  refine X_iconst (v := 0) (show decode (mB 143) 42 = .ok (.iconst 0, 1) by decide +kernel) (pc' := 43) rfl rfl ?_
  refine X_putI (ci := 13) (f := 21) (show decode (mB 143) 43 = .ok (.putfield 179, 3) by decide +kernel) (pc' := 46) rfl (ls_65 hL) (by decide +kernel) (by decide +kernel) rfl ?_
  refine X_aload_n (q := 0) (show decode (mB 143) 46 = .ok (.aload_n 0, 1) by decide +kernel) (pc' := 47) rfl rfl rfl ?_
  refine X_iconst (v := 0) (show decode (mB 143) 47 = .ok (.iconst 0, 1) by decide +kernel) (pc' := 48) rfl rfl ?_
  refine X_putI (ci := 13) (f := 7) (show decode (mB 143) 48 = .ok (.putfield 122, 3) by decide +kernel) (pc' := 51) rfl (ls_65 hL) (by decide +kernel) (by decide +kernel) rfl ?_
  exact k
set_option maxRecDepth 4000 in
theorem b_X14_circuit_51 {xs : Nat → Int32} {L d : Nat} {S : Nat → Shp} {I : Nat → Nat → Int32} {J : Nat → Nat → Int64} {R : Nat → Nat → Nat} {c : Nat × Nat} {Q : Option (Option Value) → MH → Prop}  (hL : Lay S R)  (k : X xs L d 127 0 [.ref 65, .int 0] [] (S, I, J, R, c) (Kc xs L (d + 1) 143 56 [.ref 65, .null] [] Q)) : X xs L (d + 1) 143 51 [.ref 65, .null] [] (S, I, J, R, c) Q := by
  refine X_aload_n (q := 0) (show decode (mB 143) 51 = .ok (.aload_n 0, 1) by decide +kernel) (pc' := 52) rfl rfl rfl ?_
  refine X_iconst (v := 0) (show decode (mB 143) 52 = .ok (.iconst 0, 1) by decide +kernel) (pc' := 53) rfl rfl ?_
  exact X_callV (y := 127) (n := 1) (st := [.int 0, .ref 65]) (as := [.ref 65, .int 0]) (rest := []) (ls0 := [.ref 65, .int 0]) (ci := 13) (show decode (mB 143) 53 = .ok (.invokevirtual 131, 3) by decide +kernel) (pc' := 56) rfl (by decide +kernel) (by decide +kernel) rfl (ls_65 hL) (by decide +kernel) rfl rfl rfl rfl rfl k
set_option maxRecDepth 4000 in
theorem b_X14_circuit_56 {xs : Nat → Int32} {L d : Nat} {S : Nat → Shp} {I : Nat → Nat → Int32} {J : Nat → Nat → Int64} {R : Nat → Nat → Nat} {c : Nat × Nat} {Q : Option (Option Value) → MH → Prop} {sx0 : Int32}  (kt : ¬ sx0 = 0 → X xs L (d + 1) 143 66 [.ref 65, .null] [] (S, I, J, R, c) Q) (kf : ¬ (¬ sx0 = 0) → X xs L (d + 1) 143 59 [.ref 65, .null] [] (S, I, J, R, c) Q) : X xs L (d + 1) 143 56 [.ref 65, .null] [.int sx0] (S, I, J, R, c) Q := by
  exact X_if_ne (tgt := 66) (show decode (mB 143) 56 = .ok (.ifCond .ne 10, 3) by decide +kernel) rfl (pc' := 59) rfl kt kf
set_option maxRecDepth 4000 in
theorem b_X14_circuit_59 {xs : Nat → Int32} {L d : Nat} {S : Nat → Shp} {I : Nat → Nat → Int32} {J : Nat → Nat → Int64} {R : Nat → Nat → Nat} {c : Nat × Nat} {Q : Option (Option Value) → MH → Prop}  (hL : Lay S R)  (k : X xs L d 139 0 [.ref 65, .null, .null] [] (S, I, J, R, c) (Kh xs L (d + 1) 143 63 74 [.ref 65, .null] [.ref 65, .null] [] Q)) : X xs L (d + 1) 143 59 [.ref 65, .null] [] (S, I, J, R, c) Q := by
  refine X_aload_n (q := 0) (show decode (mB 143) 59 = .ok (.aload_n 0, 1) by decide +kernel) (pc' := 60) rfl rfl rfl ?_
  exact X_callH (y := 139) (n := 0) (st := [.ref 65]) (as := [.ref 65]) (rest := []) (ls0 := [.ref 65, .null, .null]) (h9 := 74) (ls' := [.ref 65, .null]) (ci := 13) (show decode (mB 143) 60 = .ok (.invokevirtual 227, 3) by decide +kernel) (pc' := 63) rfl (by decide +kernel) (by decide +kernel) rfl (ls_65 hL) (by decide +kernel) rfl rfl rfl rfl rfl (by decide +kernel) (by decide +kernel) rfl k
set_option maxRecDepth 4000 in
theorem b_X14_circuit_63 {xs : Nat → Int32} {L d : Nat} {S : Nat → Shp} {I : Nat → Nat → Int32} {J : Nat → Nat → Int64} {R : Nat → Nat → Nat} {c : Nat × Nat} {Q : Option (Option Value) → MH → Prop}   (k : X xs L (d + 1) 143 51 [.ref 65, .null] [] (S, I, J, R, c) Q) : X xs L (d + 1) 143 63 [.ref 65, .null] [] (S, I, J, R, c) Q := by
  refine X_goto (tgt := 51) (show decode (mB 143) 63 = .ok (.goto (-12), 3) by decide +kernel) rfl ?_
  exact k
set_option maxRecDepth 4000 in
theorem b_X14_circuit_66 {xs : Nat → Int32} {L d : Nat} {S : Nat → Shp} {I : Nat → Nat → Int32} {J : Nat → Nat → Int64} {R : Nat → Nat → Nat} {c : Nat × Nat} {Q : Option (Option Value) → MH → Prop}  (hL : Lay S R)  (k : X xs L d 142 0 [.ref 65, .null] [] (S, I, J, R, c) (Kh xs L (d + 1) 143 70 74 [.ref 65, .null] [.ref 65, .null] [] Q)) : X xs L (d + 1) 143 66 [.ref 65, .null] [] (S, I, J, R, c) Q := by
  refine X_aload_n (q := 0) (show decode (mB 143) 66 = .ok (.aload_n 0, 1) by decide +kernel) (pc' := 67) rfl rfl rfl ?_
  exact X_callH (y := 142) (n := 0) (st := [.ref 65]) (as := [.ref 65]) (rest := []) (ls0 := [.ref 65, .null]) (h9 := 74) (ls' := [.ref 65, .null]) (ci := 13) (show decode (mB 143) 67 = .ok (.invokevirtual 230, 3) by decide +kernel) (pc' := 70) rfl (by decide +kernel) (by decide +kernel) rfl (ls_65 hL) (by decide +kernel) rfl rfl rfl rfl rfl (by decide +kernel) (by decide +kernel) rfl k
set_option maxRecDepth 4000 in
theorem b_X14_circuit_70 {xs : Nat → Int32} {L d : Nat} {S : Nat → Shp} {I : Nat → Nat → Int32} {J : Nat → Nat → Int64} {R : Nat → Nat → Nat} {c : Nat × Nat} {Q : Option (Option Value) → MH → Prop}   (k : X xs L (d + 1) 143 79 [.ref 65, .null] [] (S, I, J, R, c) Q) : X xs L (d + 1) 143 70 [.ref 65, .null] [] (S, I, J, R, c) Q := by
  refine X_goto (tgt := 79) (show decode (mB 143) 70 = .ok (.goto 9, 3) by decide +kernel) rfl ?_
  exact k
set_option maxRecDepth 4000 in
theorem b_X14_circuit_74 {xs : Nat → Int32} {L d : Nat} {S : Nat → Shp} {I : Nat → Nat → Int32} {J : Nat → Nat → Int64} {R : Nat → Nat → Nat} {c : Nat × Nat} {Q : Option (Option Value) → MH → Prop}  (hL : Lay S R)  (k : Q (some (some (.int (I 65 8)))) (S, I, J, R, c)) : X xs L (d + 1) 143 74 [.ref 65, .null] [] (S, I, J, R, c) Q := by
  refine X_aload_n (q := 0) (show decode (mB 143) 74 = .ok (.aload_n 0, 1) by decide +kernel) (pc' := 75) rfl rfl rfl ?_
  refine X_getI (ci := 13) (f := 8) (x := I 65 8) (show decode (mB 143) 75 = .ok (.getfield 125, 3) by decide +kernel) (pc' := 78) rfl (ls_65 hL) (by decide +kernel) rfl rfl ?_
  exact X_ireturn (ty := .int) (show decode (mB 143) 78 = .ok (.ireturn, 1) by decide +kernel) (by decide +kernel) rfl k
set_option maxRecDepth 4000 in
theorem b_X14_circuit_79 {xs : Nat → Int32} {L d : Nat} {S : Nat → Shp} {I : Nat → Nat → Int32} {J : Nat → Nat → Int64} {R : Nat → Nat → Nat} {c : Nat × Nat} {Q : Option (Option Value) → MH → Prop} {q_65_9 q_65_17 q_65_11 q_65_18 : Nat} (hL : Lay S R) (hq_65_9 : R 65 9 = q_65_9) (hq_65_17 : R 65 17 = q_65_17) (hq_65_11 : R 65 11 = q_65_11) (hq_65_18 : R 65 18 = q_65_18) (k : Q (some (some (.int (-2)))) (S, (u2 I 65 22 1), J, (u2 (u2 (u2 (u2 (u2 R 65 10 q_65_9) 65 9 q_65_17) 65 12 q_65_11) 65 11 q_65_18) 65 13 0), c)) : X xs L (d + 1) 143 79 [.ref 65, .null] [] (S, I, J, R, c) Q := by
  refine X_aload_n (q := 0) (show decode (mB 143) 79 = .ok (.aload_n 0, 1) by decide +kernel) (pc' := 80) rfl rfl rfl ?_
  refine X_aload_n (q := 0) (show decode (mB 143) 80 = .ok (.aload_n 0, 1) by decide +kernel) (pc' := 81) rfl rfl rfl ?_
  refine X_getR (ci := 13) (f := 9) (q := q_65_9) (show decode (mB 143) 81 = .ok (.getfield 30, 3) by decide +kernel) (pc' := 84) rfl (ls_65 hL) (by decide +kernel) rfl hq_65_9 ?_
  refine X_putR (ci := 13) (f := 10) (show decode (mB 143) 84 = .ok (.putfield 34, 3) by decide +kernel) (pc' := 87) rfl (ls_65 hL) (by decide +kernel) (by decide +kernel) rfl ?_
  refine X_aload_n (q := 0) (show decode (mB 143) 87 = .ok (.aload_n 0, 1) by decide +kernel) (pc' := 88) rfl rfl rfl ?_
  refine X_aload_n (q := 0) (show decode (mB 143) 88 = .ok (.aload_n 0, 1) by decide +kernel) (pc' := 89) rfl rfl rfl ?_
  refine X_getR (ci := 13) (f := 17) (q := q_65_17) (show decode (mB 143) 89 = .ok (.getfield 138, 3) by decide +kernel) (pc' := 92) rfl (ls_65 hL) (by decide +kernel) rfl (by simp [u2, u1]; exact hq_65_17) ?_
  refine X_putR (ci := 13) (f := 9) (show decode (mB 143) 92 = .ok (.putfield 30, 3) by decide +kernel) (pc' := 95) rfl (ls_65 hL) (by decide +kernel) (by decide +kernel) rfl ?_
  refine X_aload_n (q := 0) (show decode (mB 143) 95 = .ok (.aload_n 0, 1) by decide +kernel) (pc' := 96) rfl rfl rfl ?_
  refine X_aload_n (q := 0) (show decode (mB 143) 96 = .ok (.aload_n 0, 1) by decide +kernel) (pc' := 97) rfl rfl rfl ?_
  refine X_getR (ci := 13) (f := 11) (q := q_65_11) (show decode (mB 143) 97 = .ok (.getfield 40, 3) by decide +kernel) (pc' := 100) rfl (ls_65 hL) (by decide +kernel) rfl (by simp [u2, u1]; exact hq_65_11) ?_
  refine X_putR (ci := 13) (f := 12) (show decode (mB 143) 100 = .ok (.putfield 44, 3) by decide +kernel) (pc' := 103) rfl (ls_65 hL) (by decide +kernel) (by decide +kernel) rfl ?_
  refine X_aload_n (q := 0) (show decode (mB 143) 103 = .ok (.aload_n 0, 1) by decide +kernel) (pc' := 104) rfl rfl rfl ?_
  refine X_aload_n (q := 0) (show decode (mB 143) 104 = .ok (.aload_n 0, 1) by decide +kernel) (pc' := 105) rfl rfl rfl ?_
  refine X_getR (ci := 13) (f := 18) (q := q_65_18) (show decode (mB 143) 105 = .ok (.getfield 202, 3) by decide +kernel) (pc' := 108) rfl (ls_65 hL) (by decide +kernel) rfl (by simp [u2, u1]; exact hq_65_18) ?_
  refine X_putR (ci := 13) (f := 11) (show decode (mB 143) 108 = .ok (.putfield 40, 3) by decide +kernel) (pc' := 111) rfl (ls_65 hL) (by decide +kernel) (by decide +kernel) rfl ?_
  refine X_aload_n (q := 0) (show decode (mB 143) 111 = .ok (.aload_n 0, 1) by decide +kernel) (pc' := 112) rfl rfl rfl ?_
  refine X_null (show decode (mB 143) 112 = .ok (.aconst_null, 1) by decide +kernel) (pc' := 113) rfl ?_
  refine X_putR (ci := 13) (f := 13) (show decode (mB 143) 113 = .ok (.putfield 233, 3) by decide +kernel) (pc' := 116) rfl (ls_65 hL) (by decide +kernel) (by decide +kernel) rfl ?_
  refine X_aload_n (q := 0) (show decode (mB 143) 116 = .ok (.aload_n 0, 1) by decide +kernel) (pc' := 117) rfl rfl rfl ?_
  refine X_iconst (v := 1) (show decode (mB 143) 117 = .ok (.iconst 1, 1) by decide +kernel) (pc' := 118) rfl rfl ?_
  refine X_putZ (ci := 13) (f := 22) (show decode (mB 143) 118 = .ok (.putfield 236, 3) by decide +kernel) (pc' := 121) rfl (ls_65 hL) (by decide +kernel) (by decide +kernel) rfl (Or.inr rfl) ?_
  refine X_bipush (v := (-2)) (show decode (mB 143) 121 = .ok (.bipush (-2), 2) by decide +kernel) (pc' := 123) rfl (by decide +kernel) ?_
  exact X_ireturn (ty := .int) (show decode (mB 143) 123 = .ok (.ireturn, 1) by decide +kernel) (by decide +kernel) rfl k
set_option maxRecDepth 4000 in
theorem b_X14_number_0 {xs : Nat → Int32} {L d : Nat} {S : Nat → Shp} {I : Nat → Nat → Int32} {J : Nat → Nat → Int64} {R : Nat → Nat → Nat} {c : Nat × Nat} {Q : Option (Option Value) → MH → Prop} {x1 : Int32} (hL : Lay S R)  (k : X xs L d 127 0 [.ref 65, .int 3] [] (S, I, J, R, c) (Kc xs L (d + 1) 144 6 [.ref 65, .int x1] [.ref 65] Q)) : X xs L (d + 1) 144 0 [.ref 65, .int x1] [] (S, I, J, R, c) Q := by
  refine X_aload_n (q := 0) (show decode (mB 144) 0 = .ok (.aload_n 0, 1) by decide +kernel) (pc' := 1) rfl rfl rfl ?_
  refine X_aload_n (q := 0) (show decode (mB 144) 1 = .ok (.aload_n 0, 1) by decide +kernel) (pc' := 2) rfl rfl rfl ?_
  refine X_iconst (v := 3) (show decode (mB 144) 2 = .ok (.iconst 3, 1) by decide +kernel) (pc' := 3) rfl rfl ?_
  exact X_callV (y := 127) (n := 1) (st := [.int 3, .ref 65, .ref 65]) (as := [.ref 65, .int 3]) (rest := [.ref 65]) (ls0 := [.ref 65, .int 3]) (ci := 13) (show decode (mB 144) 3 = .ok (.invokevirtual 131, 3) by decide +kernel) (pc' := 6) rfl (by decide +kernel) (by decide +kernel) rfl (ls_65 hL) (by decide +kernel) rfl rfl rfl rfl rfl k
set_option maxRecDepth 4000 in
theorem b_X14_number_6 {xs : Nat → Int32} {L d : Nat} {S : Nat → Shp} {I : Nat → Nat → Int32} {J : Nat → Nat → Int64} {R : Nat → Nat → Nat} {c : Nat × Nat} {Q : Option (Option Value) → MH → Prop} {x1 sx1 : Int32}  (kt : sx1 = 0 → X xs L (d + 1) 144 44 [.ref 65, .int x1] [.ref 65] (S, I, J, R, c) Q) (kf : ¬ (sx1 = 0) → X xs L (d + 1) 144 9 [.ref 65, .int x1] [.ref 65] (S, I, J, R, c) Q) : X xs L (d + 1) 144 6 [.ref 65, .int x1] [.int sx1, .ref 65] (S, I, J, R, c) Q := by
  exact X_if_eq (tgt := 44) (show decode (mB 144) 6 = .ok (.ifCond .eq 38, 3) by decide +kernel) rfl (pc' := 9) rfl kt kf
set_option maxRecDepth 4000 in
theorem b_X14_number_9 {xs : Nat → Int32} {L d : Nat} {S : Nat → Shp} {I : Nat → Nat → Int32} {J : Nat → Nat → Int64} {R : Nat → Nat → Nat} {c : Nat × Nat} {Q : Option (Option Value) → MH → Prop} {x1 : Int32} (hL : Lay S R) (hb17 : inb (I 65 7) 2001 = true) (kt : (lg_cmp (J 68 (I 65 7).toNatClampNeg) (x1.toInt64)) < 0 → X xs L (d + 1) 144 44 [.ref 65, .int x1] [.ref 65] (S, I, J, R, c) Q) (kf : ¬ ((lg_cmp (J 68 (I 65 7).toNatClampNeg) (x1.toInt64)) < 0) → X xs L (d + 1) 144 24 [.ref 65, .int x1] [.ref 65] (S, I, J, R, c) Q) : X xs L (d + 1) 144 9 [.ref 65, .int x1] [.ref 65] (S, I, J, R, c) Q := by
  refine X_aload_n (q := 0) (show decode (mB 144) 9 = .ok (.aload_n 0, 1) by decide +kernel) (pc' := 10) rfl rfl rfl ?_
  refine X_getR (ci := 13) (f := 3) (q := 68) (show decode (mB 144) 10 = .ok (.getfield 17, 3) by decide +kernel) (pc' := 13) rfl (ls_65 hL) (by decide +kernel) rfl (lr_65_3 hL) ?_
  refine X_aload_n (q := 0) (show decode (mB 144) 13 = .ok (.aload_n 0, 1) by decide +kernel) (pc' := 14) rfl rfl rfl ?_
  refine X_getI (ci := 13) (f := 7) (x := I 65 7) (show decode (mB 144) 14 = .ok (.getfield 122, 3) by decide +kernel) (pc' := 17) rfl (ls_65 hL) (by decide +kernel) rfl rfl ?_
  refine X_laload (w := J 68 (I 65 7).toNatClampNeg) (show decode (mB 144) 17 = .ok (.laload, 1) by decide +kernel) (pc' := 18) rfl (ls_68 hL) hb17 rfl ?_
  refine X_iload_n (q := 1) (show decode (mB 144) 18 = .ok (.iload_n 1, 1) by decide +kernel) (pc' := 19) rfl rfl rfl ?_
  refine X_i2l (show decode (mB 144) 19 = .ok (.i2l, 1) by decide +kernel) (pc' := 20) rfl ?_
  refine X_lcmp (show decode (mB 144) 20 = .ok (.lcmp, 1) by decide +kernel) (pc' := 21) rfl ?_
  exact X_if_lt (tgt := 44) (show decode (mB 144) 21 = .ok (.ifCond .lt 23, 3) by decide +kernel) rfl (pc' := 24) rfl kt kf
set_option maxRecDepth 4000 in
theorem b_X14_number_24 {xs : Nat → Int32} {L d : Nat} {S : Nat → Shp} {I : Nat → Nat → Int32} {J : Nat → Nat → Int64} {R : Nat → Nat → Nat} {c : Nat × Nat} {Q : Option (Option Value) → MH → Prop} {x1 : Int32} (hL : Lay S R) (hb32 : inb (I 65 7) 2001 = true) (kt : 0 ≤ (lg_cmp (J 68 (I 65 7).toNatClampNeg) 12) → X xs L (d + 1) 144 44 [.ref 65, .int x1] [.ref 65] (S, I, J, R, c) Q) (kf : ¬ (0 ≤ (lg_cmp (J 68 (I 65 7).toNatClampNeg) 12)) → X xs L (d + 1) 144 40 [.ref 65, .int x1] [.ref 65] (S, I, J, R, c) Q) : X xs L (d + 1) 144 24 [.ref 65, .int x1] [.ref 65] (S, I, J, R, c) Q := by
  refine X_aload_n (q := 0) (show decode (mB 144) 24 = .ok (.aload_n 0, 1) by decide +kernel) (pc' := 25) rfl rfl rfl ?_
  refine X_getR (ci := 13) (f := 3) (q := 68) (show decode (mB 144) 25 = .ok (.getfield 17, 3) by decide +kernel) (pc' := 28) rfl (ls_65 hL) (by decide +kernel) rfl (lr_65_3 hL) ?_
  refine X_aload_n (q := 0) (show decode (mB 144) 28 = .ok (.aload_n 0, 1) by decide +kernel) (pc' := 29) rfl rfl rfl ?_
  refine X_getI (ci := 13) (f := 7) (x := I 65 7) (show decode (mB 144) 29 = .ok (.getfield 122, 3) by decide +kernel) (pc' := 32) rfl (ls_65 hL) (by decide +kernel) rfl rfl ?_
  refine X_laload (w := J 68 (I 65 7).toNatClampNeg) (show decode (mB 144) 32 = .ok (.laload, 1) by decide +kernel) (pc' := 33) rfl (ls_68 hL) hb32 rfl ?_
  refine X_ldc2 (v := 12) (show decode (mB 144) 33 = .ok (.ldc2_w 239, 3) by decide +kernel) (pc' := 36) rfl (by decide +kernel) ?_
  refine X_lcmp (show decode (mB 144) 36 = .ok (.lcmp, 1) by decide +kernel) (pc' := 37) rfl ?_
  exact X_if_ge (tgt := 44) (show decode (mB 144) 37 = .ok (.ifCond .ge 7, 3) by decide +kernel) rfl (pc' := 40) rfl kt kf
set_option maxRecDepth 4000 in
theorem b_X14_number_40 {xs : Nat → Int32} {L d : Nat} {S : Nat → Shp} {I : Nat → Nat → Int32} {J : Nat → Nat → Int64} {R : Nat → Nat → Nat} {c : Nat × Nat} {Q : Option (Option Value) → MH → Prop} {x1 : Int32}  (k : X xs L (d + 1) 144 45 [.ref 65, .int x1] [.int 1, .ref 65] (S, I, J, R, c) Q) : X xs L (d + 1) 144 40 [.ref 65, .int x1] [.ref 65] (S, I, J, R, c) Q := by
  refine X_iconst (v := 1) (show decode (mB 144) 40 = .ok (.iconst 1, 1) by decide +kernel) (pc' := 41) rfl rfl ?_
  refine X_goto (tgt := 45) (show decode (mB 144) 41 = .ok (.goto 4, 3) by decide +kernel) rfl ?_
  exact k
set_option maxRecDepth 4000 in
theorem b_X14_number_44 {xs : Nat → Int32} {L d : Nat} {S : Nat → Shp} {I : Nat → Nat → Int32} {J : Nat → Nat → Int64} {R : Nat → Nat → Nat} {c : Nat × Nat} {Q : Option (Option Value) → MH → Prop} {x1 : Int32}  (k : X xs L (d + 1) 144 45 [.ref 65, .int x1] [.int 0, .ref 65] (S, I, J, R, c) Q) : X xs L (d + 1) 144 44 [.ref 65, .int x1] [.ref 65] (S, I, J, R, c) Q := by
  refine X_iconst (v := 0) (show decode (mB 144) 44 = .ok (.iconst 0, 1) by decide +kernel) (pc' := 45) rfl rfl ?_
  exact k
set_option maxRecDepth 4000 in
theorem b_X14_number_45 {xs : Nat → Int32} {L d : Nat} {S : Nat → Shp} {I : Nat → Nat → Int32} {J : Nat → Nat → Int64} {R : Nat → Nat → Nat} {c : Nat × Nat} {Q : Option (Option Value) → MH → Prop} {x1 sx1 : Int32} (hL : Lay S R)  (k : X xs L d 128 0 [.ref 65, .int sx1] [] (S, I, J, R, c) (Kt xs L (d + 1) 144 48 [.ref 65, .int x1] [] Q)) : X xs L (d + 1) 144 45 [.ref 65, .int x1] [.int sx1, .ref 65] (S, I, J, R, c) Q := by
  exact X_callT (y := 128) (n := 1) (st := [.int sx1, .ref 65]) (as := [.ref 65, .int sx1]) (rest := []) (ls0 := [.ref 65, .int sx1]) (ci := 13) (show decode (mB 144) 45 = .ok (.invokevirtual 134, 3) by decide +kernel) (pc' := 48) rfl (by decide +kernel) (by decide +kernel) rfl (ls_65 hL) (by decide +kernel) rfl rfl rfl rfl rfl (by decide +kernel) (by decide +kernel) k
set_option maxRecDepth 4000 in
theorem b_X14_number_48 {xs : Nat → Int32} {L d : Nat} {S : Nat → Shp} {I : Nat → Nat → Int32} {J : Nat → Nat → Int64} {R : Nat → Nat → Nat} {c : Nat × Nat} {Q : Option (Option Value) → MH → Prop} {x1 : Int32} (hL : Lay S R) (hb68 : inb (((I 65 7) + 1) - 1) 2001 = true) (k : Q (some (some (.int ((J 68 (((I 65 7) + 1) - 1).toNatClampNeg).toInt32)))) (S, (u2 I 65 7 ((I 65 7) + 1)), J, R, c)) : X xs L (d + 1) 144 48 [.ref 65, .int x1] [] (S, I, J, R, c) Q := by
  refine X_aload_n (q := 0) (show decode (mB 144) 48 = .ok (.aload_n 0, 1) by decide +kernel) (pc' := 49) rfl rfl rfl ?_
  refine X_dup (show decode (mB 144) 49 = .ok (.dup, 1) by decide +kernel) (pc' := 50) rfl rfl ?_
  refine X_getI (ci := 13) (f := 7) (x := I 65 7) (show decode (mB 144) 50 = .ok (.getfield 122, 3) by decide +kernel) (pc' := 53) rfl (ls_65 hL) (by decide +kernel) rfl rfl ?_
  refine X_iconst (v := 1) (show decode (mB 144) 53 = .ok (.iconst 1, 1) by decide +kernel) (pc' := 54) rfl rfl ?_
  refine X_iadd (show decode (mB 144) 54 = .ok (.iadd, 1) by decide +kernel) (pc' := 55) rfl ?_
  refine X_putI (ci := 13) (f := 7) (show decode (mB 144) 55 = .ok (.putfield 122, 3) by decide +kernel) (pc' := 58) rfl (ls_65 hL) (by decide +kernel) (by decide +kernel) rfl ?_
  refine X_aload_n (q := 0) (show decode (mB 144) 58 = .ok (.aload_n 0, 1) by decide +kernel) (pc' := 59) rfl rfl rfl ?_
  refine X_getR (ci := 13) (f := 3) (q := 68) (show decode (mB 144) 59 = .ok (.getfield 17, 3) by decide +kernel) (pc' := 62) rfl (ls_65 hL) (by decide +kernel) rfl (lr_65_3 hL) ?_
  refine X_aload_n (q := 0) (show decode (mB 144) 62 = .ok (.aload_n 0, 1) by decide +kernel) (pc' := 63) rfl rfl rfl ?_
  refine X_getI (ci := 13) (f := 7) (x := (I 65 7) + 1) (show decode (mB 144) 63 = .ok (.getfield 122, 3) by decide +kernel) (pc' := 66) rfl (ls_65 hL) (by decide +kernel) rfl (by simp [u2, u1]) ?_
  refine X_iconst (v := 1) (show decode (mB 144) 66 = .ok (.iconst 1, 1) by decide +kernel) (pc' := 67) rfl rfl ?_
  refine X_isub (show decode (mB 144) 67 = .ok (.isub, 1) by decide +kernel) (pc' := 68) rfl ?_
  refine X_laload (w := J 68 (((I 65 7) + 1) - 1).toNatClampNeg) (show decode (mB 144) 68 = .ok (.laload, 1) by decide +kernel) (pc' := 69) rfl (ls_68 hL) hb68 rfl ?_
  refine X_l2i (show decode (mB 144) 69 = .ok (.l2i, 1) by decide +kernel) (pc' := 70) rfl ?_
  exact X_ireturn (ty := .int) (show decode (mB 144) 70 = .ok (.ireturn, 1) by decide +kernel) (by decide +kernel) rfl k
set_option maxRecDepth 4000 in
theorem b_X14_clause_0 {xs : Nat → Int32} {L d : Nat} {S : Nat → Shp} {I : Nat → Nat → Int32} {J : Nat → Nat → Int64} {R : Nat → Nat → Nat} {c : Nat × Nat} {Q : Option (Option Value) → MH → Prop} {x1 : Int32} (hL : Lay S R)  (k : X xs L d 127 0 [.ref 65, .int 1] [] (S, I, J, R, c) (Kc xs L (d + 1) 145 6 [.ref 65, .int x1, .null] [.ref 65] Q)) : X xs L (d + 1) 145 0 [.ref 65, .int x1, .null] [] (S, I, J, R, c) Q := by
  refine X_aload_n (q := 0) (show decode (mB 145) 0 = .ok (.aload_n 0, 1) by decide +kernel) (pc' := 1) rfl rfl rfl ?_
  refine X_aload_n (q := 0) (show decode (mB 145) 1 = .ok (.aload_n 0, 1) by decide +kernel) (pc' := 2) rfl rfl rfl ?_
  refine X_iconst (v := 1) (show decode (mB 145) 2 = .ok (.iconst 1, 1) by decide +kernel) (pc' := 3) rfl rfl ?_
  exact X_callV (y := 127) (n := 1) (st := [.int 1, .ref 65, .ref 65]) (as := [.ref 65, .int 1]) (rest := [.ref 65]) (ls0 := [.ref 65, .int 1]) (ci := 13) (show decode (mB 145) 3 = .ok (.invokevirtual 131, 3) by decide +kernel) (pc' := 6) rfl (by decide +kernel) (by decide +kernel) rfl (ls_65 hL) (by decide +kernel) rfl rfl rfl rfl rfl k
set_option maxRecDepth 4000 in
theorem b_X14_clause_6 {xs : Nat → Int32} {L d : Nat} {S : Nat → Shp} {I : Nat → Nat → Int32} {J : Nat → Nat → Int64} {R : Nat → Nat → Nat} {c : Nat × Nat} {Q : Option (Option Value) → MH → Prop} {x1 sx1 : Int32} (hL : Lay S R)  (k : X xs L d 128 0 [.ref 65, .int sx1] [] (S, I, J, R, c) (Kt xs L (d + 1) 145 9 [.ref 65, .int x1, .null] [] Q)) : X xs L (d + 1) 145 6 [.ref 65, .int x1, .null] [.int sx1, .ref 65] (S, I, J, R, c) Q := by
  exact X_callT (y := 128) (n := 1) (st := [.int sx1, .ref 65]) (as := [.ref 65, .int sx1]) (rest := []) (ls0 := [.ref 65, .int sx1]) (ci := 13) (show decode (mB 145) 6 = .ok (.invokevirtual 134, 3) by decide +kernel) (pc' := 9) rfl (by decide +kernel) (by decide +kernel) rfl (ls_65 hL) (by decide +kernel) rfl rfl rfl rfl rfl (by decide +kernel) (by decide +kernel) k
set_option maxRecDepth 4000 in
theorem b_X14_clause_9 {xs : Nat → Int32} {L d : Nat} {S : Nat → Shp} {I : Nat → Nat → Int32} {J : Nat → Nat → Int64} {R : Nat → Nat → Nat} {c : Nat × Nat} {Q : Option (Option Value) → MH → Prop} {x1 : Int32} {q_65_11 : Nat} (hL : Lay S R) (hq_65_11 : R 65 11 = q_65_11) (hb21 : inb (I 65 7) 2001 = true) (k : X xs L d 137 0 [.ref q_65_11, .long (J 68 (I 65 7).toNatClampNeg), .null, .null] [] (S, I, J, R, c) (Kc xs L (d + 1) 145 25 [.ref 65, .int x1, .null] [] Q)) : X xs L (d + 1) 145 9 [.ref 65, .int x1, .null] [] (S, I, J, R, c) Q := by
  refine X_aload_n (q := 0) (show decode (mB 145) 9 = .ok (.aload_n 0, 1) by decide +kernel) (pc' := 10) rfl rfl rfl ?_
  refine X_getR (ci := 13) (f := 11) (q := q_65_11) (show decode (mB 145) 10 = .ok (.getfield 40, 3) by decide +kernel) (pc' := 13) rfl (ls_65 hL) (by decide +kernel) rfl hq_65_11 ?_
  refine X_aload_n (q := 0) (show decode (mB 145) 13 = .ok (.aload_n 0, 1) by decide +kernel) (pc' := 14) rfl rfl rfl ?_
  refine X_getR (ci := 13) (f := 3) (q := 68) (show decode (mB 145) 14 = .ok (.getfield 17, 3) by decide +kernel) (pc' := 17) rfl (ls_65 hL) (by decide +kernel) rfl (lr_65_3 hL) ?_
  refine X_aload_n (q := 0) (show decode (mB 145) 17 = .ok (.aload_n 0, 1) by decide +kernel) (pc' := 18) rfl rfl rfl ?_
  refine X_getI (ci := 13) (f := 7) (x := I 65 7) (show decode (mB 145) 18 = .ok (.getfield 122, 3) by decide +kernel) (pc' := 21) rfl (ls_65 hL) (by decide +kernel) rfl rfl ?_
  refine X_laload (w := J 68 (I 65 7).toNatClampNeg) (show decode (mB 145) 21 = .ok (.laload, 1) by decide +kernel) (pc' := 22) rfl (ls_68 hL) hb21 rfl ?_
  exact X_callS (y := 137) (n := 2) (st := [.long (J 68 (I 65 7).toNatClampNeg), .ref q_65_11]) (as := [.ref q_65_11, .long (J 68 (I 65 7).toNatClampNeg)]) (rest := []) (ls0 := [.ref q_65_11, .long (J 68 (I 65 7).toNatClampNeg), .null, .null]) (show decode (mB 145) 22 = .ok (.invokestatic 205, 3) by decide +kernel) (pc' := 25) rfl (by decide +kernel) (by decide +kernel) rfl rfl rfl rfl rfl rfl rfl rfl k
set_option maxRecDepth 4000 in
theorem b_X14_clause_25 {xs : Nat → Int32} {L d : Nat} {S : Nat → Shp} {I : Nat → Nat → Int32} {J : Nat → Nat → Int64} {R : Nat → Nat → Nat} {c : Nat × Nat} {Q : Option (Option Value) → MH → Prop} {x1 sx0 : Int32}  (kt : sx0 < 0 → X xs L (d + 1) 145 35 [.ref 65, .int x1, .int sx0] [.ref 65] (S, I, J, R, c) Q) (kf : ¬ (sx0 < 0) → X xs L (d + 1) 145 31 [.ref 65, .int x1, .int sx0] [.ref 65] (S, I, J, R, c) Q) : X xs L (d + 1) 145 25 [.ref 65, .int x1, .null] [.int sx0] (S, I, J, R, c) Q := by
  refine X_istore_n (q := 2) (ls' := [.ref 65, .int x1, .int sx0]) (show decode (mB 145) 25 = .ok (.istore_n 2, 1) by decide +kernel) (pc' := 26) rfl rfl rfl ?_
  refine X_aload_n (q := 0) (show decode (mB 145) 26 = .ok (.aload_n 0, 1) by decide +kernel) (pc' := 27) rfl rfl rfl ?_
  refine X_iload_n (q := 2) (show decode (mB 145) 27 = .ok (.iload_n 2, 1) by decide +kernel) (pc' := 28) rfl rfl rfl ?_
  exact X_if_lt (tgt := 35) (show decode (mB 145) 28 = .ok (.ifCond .lt 7, 3) by decide +kernel) rfl (pc' := 31) rfl kt kf
set_option maxRecDepth 4000 in
theorem b_X14_clause_31 {xs : Nat → Int32} {L d : Nat} {S : Nat → Shp} {I : Nat → Nat → Int32} {J : Nat → Nat → Int64} {R : Nat → Nat → Nat} {c : Nat × Nat} {Q : Option (Option Value) → MH → Prop} {x1 x2 : Int32}  (k : X xs L (d + 1) 145 36 [.ref 65, .int x1, .int x2] [.int 1, .ref 65] (S, I, J, R, c) Q) : X xs L (d + 1) 145 31 [.ref 65, .int x1, .int x2] [.ref 65] (S, I, J, R, c) Q := by
  refine X_iconst (v := 1) (show decode (mB 145) 31 = .ok (.iconst 1, 1) by decide +kernel) (pc' := 32) rfl rfl ?_
  refine X_goto (tgt := 36) (show decode (mB 145) 32 = .ok (.goto 4, 3) by decide +kernel) rfl ?_
  exact k
set_option maxRecDepth 4000 in
theorem b_X14_clause_35 {xs : Nat → Int32} {L d : Nat} {S : Nat → Shp} {I : Nat → Nat → Int32} {J : Nat → Nat → Int64} {R : Nat → Nat → Nat} {c : Nat × Nat} {Q : Option (Option Value) → MH → Prop} {x1 x2 : Int32}  (k : X xs L (d + 1) 145 36 [.ref 65, .int x1, .int x2] [.int 0, .ref 65] (S, I, J, R, c) Q) : X xs L (d + 1) 145 35 [.ref 65, .int x1, .int x2] [.ref 65] (S, I, J, R, c) Q := by
  refine X_iconst (v := 0) (show decode (mB 145) 35 = .ok (.iconst 0, 1) by decide +kernel) (pc' := 36) rfl rfl ?_
  exact k
set_option maxRecDepth 4000 in
theorem b_X14_clause_36 {xs : Nat → Int32} {L d : Nat} {S : Nat → Shp} {I : Nat → Nat → Int32} {J : Nat → Nat → Int64} {R : Nat → Nat → Nat} {c : Nat × Nat} {Q : Option (Option Value) → MH → Prop} {x1 x2 sx1 : Int32} (hL : Lay S R)  (k : X xs L d 128 0 [.ref 65, .int sx1] [] (S, I, J, R, c) (Kt xs L (d + 1) 145 39 [.ref 65, .int x1, .int x2] [] Q)) : X xs L (d + 1) 145 36 [.ref 65, .int x1, .int x2] [.int sx1, .ref 65] (S, I, J, R, c) Q := by
  exact X_callT (y := 128) (n := 1) (st := [.int sx1, .ref 65]) (as := [.ref 65, .int sx1]) (rest := []) (ls0 := [.ref 65, .int sx1]) (ci := 13) (show decode (mB 145) 36 = .ok (.invokevirtual 134, 3) by decide +kernel) (pc' := 39) rfl (by decide +kernel) (by decide +kernel) rfl (ls_65 hL) (by decide +kernel) rfl rfl rfl rfl rfl (by decide +kernel) (by decide +kernel) k
set_option maxRecDepth 4000 in
theorem b_X14_clause_39 {xs : Nat → Int32} {L d : Nat} {S : Nat → Shp} {I : Nat → Nat → Int32} {J : Nat → Nat → Int64} {R : Nat → Nat → Nat} {c : Nat × Nat} {Q : Option (Option Value) → MH → Prop} {x1 x2 : Int32} {q_65_19 : Nat} (hL : Lay S R) (hq_65_19 : R 65 19 = q_65_19) (h_q_65_19 : LyCs S R q_65_19) (hb48 : inb x1 48 = true) (hn_65_q_65_19p1 : 65 ≠ (q_65_19 + 1)) (k : X xs L d 129 0 [.ref 65, .int 15] [] (S, (u2 (u2 I (q_65_19 + 1) x1.toNatClampNeg x2) 65 7 ((I 65 7) + 1)), J, R, c) (Kt xs L (d + 1) 145 65 [.ref 65, .int x1, .int x2] [] Q)) : X xs L (d + 1) 145 39 [.ref 65, .int x1, .int x2] [] (S, I, J, R, c) Q := by
  refine X_aload_n (q := 0) (show decode (mB 145) 39 = .ok (.aload_n 0, 1) by decide +kernel) (pc' := 40) rfl rfl rfl ?_
  refine X_getR (ci := 13) (f := 19) (q := q_65_19) (show decode (mB 145) 40 = .ok (.getfield 192, 3) by decide +kernel) (pc' := 43) rfl (ls_65 hL) (by decide +kernel) rfl hq_65_19 ?_
  refine X_getR (ci := 10) (f := 0) (q := (q_65_19 + 1)) (show decode (mB 145) 43 = .ok (.getfield 241, 3) by decide +kernel) (pc' := 46) rfl h_q_65_19.s0 (by decide +kernel) rfl h_q_65_19.r0_0 ?_
  refine X_iload_n (q := 1) (show decode (mB 145) 46 = .ok (.iload_n 1, 1) by decide +kernel) (pc' := 47) rfl rfl rfl ?_
  refine X_iload_n (q := 2) (show decode (mB 145) 47 = .ok (.iload_n 2, 1) by decide +kernel) (pc' := 48) rfl rfl rfl ?_
  refine X_iastore (show decode (mB 145) 48 = .ok (.iastore, 1) by decide +kernel) (pc' := 49) rfl h_q_65_19.s1 hb48 ?_
  refine X_aload_n (q := 0) (show decode (mB 145) 49 = .ok (.aload_n 0, 1) by decide +kernel) (pc' := 50) rfl rfl rfl ?_
  refine X_dup (show decode (mB 145) 50 = .ok (.dup, 1) by decide +kernel) (pc' := 51) rfl rfl ?_
  refine X_getI (ci := 13) (f := 7) (x := I 65 7) (show decode (mB 145) 51 = .ok (.getfield 122, 3) by decide +kernel) (pc' := 54) rfl (ls_65 hL) (by decide +kernel) rfl (by simp [u2, u1, hn_65_q_65_19p1]) ?_
  refine X_iconst (v := 1) (show decode (mB 145) 54 = .ok (.iconst 1, 1) by decide +kernel) (pc' := 55) rfl rfl ?_
  refine X_iadd (show decode (mB 145) 55 = .ok (.iadd, 1) by decide +kernel) (pc' := 56) rfl ?_
  refine X_putI (ci := 13) (f := 7) (show decode (mB 145) 56 = .ok (.putfield 122, 3) by decide +kernel) (pc' := 59) rfl (ls_65 hL) (by decide +kernel) (by decide +kernel) rfl ?_
  refine X_aload_n (q := 0) (show decode (mB 145) 59 = .ok (.aload_n 0, 1) by decide +kernel) (pc' := 60) rfl rfl rfl ?_
  refine X_bipush (v := 15) (show decode (mB 145) 60 = .ok (.bipush 15, 2) by decide +kernel) (pc' := 62) rfl (by decide +kernel) ?_
  exact X_callT (y := 129) (n := 1) (st := [.int 15, .ref 65]) (as := [.ref 65, .int 15]) (rest := []) (ls0 := [.ref 65, .int 15]) (ci := 13) (show decode (mB 145) 62 = .ok (.invokevirtual 172, 3) by decide +kernel) (pc' := 65) rfl (by decide +kernel) (by decide +kernel) rfl (ls_65 hL) (by decide +kernel) rfl rfl rfl rfl rfl (by decide +kernel) (by decide +kernel) k
set_option maxRecDepth 4000 in
theorem b_X14_clause_65 {xs : Nat → Int32} {L d : Nat} {S : Nat → Shp} {I : Nat → Nat → Int32} {J : Nat → Nat → Int64} {R : Nat → Nat → Nat} {c : Nat × Nat} {Q : Option (Option Value) → MH → Prop} {x1 x2 : Int32} {q_65_19 : Nat} (hL : Lay S R) (hq_65_19 : R 65 19 = q_65_19) (h_q_65_19 : LyCs S R q_65_19) (k : X xs L d 131 0 [.ref 65, .int 0, .null] [] (S, I, J, R, c) (Kt xs L (d + 1) 145 78 [.ref 65, .int x1, .int x2] [.int x1, .ref (q_65_19 + 2)] Q)) : X xs L (d + 1) 145 65 [.ref 65, .int x1, .int x2] [] (S, I, J, R, c) Q := by
  refine X_aload_n (q := 0) (show decode (mB 145) 65 = .ok (.aload_n 0, 1) by decide +kernel) (pc' := 66) rfl rfl rfl ?_
  refine X_getR (ci := 13) (f := 19) (q := q_65_19) (show decode (mB 145) 66 = .ok (.getfield 192, 3) by decide +kernel) (pc' := 69) rfl (ls_65 hL) (by decide +kernel) rfl hq_65_19 ?_
  refine X_getR (ci := 10) (f := 1) (q := (q_65_19 + 2)) (show decode (mB 145) 69 = .ok (.getfield 244, 3) by decide +kernel) (pc' := 72) rfl h_q_65_19.s0 (by decide +kernel) rfl h_q_65_19.r0_1 ?_
  refine X_iload_n (q := 1) (show decode (mB 145) 72 = .ok (.iload_n 1, 1) by decide +kernel) (pc' := 73) rfl rfl rfl ?_
  refine X_aload_n (q := 0) (show decode (mB 145) 73 = .ok (.aload_n 0, 1) by decide +kernel) (pc' := 74) rfl rfl rfl ?_
  refine X_iconst (v := 0) (show decode (mB 145) 74 = .ok (.iconst 0, 1) by decide +kernel) (pc' := 75) rfl rfl ?_
  exact X_callT (y := 131) (n := 1) (st := [.int 0, .ref 65, .int x1, .ref (q_65_19 + 2)]) (as := [.ref 65, .int 0]) (rest := [.int x1, .ref (q_65_19 + 2)]) (ls0 := [.ref 65, .int 0, .null]) (ci := 13) (show decode (mB 145) 75 = .ok (.invokevirtual 169, 3) by decide +kernel) (pc' := 78) rfl (by decide +kernel) (by decide +kernel) rfl (ls_65 hL) (by decide +kernel) rfl rfl rfl rfl rfl (by decide +kernel) (by decide +kernel) k
set_option maxRecDepth 4000 in
theorem b_X14_clause_78 {xs : Nat → Int32} {L d : Nat} {S : Nat → Shp} {I : Nat → Nat → Int32} {J : Nat → Nat → Int64} {R : Nat → Nat → Nat} {c : Nat × Nat} {Q : Option (Option Value) → MH → Prop} {x1 x2 sx1 sx2 : Int32} {sr0 n_sr0 q_65_19 : Nat} (hL : Lay S R) (hs_sr0 : S sr0 = .inr (.int, n_sr0)) (hb78 : inb sx1 n_sr0 = true) (hq_65_19 : R 65 19 = q_65_19) (h_q_65_19 : LyCs S R q_65_19) (hb88 : inb x1 48 = true) (hb98 : inb x1 48 = true) (hb108 : inb x1 48 = true) (k : X xs L d 127 0 [.ref 65, .int 16] [] (S, (u2 (u2 (u2 (u2 I sr0 sx1.toNatClampNeg sx2) (q_65_19 + 3) x1.toNatClampNeg (-1)) (q_65_19 + 4) x1.toNatClampNeg 0) (q_65_19 + 5) x1.toNatClampNeg 0), J, R, c) (Kc xs L (d + 1) 145 115 [.ref 65, .int x1, .int x2] [] Q)) : X xs L (d + 1) 145 78 [.ref 65, .int x1, .int x2] [.int sx2, .int sx1, .ref sr0] (S, I, J, R, c) Q := by
  refine X_iastore (show decode (mB 145) 78 = .ok (.iastore, 1) by decide +kernel) (pc' := 79) rfl hs_sr0 hb78 ?_
  refine X_aload_n (q := 0) (show decode (mB 145) 79 = .ok (.aload_n 0, 1) by decide +kernel) (pc' := 80) rfl rfl rfl ?_
  refine X_getR (ci := 13) (f := 19) (q := q_65_19) (show decode (mB 145) 80 = .ok (.getfield 192, 3) by decide +kernel) (pc' := 83) rfl (ls_65 hL) (by decide +kernel) rfl hq_65_19 ?_
  refine X_getR (ci := 10) (f := 2) (q := (q_65_19 + 3)) (show decode (mB 145) 83 = .ok (.getfield 247, 3) by decide +kernel) (pc' := 86) rfl h_q_65_19.s0 (by decide +kernel) rfl h_q_65_19.r0_2 ?_
  refine X_iload_n (q := 1) (show decode (mB 145) 86 = .ok (.iload_n 1, 1) by decide +kernel) (pc' := 87) rfl rfl rfl ?_
  refine X_iconst (v := (-1)) (show decode (mB 145) 87 = .ok (.iconst (-1), 1) by decide +kernel) (pc' := 88) rfl rfl ?_
  refine X_iastore (show decode (mB 145) 88 = .ok (.iastore, 1) by decide +kernel) (pc' := 89) rfl h_q_65_19.s3 hb88 ?_
  refine X_aload_n (q := 0) (show decode (mB 145) 89 = .ok (.aload_n 0, 1) by decide +kernel) (pc' := 90) rfl rfl rfl ?_
  refine X_getR (ci := 13) (f := 19) (q := q_65_19) (show decode (mB 145) 90 = .ok (.getfield 192, 3) by decide +kernel) (pc' := 93) rfl (ls_65 hL) (by decide +kernel) rfl hq_65_19 ?_
  refine X_getR (ci := 10) (f := 3) (q := (q_65_19 + 4)) (show decode (mB 145) 93 = .ok (.getfield 250, 3) by decide +kernel) (pc' := 96) rfl h_q_65_19.s0 (by decide +kernel) rfl h_q_65_19.r0_3 ?_
  refine X_iload_n (q := 1) (show decode (mB 145) 96 = .ok (.iload_n 1, 1) by decide +kernel) (pc' := 97) rfl rfl rfl ?_
  refine X_iconst (v := 0) (show decode (mB 145) 97 = .ok (.iconst 0, 1) by decide +kernel) (pc' := 98) rfl rfl ?_
  refine X_iastore (show decode (mB 145) 98 = .ok (.iastore, 1) by decide +kernel) (pc' := 99) rfl h_q_65_19.s4 hb98 ?_
  refine X_aload_n (q := 0) (show decode (mB 145) 99 = .ok (.aload_n 0, 1) by decide +kernel) (pc' := 100) rfl rfl rfl ?_
  refine X_getR (ci := 13) (f := 19) (q := q_65_19) (show decode (mB 145) 100 = .ok (.getfield 192, 3) by decide +kernel) (pc' := 103) rfl (ls_65 hL) (by decide +kernel) rfl hq_65_19 ?_
  refine X_getR (ci := 10) (f := 4) (q := (q_65_19 + 5)) (show decode (mB 145) 103 = .ok (.getfield 253, 3) by decide +kernel) (pc' := 106) rfl h_q_65_19.s0 (by decide +kernel) rfl h_q_65_19.r0_4 ?_
  refine X_iload_n (q := 1) (show decode (mB 145) 106 = .ok (.iload_n 1, 1) by decide +kernel) (pc' := 107) rfl rfl rfl ?_
  refine X_iconst (v := 0) (show decode (mB 145) 107 = .ok (.iconst 0, 1) by decide +kernel) (pc' := 108) rfl rfl ?_
  refine X_iastore (show decode (mB 145) 108 = .ok (.iastore, 1) by decide +kernel) (pc' := 109) rfl h_q_65_19.s5 hb108 ?_
  refine X_aload_n (q := 0) (show decode (mB 145) 109 = .ok (.aload_n 0, 1) by decide +kernel) (pc' := 110) rfl rfl rfl ?_
  refine X_bipush (v := 16) (show decode (mB 145) 110 = .ok (.bipush 16, 2) by decide +kernel) (pc' := 112) rfl (by decide +kernel) ?_
  exact X_callV (y := 127) (n := 1) (st := [.int 16, .ref 65]) (as := [.ref 65, .int 16]) (rest := []) (ls0 := [.ref 65, .int 16]) (ci := 13) (show decode (mB 145) 112 = .ok (.invokevirtual 131, 3) by decide +kernel) (pc' := 115) rfl (by decide +kernel) (by decide +kernel) rfl (ls_65 hL) (by decide +kernel) rfl rfl rfl rfl rfl k
set_option maxRecDepth 4000 in
theorem b_X14_clause_115 {xs : Nat → Int32} {L d : Nat} {S : Nat → Shp} {I : Nat → Nat → Int32} {J : Nat → Nat → Int64} {R : Nat → Nat → Nat} {c : Nat × Nat} {Q : Option (Option Value) → MH → Prop} {x1 x2 sx0 : Int32}  (kt : sx0 = 0 → X xs L (d + 1) 145 142 [.ref 65, .int x1, .int x2] [] (S, I, J, R, c) Q) (kf : ¬ (sx0 = 0) → X xs L (d + 1) 145 118 [.ref 65, .int x1, .int x2] [] (S, I, J, R, c) Q) : X xs L (d + 1) 145 115 [.ref 65, .int x1, .int x2] [.int sx0] (S, I, J, R, c) Q := by
  exact X_if_eq (tgt := 142) (show decode (mB 145) 115 = .ok (.ifCond .eq 27, 3) by decide +kernel) rfl (pc' := 118) rfl kt kf
set_option maxRecDepth 4000 in
theorem b_X14_clause_118 {xs : Nat → Int32} {L d : Nat} {S : Nat → Shp} {I : Nat → Nat → Int32} {J : Nat → Nat → Int64} {R : Nat → Nat → Nat} {c : Nat × Nat} {Q : Option (Option Value) → MH → Prop} {x1 x2 : Int32} {q_65_19 : Nat} (hL : Lay S R) (hq_65_19 : R 65 19 = q_65_19) (h_q_65_19 : LyCs S R q_65_19) (k : X xs L d 131 0 [.ref 65, .int 0, .null] [] (S, (u2 I 65 7 ((I 65 7) + 1)), J, R, c) (Kt xs L (d + 1) 145 141 [.ref 65, .int x1, .int x2] [.int x1, .ref (q_65_19 + 3)] Q)) : X xs L (d + 1) 145 118 [.ref 65, .int x1, .int x2] [] (S, I, J, R, c) Q := by
  refine X_aload_n (q := 0) (show decode (mB 145) 118 = .ok (.aload_n 0, 1) by decide +kernel) (pc' := 119) rfl rfl rfl ?_
  refine X_dup (show decode (mB 145) 119 = .ok (.dup, 1) by decide +kernel) (pc' := 120) rfl rfl ?_
  refine X_getI (ci := 13) (f := 7) (x := I 65 7) (show decode (mB 145) 120 = .ok (.getfield 122, 3) by decide +kernel) (pc' := 123) rfl (ls_65 hL) (by decide +kernel) rfl rfl ?_
  refine X_iconst (v := 1) (show decode (mB 145) 123 = .ok (.iconst 1, 1) by decide +kernel) (pc' := 124) rfl rfl ?_
  refine X_iadd (show decode (mB 145) 124 = .ok (.iadd, 1) by decide +kernel) (pc' := 125) rfl ?_
  refine X_putI (ci := 13) (f := 7) (show decode (mB 145) 125 = .ok (.putfield 122, 3) by decide +kernel) (pc' := 128) rfl (ls_65 hL) (by decide +kernel) (by decide +kernel) rfl ?_
  refine X_aload_n (q := 0) (show decode (mB 145) 128 = .ok (.aload_n 0, 1) by decide +kernel) (pc' := 129) rfl rfl rfl ?_
  refine X_getR (ci := 13) (f := 19) (q := q_65_19) (show decode (mB 145) 129 = .ok (.getfield 192, 3) by decide +kernel) (pc' := 132) rfl (ls_65 hL) (by decide +kernel) rfl hq_65_19 ?_
  refine X_getR (ci := 10) (f := 2) (q := (q_65_19 + 3)) (show decode (mB 145) 132 = .ok (.getfield 247, 3) by decide +kernel) (pc' := 135) rfl h_q_65_19.s0 (by decide +kernel) rfl h_q_65_19.r0_2 ?_
  refine X_iload_n (q := 1) (show decode (mB 145) 135 = .ok (.iload_n 1, 1) by decide +kernel) (pc' := 136) rfl rfl rfl ?_
  refine X_aload_n (q := 0) (show decode (mB 145) 136 = .ok (.aload_n 0, 1) by decide +kernel) (pc' := 137) rfl rfl rfl ?_
  refine X_iconst (v := 0) (show decode (mB 145) 137 = .ok (.iconst 0, 1) by decide +kernel) (pc' := 138) rfl rfl ?_
  exact X_callT (y := 131) (n := 1) (st := [.int 0, .ref 65, .int x1, .ref (q_65_19 + 3)]) (as := [.ref 65, .int 0]) (rest := [.int x1, .ref (q_65_19 + 3)]) (ls0 := [.ref 65, .int 0, .null]) (ci := 13) (show decode (mB 145) 138 = .ok (.invokevirtual 169, 3) by decide +kernel) (pc' := 141) rfl (by decide +kernel) (by decide +kernel) rfl (ls_65 hL) (by decide +kernel) rfl rfl rfl rfl rfl (by decide +kernel) (by decide +kernel) k
set_option maxRecDepth 4000 in
theorem b_X14_clause_141 {xs : Nat → Int32} {L d : Nat} {S : Nat → Shp} {I : Nat → Nat → Int32} {J : Nat → Nat → Int64} {R : Nat → Nat → Nat} {c : Nat × Nat} {Q : Option (Option Value) → MH → Prop} {x1 x2 sx1 sx2 : Int32} {sr0 n_sr0 : Nat} (hs_sr0 : S sr0 = .inr (.int, n_sr0)) (hb141 : inb sx1 n_sr0 = true) (k : X xs L (d + 1) 145 142 [.ref 65, .int x1, .int x2] [] (S, (u2 I sr0 sx1.toNatClampNeg sx2), J, R, c) Q) : X xs L (d + 1) 145 141 [.ref 65, .int x1, .int x2] [.int sx2, .int sx1, .ref sr0] (S, I, J, R, c) Q := by
  refine X_iastore (show decode (mB 145) 141 = .ok (.iastore, 1) by decide +kernel) (pc' := 142) rfl hs_sr0 hb141 ?_
  exact k
set_option maxRecDepth 4000 in
theorem b_X14_clause_142 {xs : Nat → Int32} {L d : Nat} {S : Nat → Shp} {I : Nat → Nat → Int32} {J : Nat → Nat → Int64} {R : Nat → Nat → Nat} {c : Nat × Nat} {Q : Option (Option Value) → MH → Prop} {x1 x2 : Int32} (hL : Lay S R)  (k : X xs L d 127 0 [.ref 65, .int 17] [] (S, I, J, R, c) (Kc xs L (d + 1) 145 148 [.ref 65, .int x1, .int x2] [] Q)) : X xs L (d + 1) 145 142 [.ref 65, .int x1, .int x2] [] (S, I, J, R, c) Q := by
  refine X_aload_n (q := 0) (show decode (mB 145) 142 = .ok (.aload_n 0, 1) by decide +kernel) (pc' := 143) rfl rfl rfl ?_
  refine X_bipush (v := 17) (show decode (mB 145) 143 = .ok (.bipush 17, 2) by decide +kernel) (pc' := 145) rfl (by decide +kernel) ?_
  exact X_callV (y := 127) (n := 1) (st := [.int 17, .ref 65]) (as := [.ref 65, .int 17]) (rest := []) (ls0 := [.ref 65, .int 17]) (ci := 13) (show decode (mB 145) 145 = .ok (.invokevirtual 131, 3) by decide +kernel) (pc' := 148) rfl (by decide +kernel) (by decide +kernel) rfl (ls_65 hL) (by decide +kernel) rfl rfl rfl rfl rfl k
set_option maxRecDepth 4000 in
theorem b_X14_clause_148 {xs : Nat → Int32} {L d : Nat} {S : Nat → Shp} {I : Nat → Nat → Int32} {J : Nat → Nat → Int64} {R : Nat → Nat → Nat} {c : Nat × Nat} {Q : Option (Option Value) → MH → Prop} {x1 x2 sx0 : Int32}  (kt : sx0 = 0 → X xs L (d + 1) 145 234 [.ref 65, .int x1, .int x2] [] (S, I, J, R, c) Q) (kf : ¬ (sx0 = 0) → X xs L (d + 1) 145 151 [.ref 65, .int x1, .int x2] [] (S, I, J, R, c) Q) : X xs L (d + 1) 145 148 [.ref 65, .int x1, .int x2] [.int sx0] (S, I, J, R, c) Q := by
  exact X_if_eq (tgt := 234) (show decode (mB 145) 148 = .ok (.ifCond .eq 86, 3) by decide +kernel) rfl (pc' := 151) rfl kt kf
set_option maxRecDepth 4000 in
theorem b_X14_clause_151 {xs : Nat → Int32} {L d : Nat} {S : Nat → Shp} {I : Nat → Nat → Int32} {J : Nat → Nat → Int64} {R : Nat → Nat → Nat} {c : Nat × Nat} {Q : Option (Option Value) → MH → Prop} {x1 x2 : Int32} {q_65_19 : Nat} (hL : Lay S R) (hq_65_19 : R 65 19 = q_65_19) (h_q_65_19 : LyCs S R q_65_19) (k : X xs L d 144 0 [.ref 65, .int 0] [] (S, (u2 I 65 7 ((I 65 7) + 1)), J, R, c) (Kt xs L (d + 1) 145 174 [.ref 65, .int x1, .int x2] [.int x1, .ref (q_65_19 + 4)] Q)) : X xs L (d + 1) 145 151 [.ref 65, .int x1, .int x2] [] (S, I, J, R, c) Q := by
  refine X_aload_n (q := 0) (show decode (mB 145) 151 = .ok (.aload_n 0, 1) by decide +kernel) (pc' := 152) rfl rfl rfl ?_
  refine X_dup (show decode (mB 145) 152 = .ok (.dup, 1) by decide +kernel) (pc' := 153) rfl rfl ?_
  refine X_getI (ci := 13) (f := 7) (x := I 65 7) (show decode (mB 145) 153 = .ok (.getfield 122, 3) by decide +kernel) (pc' := 156) rfl (ls_65 hL) (by decide +kernel) rfl rfl ?_
  refine X_iconst (v := 1) (show decode (mB 145) 156 = .ok (.iconst 1, 1) by decide +kernel) (pc' := 157) rfl rfl ?_
  refine X_iadd (show decode (mB 145) 157 = .ok (.iadd, 1) by decide +kernel) (pc' := 158) rfl ?_
  refine X_putI (ci := 13) (f := 7) (show decode (mB 145) 158 = .ok (.putfield 122, 3) by decide +kernel) (pc' := 161) rfl (ls_65 hL) (by decide +kernel) (by decide +kernel) rfl ?_
  refine X_aload_n (q := 0) (show decode (mB 145) 161 = .ok (.aload_n 0, 1) by decide +kernel) (pc' := 162) rfl rfl rfl ?_
  refine X_getR (ci := 13) (f := 19) (q := q_65_19) (show decode (mB 145) 162 = .ok (.getfield 192, 3) by decide +kernel) (pc' := 165) rfl (ls_65 hL) (by decide +kernel) rfl hq_65_19 ?_
  refine X_getR (ci := 10) (f := 3) (q := (q_65_19 + 4)) (show decode (mB 145) 165 = .ok (.getfield 250, 3) by decide +kernel) (pc' := 168) rfl h_q_65_19.s0 (by decide +kernel) rfl h_q_65_19.r0_3 ?_
  refine X_iload_n (q := 1) (show decode (mB 145) 168 = .ok (.iload_n 1, 1) by decide +kernel) (pc' := 169) rfl rfl rfl ?_
  refine X_aload_n (q := 0) (show decode (mB 145) 169 = .ok (.aload_n 0, 1) by decide +kernel) (pc' := 170) rfl rfl rfl ?_
  refine X_iconst (v := 0) (show decode (mB 145) 170 = .ok (.iconst 0, 1) by decide +kernel) (pc' := 171) rfl rfl ?_
  exact X_callT (y := 144) (n := 1) (st := [.int 0, .ref 65, .int x1, .ref (q_65_19 + 4)]) (as := [.ref 65, .int 0]) (rest := [.int x1, .ref (q_65_19 + 4)]) (ls0 := [.ref 65, .int 0]) (ci := 13) (show decode (mB 145) 171 = .ok (.invokevirtual 256, 3) by decide +kernel) (pc' := 174) rfl (by decide +kernel) (by decide +kernel) rfl (ls_65 hL) (by decide +kernel) rfl rfl rfl rfl rfl (by decide +kernel) (by decide +kernel) k
set_option maxRecDepth 4000 in
theorem b_X14_clause_174 {xs : Nat → Int32} {L d : Nat} {S : Nat → Shp} {I : Nat → Nat → Int32} {J : Nat → Nat → Int64} {R : Nat → Nat → Nat} {c : Nat × Nat} {Q : Option (Option Value) → MH → Prop} {x1 x2 sx1 sx2 : Int32} {sr0 n_sr0 q_65_19 : Nat} (hL : Lay S R) (hs_sr0 : S sr0 = .inr (.int, n_sr0)) (hb174 : inb sx1 n_sr0 = true) (hq_65_19 : R 65 19 = q_65_19) (h_q_65_19 : LyCs S R q_65_19) (hb191 : inb x1 48 = true) (hn_q_65_19p4_sr0 : (q_65_19 + 4) ≠ sr0) (hb192 : inb x1 48 = true) (k : X xs L d 127 0 [.ref 65, .int 18] [] (S, (u2 (u2 I sr0 sx1.toNatClampNeg sx2) (q_65_19 + 5) x1.toNatClampNeg (I (q_65_19 + 4) x1.toNatClampNeg)), J, R, c) (Kc xs L (d + 1) 145 199 [.ref 65, .int x1, .int x2] [] Q)) : X xs L (d + 1) 145 174 [.ref 65, .int x1, .int x2] [.int sx2, .int sx1, .ref sr0] (S, I, J, R, c) Q := by
  refine X_iastore (show decode (mB 145) 174 = .ok (.iastore, 1) by decide +kernel) (pc' := 175) rfl hs_sr0 hb174 ?_
  refine X_aload_n (q := 0) (show decode (mB 145) 175 = .ok (.aload_n 0, 1) by decide +kernel) (pc' := 176) rfl rfl rfl ?_
  refine X_getR (ci := 13) (f := 19) (q := q_65_19) (show decode (mB 145) 176 = .ok (.getfield 192, 3) by decide +kernel) (pc' := 179) rfl (ls_65 hL) (by decide +kernel) rfl hq_65_19 ?_
  refine X_getR (ci := 10) (f := 4) (q := (q_65_19 + 5)) (show decode (mB 145) 179 = .ok (.getfield 253, 3) by decide +kernel) (pc' := 182) rfl h_q_65_19.s0 (by decide +kernel) rfl h_q_65_19.r0_4 ?_
  refine X_iload_n (q := 1) (show decode (mB 145) 182 = .ok (.iload_n 1, 1) by decide +kernel) (pc' := 183) rfl rfl rfl ?_
  refine X_aload_n (q := 0) (show decode (mB 145) 183 = .ok (.aload_n 0, 1) by decide +kernel) (pc' := 184) rfl rfl rfl ?_
  refine X_getR (ci := 13) (f := 19) (q := q_65_19) (show decode (mB 145) 184 = .ok (.getfield 192, 3) by decide +kernel) (pc' := 187) rfl (ls_65 hL) (by decide +kernel) rfl hq_65_19 ?_
  refine X_getR (ci := 10) (f := 3) (q := (q_65_19 + 4)) (show decode (mB 145) 187 = .ok (.getfield 250, 3) by decide +kernel) (pc' := 190) rfl h_q_65_19.s0 (by decide +kernel) rfl h_q_65_19.r0_3 ?_
  refine X_iload_n (q := 1) (show decode (mB 145) 190 = .ok (.iload_n 1, 1) by decide +kernel) (pc' := 191) rfl rfl rfl ?_
  refine X_iaload (w := I (q_65_19 + 4) x1.toNatClampNeg) (show decode (mB 145) 191 = .ok (.iaload, 1) by decide +kernel) (pc' := 192) rfl h_q_65_19.s4 hb191 (by simp [u2, u1, hn_q_65_19p4_sr0]) ?_
  refine X_iastore (show decode (mB 145) 192 = .ok (.iastore, 1) by decide +kernel) (pc' := 193) rfl h_q_65_19.s5 hb192 ?_
  refine X_aload_n (q := 0) (show decode (mB 145) 193 = .ok (.aload_n 0, 1) by decide +kernel) (pc' := 194) rfl rfl rfl ?_
  refine X_bipush (v := 18) (show decode (mB 145) 194 = .ok (.bipush 18, 2) by decide +kernel) (pc' := 196) rfl (by decide +kernel) ?_
  exact X_callV (y := 127) (n := 1) (st := [.int 18, .ref 65]) (as := [.ref 65, .int 18]) (rest := []) (ls0 := [.ref 65, .int 18]) (ci := 13) (show decode (mB 145) 196 = .ok (.invokevirtual 131, 3) by decide +kernel) (pc' := 199) rfl (by decide +kernel) (by decide +kernel) rfl (ls_65 hL) (by decide +kernel) rfl rfl rfl rfl rfl k
set_option maxRecDepth 4000 in
theorem b_X14_clause_199 {xs : Nat → Int32} {L d : Nat} {S : Nat → Shp} {I : Nat → Nat → Int32} {J : Nat → Nat → Int64} {R : Nat → Nat → Nat} {c : Nat × Nat} {Q : Option (Option Value) → MH → Prop} {x1 x2 sx0 : Int32}  (kt : sx0 = 0 → X xs L (d + 1) 145 234 [.ref 65, .int x1, .int x2] [] (S, I, J, R, c) Q) (kf : ¬ (sx0 = 0) → X xs L (d + 1) 145 202 [.ref 65, .int x1, .int x2] [] (S, I, J, R, c) Q) : X xs L (d + 1) 145 199 [.ref 65, .int x1, .int x2] [.int sx0] (S, I, J, R, c) Q := by
  exact X_if_eq (tgt := 234) (show decode (mB 145) 199 = .ok (.ifCond .eq 35, 3) by decide +kernel) rfl (pc' := 202) rfl kt kf
set_option maxRecDepth 4000 in
theorem b_X14_clause_202 {xs : Nat → Int32} {L d : Nat} {S : Nat → Shp} {I : Nat → Nat → Int32} {J : Nat → Nat → Int64} {R : Nat → Nat → Nat} {c : Nat × Nat} {Q : Option (Option Value) → MH → Prop} {x1 x2 : Int32} {q_65_19 : Nat} (hL : Lay S R) (hq_65_19 : R 65 19 = q_65_19) (h_q_65_19 : LyCs S R q_65_19) (hb229 : inb x1 48 = true) (hn_q_65_19p4_65 : (q_65_19 + 4) ≠ 65) (k : X xs L d 144 0 [.ref 65, .int (I (q_65_19 + 4) x1.toNatClampNeg)] [] (S, (u2 I 65 7 ((I 65 7) + 1)), J, R, c) (Kt xs L (d + 1) 145 233 [.ref 65, .int x1, .int x2] [.int x1, .ref (q_65_19 + 5)] Q)) : X xs L (d + 1) 145 202 [.ref 65, .int x1, .int x2] [] (S, I, J, R, c) Q := by
  refine X_aload_n (q := 0) (show decode (mB 145) 202 = .ok (.aload_n 0, 1) by decide +kernel) (pc' := 203) rfl rfl rfl ?_
  refine X_dup (show decode (mB 145) 203 = .ok (.dup, 1) by decide +kernel) (pc' := 204) rfl rfl ?_
  refine X_getI (ci := 13) (f := 7) (x := I 65 7) (show decode (mB 145) 204 = .ok (.getfield 122, 3) by decide +kernel) (pc' := 207) rfl (ls_65 hL) (by decide +kernel) rfl rfl ?_
  refine X_iconst (v := 1) (show decode (mB 145) 207 = .ok (.iconst 1, 1) by decide +kernel) (pc' := 208) rfl rfl ?_
  refine X_iadd (show decode (mB 145) 208 = .ok (.iadd, 1) by decide +kernel) (pc' := 209) rfl ?_
  refine X_putI (ci := 13) (f := 7) (show decode (mB 145) 209 = .ok (.putfield 122, 3) by decide +kernel) (pc' := 212) rfl (ls_65 hL) (by decide +kernel) (by decide +kernel) rfl ?_
  refine X_aload_n (q := 0) (show decode (mB 145) 212 = .ok (.aload_n 0, 1) by decide +kernel) (pc' := 213) rfl rfl rfl ?_
  refine X_getR (ci := 13) (f := 19) (q := q_65_19) (show decode (mB 145) 213 = .ok (.getfield 192, 3) by decide +kernel) (pc' := 216) rfl (ls_65 hL) (by decide +kernel) rfl hq_65_19 ?_
  refine X_getR (ci := 10) (f := 4) (q := (q_65_19 + 5)) (show decode (mB 145) 216 = .ok (.getfield 253, 3) by decide +kernel) (pc' := 219) rfl h_q_65_19.s0 (by decide +kernel) rfl h_q_65_19.r0_4 ?_
  refine X_iload_n (q := 1) (show decode (mB 145) 219 = .ok (.iload_n 1, 1) by decide +kernel) (pc' := 220) rfl rfl rfl ?_
  refine X_aload_n (q := 0) (show decode (mB 145) 220 = .ok (.aload_n 0, 1) by decide +kernel) (pc' := 221) rfl rfl rfl ?_
  refine X_aload_n (q := 0) (show decode (mB 145) 221 = .ok (.aload_n 0, 1) by decide +kernel) (pc' := 222) rfl rfl rfl ?_
  refine X_getR (ci := 13) (f := 19) (q := q_65_19) (show decode (mB 145) 222 = .ok (.getfield 192, 3) by decide +kernel) (pc' := 225) rfl (ls_65 hL) (by decide +kernel) rfl hq_65_19 ?_
  refine X_getR (ci := 10) (f := 3) (q := (q_65_19 + 4)) (show decode (mB 145) 225 = .ok (.getfield 250, 3) by decide +kernel) (pc' := 228) rfl h_q_65_19.s0 (by decide +kernel) rfl h_q_65_19.r0_3 ?_
  refine X_iload_n (q := 1) (show decode (mB 145) 228 = .ok (.iload_n 1, 1) by decide +kernel) (pc' := 229) rfl rfl rfl ?_
  refine X_iaload (w := I (q_65_19 + 4) x1.toNatClampNeg) (show decode (mB 145) 229 = .ok (.iaload, 1) by decide +kernel) (pc' := 230) rfl h_q_65_19.s4 hb229 (by simp [u2, u1, hn_q_65_19p4_65]) ?_
  exact X_callT (y := 144) (n := 1) (st := [.int (I (q_65_19 + 4) x1.toNatClampNeg), .ref 65, .int x1, .ref (q_65_19 + 5)]) (as := [.ref 65, .int (I (q_65_19 + 4) x1.toNatClampNeg)]) (rest := [.int x1, .ref (q_65_19 + 5)]) (ls0 := [.ref 65, .int (I (q_65_19 + 4) x1.toNatClampNeg)]) (ci := 13) (show decode (mB 145) 230 = .ok (.invokevirtual 256, 3) by decide +kernel) (pc' := 233) rfl (by decide +kernel) (by decide +kernel) rfl (ls_65 hL) (by decide +kernel) rfl rfl rfl rfl rfl (by decide +kernel) (by decide +kernel) k
set_option maxRecDepth 4000 in
theorem b_X14_clause_233 {xs : Nat → Int32} {L d : Nat} {S : Nat → Shp} {I : Nat → Nat → Int32} {J : Nat → Nat → Int64} {R : Nat → Nat → Nat} {c : Nat × Nat} {Q : Option (Option Value) → MH → Prop} {x1 x2 sx1 sx2 : Int32} {sr0 n_sr0 : Nat} (hs_sr0 : S sr0 = .inr (.int, n_sr0)) (hb233 : inb sx1 n_sr0 = true) (k : X xs L (d + 1) 145 234 [.ref 65, .int x1, .int x2] [] (S, (u2 I sr0 sx1.toNatClampNeg sx2), J, R, c) Q) : X xs L (d + 1) 145 233 [.ref 65, .int x1, .int x2] [.int sx2, .int sx1, .ref sr0] (S, I, J, R, c) Q := by
  refine X_iastore (show decode (mB 145) 233 = .ok (.iastore, 1) by decide +kernel) (pc' := 234) rfl hs_sr0 hb233 ?_
  exact k
set_option maxRecDepth 4000 in
theorem b_X14_clause_234 {xs : Nat → Int32} {L d : Nat} {S : Nat → Shp} {I : Nat → Nat → Int32} {J : Nat → Nat → Int64} {R : Nat → Nat → Nat} {c : Nat × Nat} {Q : Option (Option Value) → MH → Prop} {x1 x2 : Int32} {q_65_19 : Nat} (hL : Lay S R) (hq_65_19 : R 65 19 = q_65_19) (h_q_65_19 : LyCs S R q_65_19) (hb242 : inb x1 48 = true) (kt : (I (q_65_19 + 5) x1.toNatClampNeg) ≤ (I q_65_19 9) → X xs L (d + 1) 145 269 [.ref 65, .int x1, .int x2] [] (S, I, J, R, c) Q) (kf : ¬ ((I (q_65_19 + 5) x1.toNatClampNeg) ≤ (I q_65_19 9)) → X xs L (d + 1) 145 253 [.ref 65, .int x1, .int x2] [] (S, I, J, R, c) Q) : X xs L (d + 1) 145 234 [.ref 65, .int x1, .int x2] [] (S, I, J, R, c) Q := by
  refine X_aload_n (q := 0) (show decode (mB 145) 234 = .ok (.aload_n 0, 1) by decide +kernel) (pc' := 235) rfl rfl rfl ?_
  refine X_getR (ci := 13) (f := 19) (q := q_65_19) (show decode (mB 145) 235 = .ok (.getfield 192, 3) by decide +kernel) (pc' := 238) rfl (ls_65 hL) (by decide +kernel) rfl hq_65_19 ?_
  refine X_getR (ci := 10) (f := 4) (q := (q_65_19 + 5)) (show decode (mB 145) 238 = .ok (.getfield 253, 3) by decide +kernel) (pc' := 241) rfl h_q_65_19.s0 (by decide +kernel) rfl h_q_65_19.r0_4 ?_
  refine X_iload_n (q := 1) (show decode (mB 145) 241 = .ok (.iload_n 1, 1) by decide +kernel) (pc' := 242) rfl rfl rfl ?_
  refine X_iaload (w := I (q_65_19 + 5) x1.toNatClampNeg) (show decode (mB 145) 242 = .ok (.iaload, 1) by decide +kernel) (pc' := 243) rfl h_q_65_19.s5 hb242 rfl ?_
  refine X_aload_n (q := 0) (show decode (mB 145) 243 = .ok (.aload_n 0, 1) by decide +kernel) (pc' := 244) rfl rfl rfl ?_
  refine X_getR (ci := 13) (f := 19) (q := q_65_19) (show decode (mB 145) 244 = .ok (.getfield 192, 3) by decide +kernel) (pc' := 247) rfl (ls_65 hL) (by decide +kernel) rfl hq_65_19 ?_
  refine X_getI (ci := 10) (f := 9) (x := I q_65_19 9) (show decode (mB 145) 247 = .ok (.getfield 259, 3) by decide +kernel) (pc' := 250) rfl h_q_65_19.s0 (by decide +kernel) rfl rfl ?_
  exact X_icmp_le (tgt := 269) (show decode (mB 145) 250 = .ok (.if_icmp .le 19, 3) by decide +kernel) rfl (pc' := 253) rfl kt kf
set_option maxRecDepth 4000 in
theorem b_X14_clause_253 {xs : Nat → Int32} {L d : Nat} {S : Nat → Shp} {I : Nat → Nat → Int32} {J : Nat → Nat → Int64} {R : Nat → Nat → Nat} {c : Nat × Nat} {Q : Option (Option Value) → MH → Prop} {x1 x2 : Int32} {q_65_19 : Nat} (hL : Lay S R) (hq_65_19 : R 65 19 = q_65_19) (h_q_65_19 : LyCs S R q_65_19) (hb265 : inb x1 48 = true) (k : X xs L (d + 1) 145 269 [.ref 65, .int x1, .int x2] [] (S, (u2 I q_65_19 9 (I (q_65_19 + 5) x1.toNatClampNeg)), J, R, c) Q) : X xs L (d + 1) 145 253 [.ref 65, .int x1, .int x2] [] (S, I, J, R, c) Q := by
  refine X_aload_n (q := 0) (show decode (mB 145) 253 = .ok (.aload_n 0, 1) by decide +kernel) (pc' := 254) rfl rfl rfl ?_
  refine X_getR (ci := 13) (f := 19) (q := q_65_19) (show decode (mB 145) 254 = .ok (.getfield 192, 3) by decide +kernel) (pc' := 257) rfl (ls_65 hL) (by decide +kernel) rfl hq_65_19 ?_
  refine X_aload_n (q := 0) (show decode (mB 145) 257 = .ok (.aload_n 0, 1) by decide +kernel) (pc' := 258) rfl rfl rfl ?_
  refine X_getR (ci := 13) (f := 19) (q := q_65_19) (show decode (mB 145) 258 = .ok (.getfield 192, 3) by decide +kernel) (pc' := 261) rfl (ls_65 hL) (by decide +kernel) rfl hq_65_19 ?_
  refine X_getR (ci := 10) (f := 4) (q := (q_65_19 + 5)) (show decode (mB 145) 261 = .ok (.getfield 253, 3) by decide +kernel) (pc' := 264) rfl h_q_65_19.s0 (by decide +kernel) rfl h_q_65_19.r0_4 ?_
  refine X_iload_n (q := 1) (show decode (mB 145) 264 = .ok (.iload_n 1, 1) by decide +kernel) (pc' := 265) rfl rfl rfl ?_
  refine X_iaload (w := I (q_65_19 + 5) x1.toNatClampNeg) (show decode (mB 145) 265 = .ok (.iaload, 1) by decide +kernel) (pc' := 266) rfl h_q_65_19.s5 hb265 rfl ?_
  refine X_putI (ci := 10) (f := 9) (show decode (mB 145) 266 = .ok (.putfield 259, 3) by decide +kernel) (pc' := 269) rfl h_q_65_19.s0 (by decide +kernel) (by decide +kernel) rfl ?_
  exact k
set_option maxRecDepth 4000 in
theorem b_X14_clause_269 {xs : Nat → Int32} {L d : Nat} {S : Nat → Shp} {I : Nat → Nat → Int32} {J : Nat → Nat → Int64} {R : Nat → Nat → Nat} {c : Nat × Nat} {Q : Option (Option Value) → MH → Prop} {x1 x2 : Int32}  (k : Q (some none) (S, I, J, R, c)) : X xs L (d + 1) 145 269 [.ref 65, .int x1, .int x2] [] (S, I, J, R, c) Q := by
  exact X_return (show decode (mB 145) 269 = .ok (.return_, 1) by decide +kernel) (by decide +kernel) k
set_option maxRecDepth 4000 in
theorem b_X14_part_0 {xs : Nat → Int32} {L d : Nat} {S : Nat → Shp} {I : Nat → Nat → Int32} {J : Nat → Nat → Int64} {R : Nat → Nat → Nat} {c : Nat × Nat} {Q : Option (Option Value) → MH → Prop} {x1 : Int32}  (k : X xs L (d + 1) 146 4 [.ref 65, .int x1, .int 0, .int 1] [] (S, I, J, R, c) Q) : X xs L (d + 1) 146 0 [.ref 65, .int x1, .null, .null] [] (S, I, J, R, c) Q := by
  refine X_iconst (v := 0) (show decode (mB 146) 0 = .ok (.iconst 0, 1) by decide +kernel) (pc' := 1) rfl rfl ?_
  refine X_istore_n (q := 2) (ls' := [.ref 65, .int x1, .int 0, .null]) (show decode (mB 146) 1 = .ok (.istore_n 2, 1) by decide +kernel) (pc' := 2) rfl rfl rfl ?_
  refine X_iconst (v := 1) (show decode (mB 146) 2 = .ok (.iconst 1, 1) by decide +kernel) (pc' := 3) rfl rfl ?_
  refine X_istore_n (q := 3) (ls' := [.ref 65, .int x1, .int 0, .int 1]) (show decode (mB 146) 3 = .ok (.istore_n 3, 1) by decide +kernel) (pc' := 4) rfl rfl rfl ?_
  exact k
set_option maxRecDepth 4000 in
theorem b_X14_part_4 {xs : Nat → Int32} {L d : Nat} {S : Nat → Shp} {I : Nat → Nat → Int32} {J : Nat → Nat → Int64} {R : Nat → Nat → Nat} {c : Nat × Nat} {Q : Option (Option Value) → MH → Prop} {x1 x2 x3 : Int32}  (kt : x3 = 0 → X xs L (d + 1) 146 57 [.ref 65, .int x1, .int x2, .int x3] [] (S, I, J, R, c) Q) (kf : ¬ (x3 = 0) → X xs L (d + 1) 146 8 [.ref 65, .int x1, .int x2, .int x3] [] (S, I, J, R, c) Q) : X xs L (d + 1) 146 4 [.ref 65, .int x1, .int x2, .int x3] [] (S, I, J, R, c) Q := by
  refine X_iload_n (q := 3) (show decode (mB 146) 4 = .ok (.iload_n 3, 1) by decide +kernel) (pc' := 5) rfl rfl rfl ?_
  exact X_if_eq (tgt := 57) (show decode (mB 146) 5 = .ok (.ifCond .eq 52, 3) by decide +kernel) rfl (pc' := 8) rfl kt kf
set_option maxRecDepth 4000 in
theorem b_X14_part_8 {xs : Nat → Int32} {L d : Nat} {S : Nat → Shp} {I : Nat → Nat → Int32} {J : Nat → Nat → Int64} {R : Nat → Nat → Nat} {c : Nat × Nat} {Q : Option (Option Value) → MH → Prop} {x1 x2 x3 : Int32}  (kt : 24 ≤ x2 → X xs L (d + 1) 146 19 [.ref 65, .int x1, .int x2, .int x3] [.ref 65] (S, I, J, R, c) Q) (kf : ¬ (24 ≤ x2) → X xs L (d + 1) 146 15 [.ref 65, .int x1, .int x2, .int x3] [.ref 65] (S, I, J, R, c) Q) : X xs L (d + 1) 146 8 [.ref 65, .int x1, .int x2, .int x3] [] (S, I, J, R, c) Q := by
  refine X_aload_n (q := 0) (show decode (mB 146) 8 = .ok (.aload_n 0, 1) by decide +kernel) (pc' := 9) rfl rfl rfl ?_
  refine X_iload_n (q := 2) (show decode (mB 146) 9 = .ok (.iload_n 2, 1) by decide +kernel) (pc' := 10) rfl rfl rfl ?_
  refine X_bipush (v := 24) (show decode (mB 146) 10 = .ok (.bipush 24, 2) by decide +kernel) (pc' := 12) rfl (by decide +kernel) ?_
  exact X_icmp_ge (tgt := 19) (show decode (mB 146) 12 = .ok (.if_icmp .ge 7, 3) by decide +kernel) rfl (pc' := 15) rfl kt kf
set_option maxRecDepth 4000 in
theorem b_X14_part_15 {xs : Nat → Int32} {L d : Nat} {S : Nat → Shp} {I : Nat → Nat → Int32} {J : Nat → Nat → Int64} {R : Nat → Nat → Nat} {c : Nat × Nat} {Q : Option (Option Value) → MH → Prop} {x1 x2 x3 : Int32}  (k : X xs L (d + 1) 146 20 [.ref 65, .int x1, .int x2, .int x3] [.int 1, .ref 65] (S, I, J, R, c) Q) : X xs L (d + 1) 146 15 [.ref 65, .int x1, .int x2, .int x3] [.ref 65] (S, I, J, R, c) Q := by
  refine X_iconst (v := 1) (show decode (mB 146) 15 = .ok (.iconst 1, 1) by decide +kernel) (pc' := 16) rfl rfl ?_
  refine X_goto (tgt := 20) (show decode (mB 146) 16 = .ok (.goto 4, 3) by decide +kernel) rfl ?_
  exact k
set_option maxRecDepth 4000 in
theorem b_X14_part_19 {xs : Nat → Int32} {L d : Nat} {S : Nat → Shp} {I : Nat → Nat → Int32} {J : Nat → Nat → Int64} {R : Nat → Nat → Nat} {c : Nat × Nat} {Q : Option (Option Value) → MH → Prop} {x1 x2 x3 : Int32}  (k : X xs L (d + 1) 146 20 [.ref 65, .int x1, .int x2, .int x3] [.int 0, .ref 65] (S, I, J, R, c) Q) : X xs L (d + 1) 146 19 [.ref 65, .int x1, .int x2, .int x3] [.ref 65] (S, I, J, R, c) Q := by
  refine X_iconst (v := 0) (show decode (mB 146) 19 = .ok (.iconst 0, 1) by decide +kernel) (pc' := 20) rfl rfl ?_
  exact k
set_option maxRecDepth 4000 in
theorem b_X14_part_20 {xs : Nat → Int32} {L d : Nat} {S : Nat → Shp} {I : Nat → Nat → Int32} {J : Nat → Nat → Int64} {R : Nat → Nat → Nat} {c : Nat × Nat} {Q : Option (Option Value) → MH → Prop} {x1 x2 x3 sx1 : Int32} (hL : Lay S R)  (k : X xs L d 128 0 [.ref 65, .int sx1] [] (S, I, J, R, c) (Kt xs L (d + 1) 146 23 [.ref 65, .int x1, .int x2, .int x3] [] Q)) : X xs L (d + 1) 146 20 [.ref 65, .int x1, .int x2, .int x3] [.int sx1, .ref 65] (S, I, J, R, c) Q := by
  exact X_callT (y := 128) (n := 1) (st := [.int sx1, .ref 65]) (as := [.ref 65, .int sx1]) (rest := []) (ls0 := [.ref 65, .int sx1]) (ci := 13) (show decode (mB 146) 20 = .ok (.invokevirtual 134, 3) by decide +kernel) (pc' := 23) rfl (by decide +kernel) (by decide +kernel) rfl (ls_65 hL) (by decide +kernel) rfl rfl rfl rfl rfl (by decide +kernel) (by decide +kernel) k
set_option maxRecDepth 4000 in
theorem b_X14_part_23 {xs : Nat → Int32} {L d : Nat} {S : Nat → Shp} {I : Nat → Nat → Int32} {J : Nat → Nat → Int64} {R : Nat → Nat → Nat} {c : Nat × Nat} {Q : Option (Option Value) → MH → Prop} {x1 x2 x3 : Int32} (hL : Lay S R)  (k : X xs L d 145 0 [.ref 65, .int (x1 + x2), .null] [] (S, I, J, R, c) (Kt xs L (d + 1) 146 30 [.ref 65, .int x1, .int x2, .int x3] [] Q)) : X xs L (d + 1) 146 23 [.ref 65, .int x1, .int x2, .int x3] [] (S, I, J, R, c) Q := by
  refine X_aload_n (q := 0) (show decode (mB 146) 23 = .ok (.aload_n 0, 1) by decide +kernel) (pc' := 24) rfl rfl rfl ?_
  refine X_iload_n (q := 1) (show decode (mB 146) 24 = .ok (.iload_n 1, 1) by decide +kernel) (pc' := 25) rfl rfl rfl ?_
  refine X_iload_n (q := 2) (show decode (mB 146) 25 = .ok (.iload_n 2, 1) by decide +kernel) (pc' := 26) rfl rfl rfl ?_
  refine X_iadd (show decode (mB 146) 26 = .ok (.iadd, 1) by decide +kernel) (pc' := 27) rfl ?_
  exact X_callT (y := 145) (n := 1) (st := [.int (x1 + x2), .ref 65]) (as := [.ref 65, .int (x1 + x2)]) (rest := []) (ls0 := [.ref 65, .int (x1 + x2), .null]) (ci := 13) (show decode (mB 146) 27 = .ok (.invokevirtual 262, 3) by decide +kernel) (pc' := 30) rfl (by decide +kernel) (by decide +kernel) rfl (ls_65 hL) (by decide +kernel) rfl rfl rfl rfl rfl (by decide +kernel) (by decide +kernel) k
set_option maxRecDepth 4000 in
theorem b_X14_part_30 {xs : Nat → Int32} {L d : Nat} {S : Nat → Shp} {I : Nat → Nat → Int32} {J : Nat → Nat → Int64} {R : Nat → Nat → Nat} {c : Nat × Nat} {Q : Option (Option Value) → MH → Prop} {x1 x2 x3 : Int32} (hL : Lay S R)  (k : X xs L d 127 0 [.ref 65, .int 44] [] (S, I, J, R, c) (Kc xs L (d + 1) 146 39 [.ref 65, .int x1, .int (x2 + 1), .int x3] [] Q)) : X xs L (d + 1) 146 30 [.ref 65, .int x1, .int x2, .int x3] [] (S, I, J, R, c) Q := by
  refine X_iinc (q := 2) (v := x2 + 1) (ls' := [.ref 65, .int x1, .int (x2 + 1), .int x3]) (show decode (mB 146) 30 = .ok (.iinc 2 1, 3) by decide +kernel) (pc' := 33) rfl rfl rfl rfl ?_
  refine X_aload_n (q := 0) (show decode (mB 146) 33 = .ok (.aload_n 0, 1) by decide +kernel) (pc' := 34) rfl rfl rfl ?_
  refine X_bipush (v := 44) (show decode (mB 146) 34 = .ok (.bipush 44, 2) by decide +kernel) (pc' := 36) rfl (by decide +kernel) ?_
  exact X_callV (y := 127) (n := 1) (st := [.int 44, .ref 65]) (as := [.ref 65, .int 44]) (rest := []) (ls0 := [.ref 65, .int 44]) (ci := 13) (show decode (mB 146) 36 = .ok (.invokevirtual 131, 3) by decide +kernel) (pc' := 39) rfl (by decide +kernel) (by decide +kernel) rfl (ls_65 hL) (by decide +kernel) rfl rfl rfl rfl rfl k
set_option maxRecDepth 4000 in
theorem b_X14_part_39 {xs : Nat → Int32} {L d : Nat} {S : Nat → Shp} {I : Nat → Nat → Int32} {J : Nat → Nat → Int64} {R : Nat → Nat → Nat} {c : Nat × Nat} {Q : Option (Option Value) → MH → Prop} {x1 x2 x3 sx0 : Int32}  (kt : sx0 = 0 → X xs L (d + 1) 146 4 [.ref 65, .int x1, .int x2, .int sx0] [] (S, I, J, R, c) Q) (kf : ¬ (sx0 = 0) → X xs L (d + 1) 146 44 [.ref 65, .int x1, .int x2, .int sx0] [] (S, I, J, R, c) Q) : X xs L (d + 1) 146 39 [.ref 65, .int x1, .int x2, .int x3] [.int sx0] (S, I, J, R, c) Q := by
  refine X_istore_n (q := 3) (ls' := [.ref 65, .int x1, .int x2, .int sx0]) (show decode (mB 146) 39 = .ok (.istore_n 3, 1) by decide +kernel) (pc' := 40) rfl rfl rfl ?_
  refine X_iload_n (q := 3) (show decode (mB 146) 40 = .ok (.iload_n 3, 1) by decide +kernel) (pc' := 41) rfl rfl rfl ?_
  exact X_if_eq (tgt := 4) (show decode (mB 146) 41 = .ok (.ifCond .eq (-37), 3) by decide +kernel) rfl (pc' := 44) rfl kt kf
set_option maxRecDepth 4000 in
theorem b_X14_part_44 {xs : Nat → Int32} {L d : Nat} {S : Nat → Shp} {I : Nat → Nat → Int32} {J : Nat → Nat → Int64} {R : Nat → Nat → Nat} {c : Nat × Nat} {Q : Option (Option Value) → MH → Prop} {x1 x2 x3 : Int32} (hL : Lay S R)  (k : X xs L (d + 1) 146 4 [.ref 65, .int x1, .int x2, .int x3] [] (S, (u2 I 65 7 ((I 65 7) + 1)), J, R, c) Q) : X xs L (d + 1) 146 44 [.ref 65, .int x1, .int x2, .int x3] [] (S, I, J, R, c) Q := by
  refine X_aload_n (q := 0) (show decode (mB 146) 44 = .ok (.aload_n 0, 1) by decide +kernel) (pc' := 45) rfl rfl rfl ?_
  refine X_dup (show decode (mB 146) 45 = .ok (.dup, 1) by decide +kernel) (pc' := 46) rfl rfl ?_
  refine X_getI (ci := 13) (f := 7) (x := I 65 7) (show decode (mB 146) 46 = .ok (.getfield 122, 3) by decide +kernel) (pc' := 49) rfl (ls_65 hL) (by decide +kernel) rfl rfl ?_
  refine X_iconst (v := 1) (show decode (mB 146) 49 = .ok (.iconst 1, 1) by decide +kernel) (pc' := 50) rfl rfl ?_
  refine X_iadd (show decode (mB 146) 50 = .ok (.iadd, 1) by decide +kernel) (pc' := 51) rfl ?_
  refine X_putI (ci := 13) (f := 7) (show decode (mB 146) 51 = .ok (.putfield 122, 3) by decide +kernel) (pc' := 54) rfl (ls_65 hL) (by decide +kernel) (by decide +kernel) rfl ?_
  refine X_goto (tgt := 4) (show decode (mB 146) 54 = .ok (.goto (-50), 3) by decide +kernel) rfl ?_
  exact k
set_option maxRecDepth 4000 in
theorem b_X14_part_57 {xs : Nat → Int32} {L d : Nat} {S : Nat → Shp} {I : Nat → Nat → Int32} {J : Nat → Nat → Int64} {R : Nat → Nat → Nat} {c : Nat × Nat} {Q : Option (Option Value) → MH → Prop} {x1 x2 x3 : Int32}  (k : Q (some (some (.int x2))) (S, I, J, R, c)) : X xs L (d + 1) 146 57 [.ref 65, .int x1, .int x2, .int x3] [] (S, I, J, R, c) Q := by
  refine X_iload_n (q := 2) (show decode (mB 146) 57 = .ok (.iload_n 2, 1) by decide +kernel) (pc' := 58) rfl rfl rfl ?_
  exact X_ireturn (ty := .int) (show decode (mB 146) 58 = .ok (.ireturn, 1) by decide +kernel) (by decide +kernel) rfl k
set_option maxRecDepth 4000 in
theorem b_X14_assertion_0 {xs : Nat → Int32} {L d : Nat} {S : Nat → Shp} {I : Nat → Nat → Int32} {J : Nat → Nat → Int64} {R : Nat → Nat → Nat} {c : Nat × Nat} {Q : Option (Option Value) → MH → Prop}  (hL : Lay S R)  (k : X xs L d 126 0 [.ref 65, .null, .null, .null, .null, .null, .null, .null] [] (S, I, J, R, c) (Kc xs L (d + 1) 147 4 [.ref 65, .null] [] Q)) : X xs L (d + 1) 147 0 [.ref 65, .null] [] (S, I, J, R, c) Q := by
  refine X_aload_n (q := 0) (show decode (mB 147) 0 = .ok (.aload_n 0, 1) by decide +kernel) (pc' := 1) rfl rfl rfl ?_
  exact X_callV (y := 126) (n := 0) (st := [.ref 65]) (as := [.ref 65]) (rest := []) (ls0 := [.ref 65, .null, .null, .null, .null, .null, .null, .null]) (ci := 13) (show decode (mB 147) 1 = .ok (.invokevirtual 224, 3) by decide +kernel) (pc' := 4) rfl (by decide +kernel) (by decide +kernel) rfl (ls_65 hL) (by decide +kernel) rfl rfl rfl rfl rfl k
set_option maxRecDepth 4000 in
theorem b_X14_assertion_4 {xs : Nat → Int32} {L d : Nat} {S : Nat → Shp} {I : Nat → Nat → Int32} {J : Nat → Nat → Int64} {R : Nat → Nat → Nat} {c : Nat × Nat} {Q : Option (Option Value) → MH → Prop} {q_65_16 q_65_14 : Nat} (hL : Lay S R) (hq_65_16 : R 65 16 = q_65_16) (h_q_65_16 : LyTr S R q_65_16) (hq_65_14 : R 65 14 = q_65_14) (h_q_65_14 : LyCs S R q_65_14) (k : X xs L d 129 0 [.ref 65, .int 13] [] (S, (u2 (u2 (u2 (u2 (u2 (u2 I q_65_16 5 0) q_65_14 8 0) q_65_14 9 0) 65 20 0) 65 21 0) 65 7 0), J, (u2 (u2 R 65 17 q_65_16) 65 19 q_65_14), c) (Kh xs L (d + 1) 147 65 115 [.ref 65, .null] [.ref 65, .null] [] Q)) : X xs L (d + 1) 147 4 [.ref 65, .null] [] (S, I, J, R, c) Q := by
  refine X_aload_n (q := 0) (show decode (mB 147) 4 = .ok (.aload_n 0, 1) by decide +kernel) (pc' := 5) rfl rfl rfl ?_
  refine X_aload_n (q := 0) (show decode (mB 147) 5 = .ok (.aload_n 0, 1) by decide +kernel) (pc' := 6) rfl rfl rfl ?_
  refine X_getR (ci := 13) (f := 16) (q := q_65_16) (show decode (mB 147) 6 = .ok (.getfield 57, 3) by decide +kernel) (pc' := 9) rfl (ls_65 hL) (by decide +kernel) rfl hq_65_16 ?_
  refine X_putR (ci := 13) (f := 17) (show decode (mB 147) 9 = .ok (.putfield 138, 3) by decide +kernel) (pc' := 12) rfl (ls_65 hL) (by decide +kernel) (by decide +kernel) rfl ?_
  refine X_aload_n (q := 0) (show decode (mB 147) 12 = .ok (.aload_n 0, 1) by decide +kernel) (pc' := 13) rfl rfl rfl ?_
  refine X_getR (ci := 13) (f := 17) (q := q_65_16) (show decode (mB 147) 13 = .ok (.getfield 138, 3) by decide +kernel) (pc' := 16) rfl (ls_65 hL) (by decide +kernel) rfl (by simp [u2, u1]) ?_
  refine X_iconst (v := 0) (show decode (mB 147) 16 = .ok (.iconst 0, 1) by decide +kernel) (pc' := 17) rfl rfl ?_
  refine X_putI (ci := 12) (f := 5) (show decode (mB 147) 17 = .ok (.putfield 141, 3) by decide +kernel) (pc' := 20) rfl h_q_65_16.s0 (by decide +kernel) (by decide +kernel) rfl ?_
  refine X_aload_n (q := 0) (show decode (mB 147) 20 = .ok (.aload_n 0, 1) by decide +kernel) (pc' := 21) rfl rfl rfl ?_
  refine X_aload_n (q := 0) (show decode (mB 147) 21 = .ok (.aload_n 0, 1) by decide +kernel) (pc' := 22) rfl rfl rfl ?_
  refine X_getR (ci := 13) (f := 14) (q := q_65_14) (show decode (mB 147) 22 = .ok (.getfield 50, 3) by decide +kernel) (pc' := 25) rfl (ls_65 hL) (by decide +kernel) rfl (by simp [u2, u1]; exact hq_65_14) ?_
  refine X_putR (ci := 13) (f := 19) (show decode (mB 147) 25 = .ok (.putfield 192, 3) by decide +kernel) (pc' := 28) rfl (ls_65 hL) (by decide +kernel) (by decide +kernel) rfl ?_
  refine X_aload_n (q := 0) (show decode (mB 147) 28 = .ok (.aload_n 0, 1) by decide +kernel) (pc' := 29) rfl rfl rfl ?_
  refine X_getR (ci := 13) (f := 19) (q := q_65_14) (show decode (mB 147) 29 = .ok (.getfield 192, 3) by decide +kernel) (pc' := 32) rfl (ls_65 hL) (by decide +kernel) rfl (by simp [u2, u1]) ?_
  refine X_iconst (v := 0) (show decode (mB 147) 32 = .ok (.iconst 0, 1) by decide +kernel) (pc' := 33) rfl rfl ?_
  refine X_putI (ci := 10) (f := 8) (show decode (mB 147) 33 = .ok (.putfield 195, 3) by decide +kernel) (pc' := 36) rfl h_q_65_14.s0 (by decide +kernel) (by decide +kernel) rfl ?_
  refine X_aload_n (q := 0) (show decode (mB 147) 36 = .ok (.aload_n 0, 1) by decide +kernel) (pc' := 37) rfl rfl rfl ?_
  refine X_getR (ci := 13) (f := 19) (q := q_65_14) (show decode (mB 147) 37 = .ok (.getfield 192, 3) by decide +kernel) (pc' := 40) rfl (ls_65 hL) (by decide +kernel) rfl (by simp [u2, u1]) ?_
  refine X_iconst (v := 0) (show decode (mB 147) 40 = .ok (.iconst 0, 1) by decide +kernel) (pc' := 41) rfl rfl ?_
  refine X_putI (ci := 10) (f := 9) (show decode (mB 147) 41 = .ok (.putfield 259, 3) by decide +kernel) (pc' := 44) rfl h_q_65_14.s0 (by decide +kernel) (by decide +kernel) rfl ?_
  refine X_aload_n (q := 0) (show decode (mB 147) 44 = .ok (.aload_n 0, 1) by decide +kernel) (pc' := 45) rfl rfl rfl ?_
  refine X_iconst (v := 0) (show decode (mB 147) 45 = .ok (.iconst 0, 1) by decide +kernel) (pc' := 46) rfl rfl ?_
  refine X_putZ (ci := 13) (f := 20) (show decode (mB 147) 46 = .ok (.putfield 175, 3) by decide +kernel) (pc' := 49) rfl (ls_65 hL) (by decide +kernel) (by decide +kernel) rfl (Or.inl rfl) ?_
  refine X_aload_n (q := 0) (show decode (mB 147) 49 = .ok (.aload_n 0, 1) by decide +kernel) (pc' := 50) rfl rfl rfl ?_
  refine X_iconst (v := 0) (show decode (mB 147) 50 = .ok (.iconst 0, 1) by decide +kernel) (pc' := 51) rfl rfl ?_
  refine X_putI (ci := 13) (f := 21) (show decode (mB 147) 51 = .ok (.putfield 179, 3) by decide +kernel) (pc' := 54) rfl (ls_65 hL) (by decide +kernel) (by decide +kernel) rfl ?_
  refine X_aload_n (q := 0) (show decode (mB 147) 54 = .ok (.aload_n 0, 1) by decide +kernel) (pc' := 55) rfl rfl rfl ?_
  refine X_iconst (v := 0) (show decode (mB 147) 55 = .ok (.iconst 0, 1) by decide +kernel) (pc' := 56) rfl rfl ?_
  refine X_putI (ci := 13) (f := 7) (show decode (mB 147) 56 = .ok (.putfield 122, 3) by decide +kernel) (pc' := 59) rfl (ls_65 hL) (by decide +kernel) (by decide +kernel) rfl ?_
  refine X_aload_n (q := 0) (show decode (mB 147) 59 = .ok (.aload_n 0, 1) by decide +kernel) (pc' := 60) rfl rfl rfl ?_
  refine X_bipush (v := 13) (show decode (mB 147) 60 = .ok (.bipush 13, 2) by decide +kernel) (pc' := 62) rfl (by decide +kernel) ?_
  exact X_callH (y := 129) (n := 1) (st := [.int 13, .ref 65]) (as := [.ref 65, .int 13]) (rest := []) (ls0 := [.ref 65, .int 13]) (h9 := 115) (ls' := [.ref 65, .null]) (ci := 13) (show decode (mB 147) 62 = .ok (.invokevirtual 172, 3) by decide +kernel) (pc' := 65) rfl (by decide +kernel) (by decide +kernel) rfl (ls_65 hL) (by decide +kernel) rfl rfl rfl rfl rfl (by decide +kernel) (by decide +kernel) rfl k
set_option maxRecDepth 4000 in
theorem b_X14_assertion_65 {xs : Nat → Int32} {L d : Nat} {S : Nat → Shp} {I : Nat → Nat → Int32} {J : Nat → Nat → Int64} {R : Nat → Nat → Nat} {c : Nat × Nat} {Q : Option (Option Value) → MH → Prop} {q_65_19 : Nat} (hL : Lay S R) (hq_65_19 : R 65 19 = q_65_19) (k : X xs L d 146 0 [.ref 65, .int 0, .null, .null] [] (S, I, J, R, c) (Kh xs L (d + 1) 147 74 115 [.ref 65, .null] [.ref 65, .null] [.ref q_65_19] Q)) : X xs L (d + 1) 147 65 [.ref 65, .null] [] (S, I, J, R, c) Q := by
  refine X_aload_n (q := 0) (show decode (mB 147) 65 = .ok (.aload_n 0, 1) by decide +kernel) (pc' := 66) rfl rfl rfl ?_
  refine X_getR (ci := 13) (f := 19) (q := q_65_19) (show decode (mB 147) 66 = .ok (.getfield 192, 3) by decide +kernel) (pc' := 69) rfl (ls_65 hL) (by decide +kernel) rfl hq_65_19 ?_
  refine X_aload_n (q := 0) (show decode (mB 147) 69 = .ok (.aload_n 0, 1) by decide +kernel) (pc' := 70) rfl rfl rfl ?_
  refine X_iconst (v := 0) (show decode (mB 147) 70 = .ok (.iconst 0, 1) by decide +kernel) (pc' := 71) rfl rfl ?_
  exact X_callH (y := 146) (n := 1) (st := [.int 0, .ref 65, .ref q_65_19]) (as := [.ref 65, .int 0]) (rest := [.ref q_65_19]) (ls0 := [.ref 65, .int 0, .null, .null]) (h9 := 115) (ls' := [.ref 65, .null]) (ci := 13) (show decode (mB 147) 71 = .ok (.invokevirtual 265, 3) by decide +kernel) (pc' := 74) rfl (by decide +kernel) (by decide +kernel) rfl (ls_65 hL) (by decide +kernel) rfl rfl rfl rfl rfl (by decide +kernel) (by decide +kernel) rfl k
set_option maxRecDepth 4000 in
theorem b_X14_assertion_74 {xs : Nat → Int32} {L d : Nat} {S : Nat → Shp} {I : Nat → Nat → Int32} {J : Nat → Nat → Int64} {R : Nat → Nat → Nat} {c : Nat × Nat} {Q : Option (Option Value) → MH → Prop} {sr0 : Nat} {sx1 : Int32} (hL : Lay S R) (h_sr0 : LyCs S R sr0) (k : X xs L d 129 0 [.ref 65, .int 14] [] (S, (u2 I sr0 6 sx1), J, R, c) (Kh xs L (d + 1) 147 83 115 [.ref 65, .null] [.ref 65, .null] [] Q)) : X xs L (d + 1) 147 74 [.ref 65, .null] [.int sx1, .ref sr0] (S, I, J, R, c) Q := by
  refine X_putI (ci := 10) (f := 6) (show decode (mB 147) 74 = .ok (.putfield 268, 3) by decide +kernel) (pc' := 77) rfl h_sr0.s0 (by decide +kernel) (by decide +kernel) rfl ?_
  refine X_aload_n (q := 0) (show decode (mB 147) 77 = .ok (.aload_n 0, 1) by decide +kernel) (pc' := 78) rfl rfl rfl ?_
  refine X_bipush (v := 14) (show decode (mB 147) 78 = .ok (.bipush 14, 2) by decide +kernel) (pc' := 80) rfl (by decide +kernel) ?_
  exact X_callH (y := 129) (n := 1) (st := [.int 14, .ref 65]) (as := [.ref 65, .int 14]) (rest := []) (ls0 := [.ref 65, .int 14]) (h9 := 115) (ls' := [.ref 65, .null]) (ci := 13) (show decode (mB 147) 80 = .ok (.invokevirtual 172, 3) by decide +kernel) (pc' := 83) rfl (by decide +kernel) (by decide +kernel) rfl (ls_65 hL) (by decide +kernel) rfl rfl rfl rfl rfl (by decide +kernel) (by decide +kernel) rfl k
set_option maxRecDepth 4000 in
theorem b_X14_assertion_83 {xs : Nat → Int32} {L d : Nat} {S : Nat → Shp} {I : Nat → Nat → Int32} {J : Nat → Nat → Int64} {R : Nat → Nat → Nat} {c : Nat × Nat} {Q : Option (Option Value) → MH → Prop} {q_65_19 : Nat} (hL : Lay S R) (hq_65_19 : R 65 19 = q_65_19) (k : X xs L d 146 0 [.ref 65, .int 24, .null, .null] [] (S, I, J, R, c) (Kh xs L (d + 1) 147 93 115 [.ref 65, .null] [.ref 65, .null] [.ref q_65_19] Q)) : X xs L (d + 1) 147 83 [.ref 65, .null] [] (S, I, J, R, c) Q := by
  refine X_aload_n (q := 0) (show decode (mB 147) 83 = .ok (.aload_n 0, 1) by decide +kernel) (pc' := 84) rfl rfl rfl ?_
  refine X_getR (ci := 13) (f := 19) (q := q_65_19) (show decode (mB 147) 84 = .ok (.getfield 192, 3) by decide +kernel) (pc' := 87) rfl (ls_65 hL) (by decide +kernel) rfl hq_65_19 ?_
  refine X_aload_n (q := 0) (show decode (mB 147) 87 = .ok (.aload_n 0, 1) by decide +kernel) (pc' := 88) rfl rfl rfl ?_
  refine X_bipush (v := 24) (show decode (mB 147) 88 = .ok (.bipush 24, 2) by decide +kernel) (pc' := 90) rfl (by decide +kernel) ?_
  exact X_callH (y := 146) (n := 1) (st := [.int 24, .ref 65, .ref q_65_19]) (as := [.ref 65, .int 24]) (rest := [.ref q_65_19]) (ls0 := [.ref 65, .int 24, .null, .null]) (h9 := 115) (ls' := [.ref 65, .null]) (ci := 13) (show decode (mB 147) 90 = .ok (.invokevirtual 265, 3) by decide +kernel) (pc' := 93) rfl (by decide +kernel) (by decide +kernel) rfl (ls_65 hL) (by decide +kernel) rfl rfl rfl rfl rfl (by decide +kernel) (by decide +kernel) rfl k
set_option maxRecDepth 4000 in
theorem b_X14_assertion_93 {xs : Nat → Int32} {L d : Nat} {S : Nat → Shp} {I : Nat → Nat → Int32} {J : Nat → Nat → Int64} {R : Nat → Nat → Nat} {c : Nat × Nat} {Q : Option (Option Value) → MH → Prop} {sr0 : Nat} {sx1 : Int32} (hL : Lay S R) (h_sr0 : LyCs S R sr0) (k : X xs L d 129 0 [.ref 65, .int 46] [] (S, (u2 I sr0 7 sx1), J, R, c) (Kh xs L (d + 1) 147 102 115 [.ref 65, .null] [.ref 65, .null] [] Q)) : X xs L (d + 1) 147 93 [.ref 65, .null] [.int sx1, .ref sr0] (S, I, J, R, c) Q := by
  refine X_putI (ci := 10) (f := 7) (show decode (mB 147) 93 = .ok (.putfield 271, 3) by decide +kernel) (pc' := 96) rfl h_sr0.s0 (by decide +kernel) (by decide +kernel) rfl ?_
  refine X_aload_n (q := 0) (show decode (mB 147) 96 = .ok (.aload_n 0, 1) by decide +kernel) (pc' := 97) rfl rfl rfl ?_
  refine X_bipush (v := 46) (show decode (mB 147) 97 = .ok (.bipush 46, 2) by decide +kernel) (pc' := 99) rfl (by decide +kernel) ?_
  exact X_callH (y := 129) (n := 1) (st := [.int 46, .ref 65]) (as := [.ref 65, .int 46]) (rest := []) (ls0 := [.ref 65, .int 46]) (h9 := 115) (ls' := [.ref 65, .null]) (ci := 13) (show decode (mB 147) 99 = .ok (.invokevirtual 172, 3) by decide +kernel) (pc' := 102) rfl (by decide +kernel) (by decide +kernel) rfl (ls_65 hL) (by decide +kernel) rfl rfl rfl rfl rfl (by decide +kernel) (by decide +kernel) rfl k
set_option maxRecDepth 4000 in
theorem b_X14_assertion_102 {xs : Nat → Int32} {L d : Nat} {S : Nat → Shp} {I : Nat → Nat → Int32} {J : Nat → Nat → Int64} {R : Nat → Nat → Nat} {c : Nat × Nat} {Q : Option (Option Value) → MH → Prop}  (hL : Lay S R)  (k : X xs L d 127 0 [.ref 65, .int 0] [] (S, I, J, R, c) (Kc xs L (d + 1) 147 108 [.ref 65, .null] [.ref 65] Q)) : X xs L (d + 1) 147 102 [.ref 65, .null] [] (S, I, J, R, c) Q := by
  refine X_aload_n (q := 0) (show decode (mB 147) 102 = .ok (.aload_n 0, 1) by decide +kernel) (pc' := 103) rfl rfl rfl ?_
  refine X_aload_n (q := 0) (show decode (mB 147) 103 = .ok (.aload_n 0, 1) by decide +kernel) (pc' := 104) rfl rfl rfl ?_
  refine X_iconst (v := 0) (show decode (mB 147) 104 = .ok (.iconst 0, 1) by decide +kernel) (pc' := 105) rfl rfl ?_
  exact X_callV (y := 127) (n := 1) (st := [.int 0, .ref 65, .ref 65]) (as := [.ref 65, .int 0]) (rest := [.ref 65]) (ls0 := [.ref 65, .int 0]) (ci := 13) (show decode (mB 147) 105 = .ok (.invokevirtual 131, 3) by decide +kernel) (pc' := 108) rfl (by decide +kernel) (by decide +kernel) rfl (ls_65 hL) (by decide +kernel) rfl rfl rfl rfl rfl k
set_option maxRecDepth 4000 in
theorem b_X14_assertion_108 {xs : Nat → Int32} {L d : Nat} {S : Nat → Shp} {I : Nat → Nat → Int32} {J : Nat → Nat → Int64} {R : Nat → Nat → Nat} {c : Nat × Nat} {Q : Option (Option Value) → MH → Prop} {sx1 : Int32} (hL : Lay S R)  (k : X xs L d 128 0 [.ref 65, .int sx1] [] (S, I, J, R, c) (Kh xs L (d + 1) 147 111 115 [.ref 65, .null] [.ref 65, .null] [] Q)) : X xs L (d + 1) 147 108 [.ref 65, .null] [.int sx1, .ref 65] (S, I, J, R, c) Q := by
  exact X_callH (y := 128) (n := 1) (st := [.int sx1, .ref 65]) (as := [.ref 65, .int sx1]) (rest := []) (ls0 := [.ref 65, .int sx1]) (h9 := 115) (ls' := [.ref 65, .null]) (ci := 13) (show decode (mB 147) 108 = .ok (.invokevirtual 134, 3) by decide +kernel) (pc' := 111) rfl (by decide +kernel) (by decide +kernel) rfl (ls_65 hL) (by decide +kernel) rfl rfl rfl rfl rfl (by decide +kernel) (by decide +kernel) rfl k
set_option maxRecDepth 4000 in
theorem b_X14_assertion_111 {xs : Nat → Int32} {L d : Nat} {S : Nat → Shp} {I : Nat → Nat → Int32} {J : Nat → Nat → Int64} {R : Nat → Nat → Nat} {c : Nat × Nat} {Q : Option (Option Value) → MH → Prop}   (k : X xs L (d + 1) 147 120 [.ref 65, .null] [] (S, I, J, R, c) Q) : X xs L (d + 1) 147 111 [.ref 65, .null] [] (S, I, J, R, c) Q := by
  refine X_goto (tgt := 120) (show decode (mB 147) 111 = .ok (.goto 9, 3) by decide +kernel) rfl ?_
  exact k
set_option maxRecDepth 4000 in
theorem b_X14_assertion_115 {xs : Nat → Int32} {L d : Nat} {S : Nat → Shp} {I : Nat → Nat → Int32} {J : Nat → Nat → Int64} {R : Nat → Nat → Nat} {c : Nat × Nat} {Q : Option (Option Value) → MH → Prop}  (hL : Lay S R)  (k : Q (some (some (.int (I 65 8)))) (S, I, J, R, c)) : X xs L (d + 1) 147 115 [.ref 65, .null] [] (S, I, J, R, c) Q := by
  refine X_aload_n (q := 0) (show decode (mB 147) 115 = .ok (.aload_n 0, 1) by decide +kernel) (pc' := 116) rfl rfl rfl ?_
  refine X_getI (ci := 13) (f := 8) (x := I 65 8) (show decode (mB 147) 116 = .ok (.getfield 125, 3) by decide +kernel) (pc' := 119) rfl (ls_65 hL) (by decide +kernel) rfl rfl ?_
  exact X_ireturn (ty := .int) (show decode (mB 147) 119 = .ok (.ireturn, 1) by decide +kernel) (by decide +kernel) rfl k
set_option maxRecDepth 4000 in
theorem b_X14_assertion_120 {xs : Nat → Int32} {L d : Nat} {S : Nat → Shp} {I : Nat → Nat → Int32} {J : Nat → Nat → Int64} {R : Nat → Nat → Nat} {c : Nat × Nat} {Q : Option (Option Value) → MH → Prop} {q_65_13 : Nat} (hL : Lay S R) (hq_65_13 : R 65 13 = q_65_13) (kt : ¬ q_65_13 = 0 → X xs L (d + 1) 147 138 [.ref 65, .null] [.ref 65] (S, I, J, R, c) Q) (kf : ¬ (¬ q_65_13 = 0) → X xs L (d + 1) 147 128 [.ref 65, .null] [.ref 65] (S, I, J, R, c) Q) : X xs L (d + 1) 147 120 [.ref 65, .null] [] (S, I, J, R, c) Q := by
  refine X_aload_n (q := 0) (show decode (mB 147) 120 = .ok (.aload_n 0, 1) by decide +kernel) (pc' := 121) rfl rfl rfl ?_
  refine X_aload_n (q := 0) (show decode (mB 147) 121 = .ok (.aload_n 0, 1) by decide +kernel) (pc' := 122) rfl rfl rfl ?_
  refine X_getR (ci := 13) (f := 13) (q := q_65_13) (show decode (mB 147) 122 = .ok (.getfield 233, 3) by decide +kernel) (pc' := 125) rfl (ls_65 hL) (by decide +kernel) rfl hq_65_13 ?_
  exact X_ifnonnull (tgt := 138) (show decode (mB 147) 125 = .ok (.ifnonnull 13, 3) by decide +kernel) rfl (pc' := 128) rfl kt (fun h => kf (fun z => z h))
set_option maxRecDepth 4000 in
theorem b_X14_assertion_135 {xs : Nat → Int32} {L d : Nat} {S : Nat → Shp} {I : Nat → Nat → Int32} {J : Nat → Nat → Int64} {R : Nat → Nat → Nat} {c : Nat × Nat} {Q : Option (Option Value) → MH → Prop} {sr1 : Nat}  (k : X xs L (d + 1) 147 142 [.ref 65, .null] [.ref sr1, .ref 65] (S, I, J, R, c) Q) : X xs L (d + 1) 147 135 [.ref 65, .null] [.ref sr1, .ref 65] (S, I, J, R, c) Q := by
  refine X_goto (tgt := 142) (show decode (mB 147) 135 = .ok (.goto 7, 3) by decide +kernel) rfl ?_
  exact k
set_option maxRecDepth 4000 in
theorem b_X14_assertion_138 {xs : Nat → Int32} {L d : Nat} {S : Nat → Shp} {I : Nat → Nat → Int32} {J : Nat → Nat → Int64} {R : Nat → Nat → Nat} {c : Nat × Nat} {Q : Option (Option Value) → MH → Prop} {q_65_13 : Nat} (hL : Lay S R) (hq_65_13 : R 65 13 = q_65_13) (k : X xs L (d + 1) 147 142 [.ref 65, .null] [.ref q_65_13, .ref 65] (S, I, J, R, c) Q) : X xs L (d + 1) 147 138 [.ref 65, .null] [.ref 65] (S, I, J, R, c) Q := by
  refine X_aload_n (q := 0) (show decode (mB 147) 138 = .ok (.aload_n 0, 1) by decide +kernel) (pc' := 139) rfl rfl rfl ?_
  refine X_getR (ci := 13) (f := 13) (q := q_65_13) (show decode (mB 147) 139 = .ok (.getfield 233, 3) by decide +kernel) (pc' := 142) rfl (ls_65 hL) (by decide +kernel) rfl hq_65_13 ?_
  exact k
set_option maxRecDepth 4000 in
theorem b_X14_assertion_142 {xs : Nat → Int32} {L d : Nat} {S : Nat → Shp} {I : Nat → Nat → Int32} {J : Nat → Nat → Int64} {R : Nat → Nat → Nat} {c : Nat × Nat} {Q : Option (Option Value) → MH → Prop} {sr1 q_65_19 q_65_15 q_65_17 : Nat} (hL : Lay S R) (hq_65_19 : R 65 19 = q_65_19) (hq_65_15 : R 65 15 = q_65_15) (hq_65_17 : R 65 17 = q_65_17) (k : X xs L (d + 1) 147 171 [.ref 65, .int 0] [] (S, I, J, (u2 (u2 (u2 (u2 R 65 14 sr1) 65 13 q_65_19) 65 16 q_65_15) 65 15 q_65_17), c) Q) : X xs L (d + 1) 147 142 [.ref 65, .null] [.ref sr1, .ref 65] (S, I, J, R, c) Q := by
  refine X_putR (ci := 13) (f := 14) (show decode (mB 147) 142 = .ok (.putfield 50, 3) by decide +kernel) (pc' := 145) rfl (ls_65 hL) (by decide +kernel) (by decide +kernel) rfl ?_
  refine X_aload_n (q := 0) (show decode (mB 147) 145 = .ok (.aload_n 0, 1) by decide +kernel) (pc' := 146) rfl rfl rfl ?_
  refine X_aload_n (q := 0) (show decode (mB 147) 146 = .ok (.aload_n 0, 1) by decide +kernel) (pc' := 147) rfl rfl rfl ?_
  refine X_getR (ci := 13) (f := 19) (q := q_65_19) (show decode (mB 147) 147 = .ok (.getfield 192, 3) by decide +kernel) (pc' := 150) rfl (ls_65 hL) (by decide +kernel) rfl (by simp [u2, u1]; exact hq_65_19) ?_
  refine X_putR (ci := 13) (f := 13) (show decode (mB 147) 150 = .ok (.putfield 233, 3) by decide +kernel) (pc' := 153) rfl (ls_65 hL) (by decide +kernel) (by decide +kernel) rfl ?_
  refine X_aload_n (q := 0) (show decode (mB 147) 153 = .ok (.aload_n 0, 1) by decide +kernel) (pc' := 154) rfl rfl rfl ?_
  refine X_aload_n (q := 0) (show decode (mB 147) 154 = .ok (.aload_n 0, 1) by decide +kernel) (pc' := 155) rfl rfl rfl ?_
  refine X_getR (ci := 13) (f := 15) (q := q_65_15) (show decode (mB 147) 155 = .ok (.getfield 54, 3) by decide +kernel) (pc' := 158) rfl (ls_65 hL) (by decide +kernel) rfl (by simp [u2, u1]; exact hq_65_15) ?_
  refine X_putR (ci := 13) (f := 16) (show decode (mB 147) 158 = .ok (.putfield 57, 3) by decide +kernel) (pc' := 161) rfl (ls_65 hL) (by decide +kernel) (by decide +kernel) rfl ?_
  refine X_aload_n (q := 0) (show decode (mB 147) 161 = .ok (.aload_n 0, 1) by decide +kernel) (pc' := 162) rfl rfl rfl ?_
  refine X_aload_n (q := 0) (show decode (mB 147) 162 = .ok (.aload_n 0, 1) by decide +kernel) (pc' := 163) rfl rfl rfl ?_
  refine X_getR (ci := 13) (f := 17) (q := q_65_17) (show decode (mB 147) 163 = .ok (.getfield 138, 3) by decide +kernel) (pc' := 166) rfl (ls_65 hL) (by decide +kernel) rfl (by simp [u2, u1]; exact hq_65_17) ?_
  refine X_putR (ci := 13) (f := 15) (show decode (mB 147) 166 = .ok (.putfield 54, 3) by decide +kernel) (pc' := 169) rfl (ls_65 hL) (by decide +kernel) (by decide +kernel) rfl ?_
  refine X_iconst (v := 0) (show decode (mB 147) 169 = .ok (.iconst 0, 1) by decide +kernel) (pc' := 170) rfl rfl ?_
  refine X_istore_n (q := 1) (ls' := [.ref 65, .int 0]) (show decode (mB 147) 170 = .ok (.istore_n 1, 1) by decide +kernel) (pc' := 171) rfl rfl rfl ?_
  exact k
set_option maxRecDepth 4000 in
theorem b_X14_assertion_171 {xs : Nat → Int32} {L d : Nat} {S : Nat → Shp} {I : Nat → Nat → Int32} {J : Nat → Nat → Int64} {R : Nat → Nat → Nat} {c : Nat × Nat} {Q : Option (Option Value) → MH → Prop} {x1 : Int32} {q_65_13 : Nat} (hL : Lay S R) (hq_65_13 : R 65 13 = q_65_13) (h_q_65_13 : LyCs S R q_65_13) (kt : ((1 : Int32) <<< ((I q_65_13 8) &&& 31)) ≤ x1 → X xs L (d + 1) 147 195 [.ref 65, .int x1] [] (S, I, J, R, c) Q) (kf : ¬ (((1 : Int32) <<< ((I q_65_13 8) &&& 31)) ≤ x1) → X xs L (d + 1) 147 184 [.ref 65, .int x1] [] (S, I, J, R, c) Q) : X xs L (d + 1) 147 171 [.ref 65, .int x1] [] (S, I, J, R, c) Q := by
  refine X_iload_n (q := 1) (show decode (mB 147) 171 = .ok (.iload_n 1, 1) by decide +kernel) (pc' := 172) rfl rfl rfl ?_
  refine X_iconst (v := 1) (show decode (mB 147) 172 = .ok (.iconst 1, 1) by decide +kernel) (pc' := 173) rfl rfl ?_
  refine X_aload_n (q := 0) (show decode (mB 147) 173 = .ok (.aload_n 0, 1) by decide +kernel) (pc' := 174) rfl rfl rfl ?_
  refine X_getR (ci := 13) (f := 13) (q := q_65_13) (show decode (mB 147) 174 = .ok (.getfield 233, 3) by decide +kernel) (pc' := 177) rfl (ls_65 hL) (by decide +kernel) rfl hq_65_13 ?_
  refine X_getI (ci := 10) (f := 8) (x := I q_65_13 8) (show decode (mB 147) 177 = .ok (.getfield 195, 3) by decide +kernel) (pc' := 180) rfl h_q_65_13.s0 (by decide +kernel) rfl rfl ?_
  refine X_ishl (show decode (mB 147) 180 = .ok (.ishl, 1) by decide +kernel) (pc' := 181) rfl ?_
  exact X_icmp_ge (tgt := 195) (show decode (mB 147) 181 = .ok (.if_icmp .ge 14, 3) by decide +kernel) rfl (pc' := 184) rfl kt kf
set_option maxRecDepth 4000 in
theorem b_X14_assertion_184 {xs : Nat → Int32} {L d : Nat} {S : Nat → Shp} {I : Nat → Nat → Int32} {J : Nat → Nat → Int64} {R : Nat → Nat → Nat} {c : Nat × Nat} {Q : Option (Option Value) → MH → Prop} {x1 : Int32} (hL : Lay S R)  (k : X xs L d 155 0 [.ref 65, .int x1, .null, .null, .null] [] (S, I, J, R, c) (Kc xs L (d + 1) 147 189 [.ref 65, .int x1] [] Q)) : X xs L (d + 1) 147 184 [.ref 65, .int x1] [] (S, I, J, R, c) Q := by
  refine X_aload_n (q := 0) (show decode (mB 147) 184 = .ok (.aload_n 0, 1) by decide +kernel) (pc' := 185) rfl rfl rfl ?_
  refine X_iload_n (q := 1) (show decode (mB 147) 185 = .ok (.iload_n 1, 1) by decide +kernel) (pc' := 186) rfl rfl rfl ?_
  exact X_callV (y := 155) (n := 1) (st := [.int x1, .ref 65]) (as := [.ref 65, .int x1]) (rest := []) (ls0 := [.ref 65, .int x1, .null, .null, .null]) (ci := 13) (show decode (mB 147) 186 = .ok (.invokevirtual 274, 3) by decide +kernel) (pc' := 189) rfl (by decide +kernel) (by decide +kernel) rfl (ls_65 hL) (by decide +kernel) rfl rfl rfl rfl rfl k
set_option maxRecDepth 4000 in
theorem b_X14_assertion_189 {xs : Nat → Int32} {L d : Nat} {S : Nat → Shp} {I : Nat → Nat → Int32} {J : Nat → Nat → Int64} {R : Nat → Nat → Nat} {c : Nat × Nat} {Q : Option (Option Value) → MH → Prop} {x1 : Int32}  (k : X xs L (d + 1) 147 171 [.ref 65, .int (x1 + 1)] [] (S, I, J, R, c) Q) : X xs L (d + 1) 147 189 [.ref 65, .int x1] [] (S, I, J, R, c) Q := by
  refine X_iinc (q := 1) (v := x1 + 1) (ls' := [.ref 65, .int (x1 + 1)]) (show decode (mB 147) 189 = .ok (.iinc 1 1, 3) by decide +kernel) (pc' := 192) rfl rfl rfl rfl ?_
  refine X_goto (tgt := 171) (show decode (mB 147) 192 = .ok (.goto (-21), 3) by decide +kernel) rfl ?_
  exact k
set_option maxRecDepth 4000 in
theorem b_X14_assertion_195 {xs : Nat → Int32} {L d : Nat} {S : Nat → Shp} {I : Nat → Nat → Int32} {J : Nat → Nat → Int64} {R : Nat → Nat → Nat} {c : Nat × Nat} {Q : Option (Option Value) → MH → Prop} {x1 : Int32}  (k : Q (some (some (.int (-2)))) (S, I, J, R, c)) : X xs L (d + 1) 147 195 [.ref 65, .int x1] [] (S, I, J, R, c) Q := by
  refine X_bipush (v := (-2)) (show decode (mB 147) 195 = .ok (.bipush (-2), 2) by decide +kernel) (pc' := 197) rfl (by decide +kernel) ?_
  exact X_ireturn (ty := .int) (show decode (mB 147) 197 = .ok (.ireturn, 1) by decide +kernel) (by decide +kernel) rfl k
set_option maxRecDepth 4000 in
theorem b_X14_cell_0 {xs : Nat → Int32} {L d : Nat} {S : Nat → Shp} {I : Nat → Nat → Int32} {J : Nat → Nat → Int64} {R : Nat → Nat → Nat} {c : Nat × Nat} {Q : Option (Option Value) → MH → Prop} {x1 x2 x3 : Int32}  (k : Q (some (some (.int ((((x1 * 12) + x2) * 40) + x3)))) (S, I, J, R, c)) : X xs L d 148 0 [.ref 65, .int x1, .int x2, .int x3] [] (S, I, J, R, c) Q := by
  refine X_iload_n (q := 1) (show decode (mB 148) 0 = .ok (.iload_n 1, 1) by decide +kernel) (pc' := 1) rfl rfl rfl ?_
  refine X_bipush (v := 12) (show decode (mB 148) 1 = .ok (.bipush 12, 2) by decide +kernel) (pc' := 3) rfl (by decide +kernel) ?_
  refine X_imul (show decode (mB 148) 3 = .ok (.imul, 1) by decide +kernel) (pc' := 4) rfl ?_
  refine X_iload_n (q := 2) (show decode (mB 148) 4 = .ok (.iload_n 2, 1) by decide +kernel) (pc' := 5) rfl rfl rfl ?_
  refine X_iadd (show decode (mB 148) 5 = .ok (.iadd, 1) by decide +kernel) (pc' := 6) rfl ?_
  refine X_bipush (v := 40) (show decode (mB 148) 6 = .ok (.bipush 40, 2) by decide +kernel) (pc' := 8) rfl (by decide +kernel) ?_
  refine X_imul (show decode (mB 148) 8 = .ok (.imul, 1) by decide +kernel) (pc' := 9) rfl ?_
  refine X_iload_n (q := 3) (show decode (mB 148) 9 = .ok (.iload_n 3, 1) by decide +kernel) (pc' := 10) rfl rfl rfl ?_
  refine X_iadd (show decode (mB 148) 10 = .ok (.iadd, 1) by decide +kernel) (pc' := 11) rfl ?_
  exact X_ireturn (ty := .int) (show decode (mB 148) 11 = .ok (.ireturn, 1) by decide +kernel) (by decide +kernel) rfl k
set_option maxRecDepth 4000 in
theorem b_X14_variable__0 {xs : Nat → Int32} {L d : Nat} {S : Nat → Shp} {I : Nat → Nat → Int32} {J : Nat → Nat → Int64} {R : Nat → Nat → Nat} {c : Nat × Nat} {Q : Option (Option Value) → MH → Prop} {x1 : Int32} {q_65_13 : Nat} (hL : Lay S R) (hq_65_13 : R 65 13 = q_65_13) (h_q_65_13 : LyCs S R q_65_13) (kt : ¬ (((I 65 29) >>> ((((I q_65_13 8) - 1) - x1) &&& 31)) &&& 1) = 1 → X xs L d 149 26 [.ref 65, .int x1] [] (S, I, J, R, c) Q) (kf : ¬ (¬ (((I 65 29) >>> ((((I q_65_13 8) - 1) - x1) &&& 31)) &&& 1) = 1) → X xs L d 149 22 [.ref 65, .int x1] [] (S, I, J, R, c) Q) : X xs L d 149 0 [.ref 65, .int x1] [] (S, I, J, R, c) Q := by
  refine X_aload_n (q := 0) (show decode (mB 149) 0 = .ok (.aload_n 0, 1) by decide +kernel) (pc' := 1) rfl rfl rfl ?_
  refine X_getI (ci := 13) (f := 29) (x := I 65 29) (show decode (mB 149) 1 = .ok (.getfield 277, 3) by decide +kernel) (pc' := 4) rfl (ls_65 hL) (by decide +kernel) rfl rfl ?_
  refine X_aload_n (q := 0) (show decode (mB 149) 4 = .ok (.aload_n 0, 1) by decide +kernel) (pc' := 5) rfl rfl rfl ?_
  refine X_getR (ci := 13) (f := 13) (q := q_65_13) (show decode (mB 149) 5 = .ok (.getfield 233, 3) by decide +kernel) (pc' := 8) rfl (ls_65 hL) (by decide +kernel) rfl hq_65_13 ?_
  refine X_getI (ci := 10) (f := 8) (x := I q_65_13 8) (show decode (mB 149) 8 = .ok (.getfield 195, 3) by decide +kernel) (pc' := 11) rfl h_q_65_13.s0 (by decide +kernel) rfl rfl ?_
  refine X_iconst (v := 1) (show decode (mB 149) 11 = .ok (.iconst 1, 1) by decide +kernel) (pc' := 12) rfl rfl ?_
  refine X_isub (show decode (mB 149) 12 = .ok (.isub, 1) by decide +kernel) (pc' := 13) rfl ?_
  refine X_iload_n (q := 1) (show decode (mB 149) 13 = .ok (.iload_n 1, 1) by decide +kernel) (pc' := 14) rfl rfl rfl ?_
  refine X_isub (show decode (mB 149) 14 = .ok (.isub, 1) by decide +kernel) (pc' := 15) rfl ?_
  refine X_ishr (show decode (mB 149) 15 = .ok (.ishr, 1) by decide +kernel) (pc' := 16) rfl ?_
  refine X_iconst (v := 1) (show decode (mB 149) 16 = .ok (.iconst 1, 1) by decide +kernel) (pc' := 17) rfl rfl ?_
  refine X_iand (show decode (mB 149) 17 = .ok (.iand, 1) by decide +kernel) (pc' := 18) rfl ?_
  refine X_iconst (v := 1) (show decode (mB 149) 18 = .ok (.iconst 1, 1) by decide +kernel) (pc' := 19) rfl rfl ?_
  exact X_icmp_ne (tgt := 26) (show decode (mB 149) 19 = .ok (.if_icmp .ne 7, 3) by decide +kernel) rfl (pc' := 22) rfl kt kf
set_option maxRecDepth 4000 in
theorem b_X14_variable__22 {xs : Nat → Int32} {L d : Nat} {S : Nat → Shp} {I : Nat → Nat → Int32} {J : Nat → Nat → Int64} {R : Nat → Nat → Nat} {c : Nat × Nat} {Q : Option (Option Value) → MH → Prop} {x1 : Int32}  (k : X xs L d 149 27 [.ref 65, .int x1] [.int 1] (S, I, J, R, c) Q) : X xs L d 149 22 [.ref 65, .int x1] [] (S, I, J, R, c) Q := by
  refine X_iconst (v := 1) (show decode (mB 149) 22 = .ok (.iconst 1, 1) by decide +kernel) (pc' := 23) rfl rfl ?_
  refine X_goto (tgt := 27) (show decode (mB 149) 23 = .ok (.goto 4, 3) by decide +kernel) rfl ?_
  exact k
set_option maxRecDepth 4000 in
theorem b_X14_variable__26 {xs : Nat → Int32} {L d : Nat} {S : Nat → Shp} {I : Nat → Nat → Int32} {J : Nat → Nat → Int64} {R : Nat → Nat → Nat} {c : Nat × Nat} {Q : Option (Option Value) → MH → Prop} {x1 : Int32}  (k : X xs L d 149 27 [.ref 65, .int x1] [.int 0] (S, I, J, R, c) Q) : X xs L d 149 26 [.ref 65, .int x1] [] (S, I, J, R, c) Q := by
  refine X_iconst (v := 0) (show decode (mB 149) 26 = .ok (.iconst 0, 1) by decide +kernel) (pc' := 27) rfl rfl ?_
  exact k
set_option maxRecDepth 4000 in
theorem b_X14_variable__27 {xs : Nat → Int32} {L d : Nat} {S : Nat → Shp} {I : Nat → Nat → Int32} {J : Nat → Nat → Int64} {R : Nat → Nat → Nat} {c : Nat × Nat} {Q : Option (Option Value) → MH → Prop} {x1 sx0 : Int32} (hz27 : sx0 = 0 ∨ sx0 = 1) (k : Q (some (some (.int sx0))) (S, I, J, R, c)) : X xs L d 149 27 [.ref 65, .int x1] [.int sx0] (S, I, J, R, c) Q := by
  exact X_ireturn (ty := .boolean) (show decode (mB 149) 27 = .ok (.ireturn, 1) by decide +kernel) (by decide +kernel) (nz hz27) k
set_option maxRecDepth 4000 in
theorem b_X14_holds_0 {xs : Nat → Int32} {L d : Nat} {S : Nat → Shp} {I : Nat → Nat → Int32} {J : Nat → Nat → Int64} {R : Nat → Nat → Nat} {c : Nat × Nat} {Q : Option (Option Value) → MH → Prop} {x1 : Int32} {q_65_15 tgt : Nat} (hL : Lay S R) (hq_65_15 : R 65 15 = q_65_15) (h_q_65_15 : LyTr S R q_65_15) (hb8 : inb x1 2000 = true) (hsw : xnB 9 (.lookupswitch 155 #[(0, 59), (1, 61), (33, 77), (38, 99), (86, 63), (124, 127)]) (.int (I (q_65_15 + 1) x1.toNatClampNeg) :: []) = some (tgt, [])) (k : X xs L (d + 1) 150 tgt [.ref 65, .int x1] [] (S, I, J, R, c) Q) : X xs L (d + 1) 150 0 [.ref 65, .int x1] [] (S, I, J, R, c) Q := by
  refine X_aload_n (q := 0) (show decode (mB 150) 0 = .ok (.aload_n 0, 1) by decide +kernel) (pc' := 1) rfl rfl rfl ?_
  refine X_getR (ci := 13) (f := 15) (q := q_65_15) (show decode (mB 150) 1 = .ok (.getfield 54, 3) by decide +kernel) (pc' := 4) rfl (ls_65 hL) (by decide +kernel) rfl hq_65_15 ?_
  refine X_getR (ci := 12) (f := 0) (q := (q_65_15 + 1)) (show decode (mB 150) 4 = .ok (.getfield 144, 3) by decide +kernel) (pc' := 7) rfl h_q_65_15.s0 (by decide +kernel) rfl h_q_65_15.r0_0 ?_
  refine X_iload_n (q := 1) (show decode (mB 150) 7 = .ok (.iload_n 1, 1) by decide +kernel) (pc' := 8) rfl rfl rfl ?_
  refine X_iaload (w := I (q_65_15 + 1) x1.toNatClampNeg) (show decode (mB 150) 8 = .ok (.iaload, 1) by decide +kernel) (pc' := 9) rfl h_q_65_15.s1 hb8 rfl ?_
  exact X_sw (show decode (mB 150) 9 = .ok (.lookupswitch 155 #[(0, 59), (1, 61), (33, 77), (38, 99), (86, 63), (124, 127)], 59) by decide +kernel) rfl rfl hsw k
set_option maxRecDepth 4000 in
theorem b_X14_holds_68 {xs : Nat → Int32} {L d : Nat} {S : Nat → Shp} {I : Nat → Nat → Int32} {J : Nat → Nat → Int64} {R : Nat → Nat → Nat} {c : Nat × Nat} {Q : Option (Option Value) → MH → Prop} {x1 : Int32}  (k : Q (some (some (.int 0))) (S, I, J, R, c)) : X xs L (d + 1) 150 68 [.ref 65, .int x1] [] (S, I, J, R, c) Q := by
  refine X_iconst (v := 0) (show decode (mB 150) 68 = .ok (.iconst 0, 1) by decide +kernel) (pc' := 69) rfl rfl ?_
  exact X_ireturn (ty := .boolean) (show decode (mB 150) 69 = .ok (.ireturn, 1) by decide +kernel) (by decide +kernel) rfl k
set_option maxRecDepth 4000 in
theorem b_X14_holds_70 {xs : Nat → Int32} {L d : Nat} {S : Nat → Shp} {I : Nat → Nat → Int32} {J : Nat → Nat → Int64} {R : Nat → Nat → Nat} {c : Nat × Nat} {Q : Option (Option Value) → MH → Prop} {x1 : Int32}  (k : Q (some (some (.int 1))) (S, I, J, R, c)) : X xs L (d + 1) 150 70 [.ref 65, .int x1] [] (S, I, J, R, c) Q := by
  refine X_iconst (v := 1) (show decode (mB 150) 70 = .ok (.iconst 1, 1) by decide +kernel) (pc' := 71) rfl rfl ?_
  exact X_ireturn (ty := .boolean) (show decode (mB 150) 71 = .ok (.ireturn, 1) by decide +kernel) (by decide +kernel) rfl k
set_option maxRecDepth 4000 in
theorem b_X14_holds_72 {xs : Nat → Int32} {L d : Nat} {S : Nat → Shp} {I : Nat → Nat → Int32} {J : Nat → Nat → Int64} {R : Nat → Nat → Nat} {c : Nat × Nat} {Q : Option (Option Value) → MH → Prop} {x1 : Int32} {q_65_15 : Nat} (hL : Lay S R) (hq_65_15 : R 65 15 = q_65_15) (h_q_65_15 : LyTr S R q_65_15) (hb81 : inb x1 2000 = true) (k : X xs L d 149 0 [.ref 65, .int (I (q_65_15 + 2) x1.toNatClampNeg)] [] (S, I, J, R, c) (Kc xs L (d + 1) 150 85 [.ref 65, .int x1] [] Q)) : X xs L (d + 1) 150 72 [.ref 65, .int x1] [] (S, I, J, R, c) Q := by
  refine X_aload_n (q := 0) (show decode (mB 150) 72 = .ok (.aload_n 0, 1) by decide +kernel) (pc' := 73) rfl rfl rfl ?_
  refine X_aload_n (q := 0) (show decode (mB 150) 73 = .ok (.aload_n 0, 1) by decide +kernel) (pc' := 74) rfl rfl rfl ?_
  refine X_getR (ci := 13) (f := 15) (q := q_65_15) (show decode (mB 150) 74 = .ok (.getfield 54, 3) by decide +kernel) (pc' := 77) rfl (ls_65 hL) (by decide +kernel) rfl hq_65_15 ?_
  refine X_getR (ci := 12) (f := 1) (q := (q_65_15 + 2)) (show decode (mB 150) 77 = .ok (.getfield 147, 3) by decide +kernel) (pc' := 80) rfl h_q_65_15.s0 (by decide +kernel) rfl h_q_65_15.r0_1 ?_
  refine X_iload_n (q := 1) (show decode (mB 150) 80 = .ok (.iload_n 1, 1) by decide +kernel) (pc' := 81) rfl rfl rfl ?_
  refine X_iaload (w := I (q_65_15 + 2) x1.toNatClampNeg) (show decode (mB 150) 81 = .ok (.iaload, 1) by decide +kernel) (pc' := 82) rfl h_q_65_15.s2 hb81 rfl ?_
  exact X_callV (y := 149) (n := 1) (st := [.int (I (q_65_15 + 2) x1.toNatClampNeg), .ref 65]) (as := [.ref 65, .int (I (q_65_15 + 2) x1.toNatClampNeg)]) (rest := []) (ls0 := [.ref 65, .int (I (q_65_15 + 2) x1.toNatClampNeg)]) (ci := 13) (show decode (mB 150) 82 = .ok (.invokevirtual 280, 3) by decide +kernel) (pc' := 85) rfl (by decide +kernel) (by decide +kernel) rfl (ls_65 hL) (by decide +kernel) rfl rfl rfl rfl rfl k
set_option maxRecDepth 4000 in
theorem b_X14_holds_85 {xs : Nat → Int32} {L d : Nat} {S : Nat → Shp} {I : Nat → Nat → Int32} {J : Nat → Nat → Int64} {R : Nat → Nat → Nat} {c : Nat × Nat} {Q : Option (Option Value) → MH → Prop} {x1 sx0 : Int32} (hz85 : sx0 = 0 ∨ sx0 = 1) (k : Q (some (some (.int sx0))) (S, I, J, R, c)) : X xs L (d + 1) 150 85 [.ref 65, .int x1] [.int sx0] (S, I, J, R, c) Q := by
  exact X_ireturn (ty := .boolean) (show decode (mB 150) 85 = .ok (.ireturn, 1) by decide +kernel) (by decide +kernel) (nz hz85) k
set_option maxRecDepth 4000 in
theorem b_X14_holds_86 {xs : Nat → Int32} {L d : Nat} {S : Nat → Shp} {I : Nat → Nat → Int32} {J : Nat → Nat → Int64} {R : Nat → Nat → Nat} {c : Nat × Nat} {Q : Option (Option Value) → MH → Prop} {x1 : Int32} {q_65_15 : Nat} (hL : Lay S R) (hq_65_15 : R 65 15 = q_65_15) (h_q_65_15 : LyTr S R q_65_15) (hb95 : inb x1 2000 = true) (k : X xs L d 150 0 [.ref 65, .int (I (q_65_15 + 2) x1.toNatClampNeg)] [] (S, I, J, R, c) (Kc xs L (d + 1) 150 99 [.ref 65, .int x1] [] Q)) : X xs L (d + 1) 150 86 [.ref 65, .int x1] [] (S, I, J, R, c) Q := by
  refine X_aload_n (q := 0) (show decode (mB 150) 86 = .ok (.aload_n 0, 1) by decide +kernel) (pc' := 87) rfl rfl rfl ?_
  refine X_aload_n (q := 0) (show decode (mB 150) 87 = .ok (.aload_n 0, 1) by decide +kernel) (pc' := 88) rfl rfl rfl ?_
  refine X_getR (ci := 13) (f := 15) (q := q_65_15) (show decode (mB 150) 88 = .ok (.getfield 54, 3) by decide +kernel) (pc' := 91) rfl (ls_65 hL) (by decide +kernel) rfl hq_65_15 ?_
  refine X_getR (ci := 12) (f := 1) (q := (q_65_15 + 2)) (show decode (mB 150) 91 = .ok (.getfield 147, 3) by decide +kernel) (pc' := 94) rfl h_q_65_15.s0 (by decide +kernel) rfl h_q_65_15.r0_1 ?_
  refine X_iload_n (q := 1) (show decode (mB 150) 94 = .ok (.iload_n 1, 1) by decide +kernel) (pc' := 95) rfl rfl rfl ?_
  refine X_iaload (w := I (q_65_15 + 2) x1.toNatClampNeg) (show decode (mB 150) 95 = .ok (.iaload, 1) by decide +kernel) (pc' := 96) rfl h_q_65_15.s2 hb95 rfl ?_
  exact X_callV (y := 150) (n := 1) (st := [.int (I (q_65_15 + 2) x1.toNatClampNeg), .ref 65]) (as := [.ref 65, .int (I (q_65_15 + 2) x1.toNatClampNeg)]) (rest := []) (ls0 := [.ref 65, .int (I (q_65_15 + 2) x1.toNatClampNeg)]) (ci := 13) (show decode (mB 150) 96 = .ok (.invokevirtual 282, 3) by decide +kernel) (pc' := 99) rfl (by decide +kernel) (by decide +kernel) rfl (ls_65 hL) (by decide +kernel) rfl rfl rfl rfl rfl k
set_option maxRecDepth 4000 in
theorem b_X14_holds_99 {xs : Nat → Int32} {L d : Nat} {S : Nat → Shp} {I : Nat → Nat → Int32} {J : Nat → Nat → Int64} {R : Nat → Nat → Nat} {c : Nat × Nat} {Q : Option (Option Value) → MH → Prop} {x1 sx0 : Int32}  (kt : ¬ sx0 = 0 → X xs L (d + 1) 150 106 [.ref 65, .int x1] [] (S, I, J, R, c) Q) (kf : ¬ (¬ sx0 = 0) → X xs L (d + 1) 150 102 [.ref 65, .int x1] [] (S, I, J, R, c) Q) : X xs L (d + 1) 150 99 [.ref 65, .int x1] [.int sx0] (S, I, J, R, c) Q := by
  exact X_if_ne (tgt := 106) (show decode (mB 150) 99 = .ok (.ifCond .ne 7, 3) by decide +kernel) rfl (pc' := 102) rfl kt kf
set_option maxRecDepth 4000 in
theorem b_X14_holds_102 {xs : Nat → Int32} {L d : Nat} {S : Nat → Shp} {I : Nat → Nat → Int32} {J : Nat → Nat → Int64} {R : Nat → Nat → Nat} {c : Nat × Nat} {Q : Option (Option Value) → MH → Prop} {x1 : Int32}  (k : X xs L (d + 1) 150 107 [.ref 65, .int x1] [.int 1] (S, I, J, R, c) Q) : X xs L (d + 1) 150 102 [.ref 65, .int x1] [] (S, I, J, R, c) Q := by
  refine X_iconst (v := 1) (show decode (mB 150) 102 = .ok (.iconst 1, 1) by decide +kernel) (pc' := 103) rfl rfl ?_
  refine X_goto (tgt := 107) (show decode (mB 150) 103 = .ok (.goto 4, 3) by decide +kernel) rfl ?_
  exact k
set_option maxRecDepth 4000 in
theorem b_X14_holds_106 {xs : Nat → Int32} {L d : Nat} {S : Nat → Shp} {I : Nat → Nat → Int32} {J : Nat → Nat → Int64} {R : Nat → Nat → Nat} {c : Nat × Nat} {Q : Option (Option Value) → MH → Prop} {x1 : Int32}  (k : X xs L (d + 1) 150 107 [.ref 65, .int x1] [.int 0] (S, I, J, R, c) Q) : X xs L (d + 1) 150 106 [.ref 65, .int x1] [] (S, I, J, R, c) Q := by
  refine X_iconst (v := 0) (show decode (mB 150) 106 = .ok (.iconst 0, 1) by decide +kernel) (pc' := 107) rfl rfl ?_
  exact k
set_option maxRecDepth 4000 in
theorem b_X14_holds_107 {xs : Nat → Int32} {L d : Nat} {S : Nat → Shp} {I : Nat → Nat → Int32} {J : Nat → Nat → Int64} {R : Nat → Nat → Nat} {c : Nat × Nat} {Q : Option (Option Value) → MH → Prop} {x1 sx0 : Int32} (hz107 : sx0 = 0 ∨ sx0 = 1) (k : Q (some (some (.int sx0))) (S, I, J, R, c)) : X xs L (d + 1) 150 107 [.ref 65, .int x1] [.int sx0] (S, I, J, R, c) Q := by
  exact X_ireturn (ty := .boolean) (show decode (mB 150) 107 = .ok (.ireturn, 1) by decide +kernel) (by decide +kernel) (nz hz107) k
set_option maxRecDepth 4000 in
theorem b_X14_holds_108 {xs : Nat → Int32} {L d : Nat} {S : Nat → Shp} {I : Nat → Nat → Int32} {J : Nat → Nat → Int64} {R : Nat → Nat → Nat} {c : Nat × Nat} {Q : Option (Option Value) → MH → Prop} {x1 : Int32} {q_65_15 : Nat} (hL : Lay S R) (hq_65_15 : R 65 15 = q_65_15) (h_q_65_15 : LyTr S R q_65_15) (hb117 : inb x1 2000 = true) (k : X xs L d 150 0 [.ref 65, .int (I (q_65_15 + 2) x1.toNatClampNeg)] [] (S, I, J, R, c) (Kc xs L (d + 1) 150 121 [.ref 65, .int x1] [] Q)) : X xs L (d + 1) 150 108 [.ref 65, .int x1] [] (S, I, J, R, c) Q := by
  refine X_aload_n (q := 0) (show decode (mB 150) 108 = .ok (.aload_n 0, 1) by decide +kernel) (pc' := 109) rfl rfl rfl ?_
  refine X_aload_n (q := 0) (show decode (mB 150) 109 = .ok (.aload_n 0, 1) by decide +kernel) (pc' := 110) rfl rfl rfl ?_
  refine X_getR (ci := 13) (f := 15) (q := q_65_15) (show decode (mB 150) 110 = .ok (.getfield 54, 3) by decide +kernel) (pc' := 113) rfl (ls_65 hL) (by decide +kernel) rfl hq_65_15 ?_
  refine X_getR (ci := 12) (f := 1) (q := (q_65_15 + 2)) (show decode (mB 150) 113 = .ok (.getfield 147, 3) by decide +kernel) (pc' := 116) rfl h_q_65_15.s0 (by decide +kernel) rfl h_q_65_15.r0_1 ?_
  refine X_iload_n (q := 1) (show decode (mB 150) 116 = .ok (.iload_n 1, 1) by decide +kernel) (pc' := 117) rfl rfl rfl ?_
  refine X_iaload (w := I (q_65_15 + 2) x1.toNatClampNeg) (show decode (mB 150) 117 = .ok (.iaload, 1) by decide +kernel) (pc' := 118) rfl h_q_65_15.s2 hb117 rfl ?_
  exact X_callV (y := 150) (n := 1) (st := [.int (I (q_65_15 + 2) x1.toNatClampNeg), .ref 65]) (as := [.ref 65, .int (I (q_65_15 + 2) x1.toNatClampNeg)]) (rest := []) (ls0 := [.ref 65, .int (I (q_65_15 + 2) x1.toNatClampNeg)]) (ci := 13) (show decode (mB 150) 118 = .ok (.invokevirtual 282, 3) by decide +kernel) (pc' := 121) rfl (by decide +kernel) (by decide +kernel) rfl (ls_65 hL) (by decide +kernel) rfl rfl rfl rfl rfl k
set_option maxRecDepth 4000 in
theorem b_X14_holds_121 {xs : Nat → Int32} {L d : Nat} {S : Nat → Shp} {I : Nat → Nat → Int32} {J : Nat → Nat → Int64} {R : Nat → Nat → Nat} {c : Nat × Nat} {Q : Option (Option Value) → MH → Prop} {x1 sx0 : Int32} {q_65_15 : Nat} (hL : Lay S R) (hq_65_15 : R 65 15 = q_65_15) (h_q_65_15 : LyTr S R q_65_15) (hb130 : inb x1 2000 = true) (k : X xs L d 150 0 [.ref 65, .int (I (q_65_15 + 3) x1.toNatClampNeg)] [] (S, I, J, R, c) (Kc xs L (d + 1) 150 134 [.ref 65, .int x1] [.int sx0] Q)) : X xs L (d + 1) 150 121 [.ref 65, .int x1] [.int sx0] (S, I, J, R, c) Q := by
  refine X_aload_n (q := 0) (show decode (mB 150) 121 = .ok (.aload_n 0, 1) by decide +kernel) (pc' := 122) rfl rfl rfl ?_
  refine X_aload_n (q := 0) (show decode (mB 150) 122 = .ok (.aload_n 0, 1) by decide +kernel) (pc' := 123) rfl rfl rfl ?_
  refine X_getR (ci := 13) (f := 15) (q := q_65_15) (show decode (mB 150) 123 = .ok (.getfield 54, 3) by decide +kernel) (pc' := 126) rfl (ls_65 hL) (by decide +kernel) rfl hq_65_15 ?_
  refine X_getR (ci := 12) (f := 2) (q := (q_65_15 + 3)) (show decode (mB 150) 126 = .ok (.getfield 150, 3) by decide +kernel) (pc' := 129) rfl h_q_65_15.s0 (by decide +kernel) rfl h_q_65_15.r0_2 ?_
  refine X_iload_n (q := 1) (show decode (mB 150) 129 = .ok (.iload_n 1, 1) by decide +kernel) (pc' := 130) rfl rfl rfl ?_
  refine X_iaload (w := I (q_65_15 + 3) x1.toNatClampNeg) (show decode (mB 150) 130 = .ok (.iaload, 1) by decide +kernel) (pc' := 131) rfl h_q_65_15.s3 hb130 rfl ?_
  exact X_callV (y := 150) (n := 1) (st := [.int (I (q_65_15 + 3) x1.toNatClampNeg), .ref 65, .int sx0]) (as := [.ref 65, .int (I (q_65_15 + 3) x1.toNatClampNeg)]) (rest := [.int sx0]) (ls0 := [.ref 65, .int (I (q_65_15 + 3) x1.toNatClampNeg)]) (ci := 13) (show decode (mB 150) 131 = .ok (.invokevirtual 282, 3) by decide +kernel) (pc' := 134) rfl (by decide +kernel) (by decide +kernel) rfl (ls_65 hL) (by decide +kernel) rfl rfl rfl rfl rfl k
set_option maxRecDepth 4000 in
theorem b_X14_holds_134 {xs : Nat → Int32} {L d : Nat} {S : Nat → Shp} {I : Nat → Nat → Int32} {J : Nat → Nat → Int64} {R : Nat → Nat → Nat} {c : Nat × Nat} {Q : Option (Option Value) → MH → Prop} {x1 sx0 sx1 : Int32} (hz135 : sx0 &&& sx1 = 0 ∨ sx0 &&& sx1 = 1) (k : Q (some (some (.int (sx0 &&& sx1)))) (S, I, J, R, c)) : X xs L (d + 1) 150 134 [.ref 65, .int x1] [.int sx1, .int sx0] (S, I, J, R, c) Q := by
  refine X_iand (show decode (mB 150) 134 = .ok (.iand, 1) by decide +kernel) (pc' := 135) rfl ?_
  exact X_ireturn (ty := .boolean) (show decode (mB 150) 135 = .ok (.ireturn, 1) by decide +kernel) (by decide +kernel) (nz hz135) k
set_option maxRecDepth 4000 in
theorem b_X14_holds_136 {xs : Nat → Int32} {L d : Nat} {S : Nat → Shp} {I : Nat → Nat → Int32} {J : Nat → Nat → Int64} {R : Nat → Nat → Nat} {c : Nat × Nat} {Q : Option (Option Value) → MH → Prop} {x1 : Int32} {q_65_15 : Nat} (hL : Lay S R) (hq_65_15 : R 65 15 = q_65_15) (h_q_65_15 : LyTr S R q_65_15) (hb145 : inb x1 2000 = true) (k : X xs L d 150 0 [.ref 65, .int (I (q_65_15 + 2) x1.toNatClampNeg)] [] (S, I, J, R, c) (Kc xs L (d + 1) 150 149 [.ref 65, .int x1] [] Q)) : X xs L (d + 1) 150 136 [.ref 65, .int x1] [] (S, I, J, R, c) Q := by
  refine X_aload_n (q := 0) (show decode (mB 150) 136 = .ok (.aload_n 0, 1) by decide +kernel) (pc' := 137) rfl rfl rfl ?_
  refine X_aload_n (q := 0) (show decode (mB 150) 137 = .ok (.aload_n 0, 1) by decide +kernel) (pc' := 138) rfl rfl rfl ?_
  refine X_getR (ci := 13) (f := 15) (q := q_65_15) (show decode (mB 150) 138 = .ok (.getfield 54, 3) by decide +kernel) (pc' := 141) rfl (ls_65 hL) (by decide +kernel) rfl hq_65_15 ?_
  refine X_getR (ci := 12) (f := 1) (q := (q_65_15 + 2)) (show decode (mB 150) 141 = .ok (.getfield 147, 3) by decide +kernel) (pc' := 144) rfl h_q_65_15.s0 (by decide +kernel) rfl h_q_65_15.r0_1 ?_
  refine X_iload_n (q := 1) (show decode (mB 150) 144 = .ok (.iload_n 1, 1) by decide +kernel) (pc' := 145) rfl rfl rfl ?_
  refine X_iaload (w := I (q_65_15 + 2) x1.toNatClampNeg) (show decode (mB 150) 145 = .ok (.iaload, 1) by decide +kernel) (pc' := 146) rfl h_q_65_15.s2 hb145 rfl ?_
  exact X_callV (y := 150) (n := 1) (st := [.int (I (q_65_15 + 2) x1.toNatClampNeg), .ref 65]) (as := [.ref 65, .int (I (q_65_15 + 2) x1.toNatClampNeg)]) (rest := []) (ls0 := [.ref 65, .int (I (q_65_15 + 2) x1.toNatClampNeg)]) (ci := 13) (show decode (mB 150) 146 = .ok (.invokevirtual 282, 3) by decide +kernel) (pc' := 149) rfl (by decide +kernel) (by decide +kernel) rfl (ls_65 hL) (by decide +kernel) rfl rfl rfl rfl rfl k
set_option maxRecDepth 4000 in
theorem b_X14_holds_149 {xs : Nat → Int32} {L d : Nat} {S : Nat → Shp} {I : Nat → Nat → Int32} {J : Nat → Nat → Int64} {R : Nat → Nat → Nat} {c : Nat × Nat} {Q : Option (Option Value) → MH → Prop} {x1 sx0 : Int32} {q_65_15 : Nat} (hL : Lay S R) (hq_65_15 : R 65 15 = q_65_15) (h_q_65_15 : LyTr S R q_65_15) (hb158 : inb x1 2000 = true) (k : X xs L d 150 0 [.ref 65, .int (I (q_65_15 + 3) x1.toNatClampNeg)] [] (S, I, J, R, c) (Kc xs L (d + 1) 150 162 [.ref 65, .int x1] [.int sx0] Q)) : X xs L (d + 1) 150 149 [.ref 65, .int x1] [.int sx0] (S, I, J, R, c) Q := by
  refine X_aload_n (q := 0) (show decode (mB 150) 149 = .ok (.aload_n 0, 1) by decide +kernel) (pc' := 150) rfl rfl rfl ?_
  refine X_aload_n (q := 0) (show decode (mB 150) 150 = .ok (.aload_n 0, 1) by decide +kernel) (pc' := 151) rfl rfl rfl ?_
  refine X_getR (ci := 13) (f := 15) (q := q_65_15) (show decode (mB 150) 151 = .ok (.getfield 54, 3) by decide +kernel) (pc' := 154) rfl (ls_65 hL) (by decide +kernel) rfl hq_65_15 ?_
  refine X_getR (ci := 12) (f := 2) (q := (q_65_15 + 3)) (show decode (mB 150) 154 = .ok (.getfield 150, 3) by decide +kernel) (pc' := 157) rfl h_q_65_15.s0 (by decide +kernel) rfl h_q_65_15.r0_2 ?_
  refine X_iload_n (q := 1) (show decode (mB 150) 157 = .ok (.iload_n 1, 1) by decide +kernel) (pc' := 158) rfl rfl rfl ?_
  refine X_iaload (w := I (q_65_15 + 3) x1.toNatClampNeg) (show decode (mB 150) 158 = .ok (.iaload, 1) by decide +kernel) (pc' := 159) rfl h_q_65_15.s3 hb158 rfl ?_
  exact X_callV (y := 150) (n := 1) (st := [.int (I (q_65_15 + 3) x1.toNatClampNeg), .ref 65, .int sx0]) (as := [.ref 65, .int (I (q_65_15 + 3) x1.toNatClampNeg)]) (rest := [.int sx0]) (ls0 := [.ref 65, .int (I (q_65_15 + 3) x1.toNatClampNeg)]) (ci := 13) (show decode (mB 150) 159 = .ok (.invokevirtual 282, 3) by decide +kernel) (pc' := 162) rfl (by decide +kernel) (by decide +kernel) rfl (ls_65 hL) (by decide +kernel) rfl rfl rfl rfl rfl k
set_option maxRecDepth 4000 in
theorem b_X14_holds_162 {xs : Nat → Int32} {L d : Nat} {S : Nat → Shp} {I : Nat → Nat → Int32} {J : Nat → Nat → Int64} {R : Nat → Nat → Nat} {c : Nat × Nat} {Q : Option (Option Value) → MH → Prop} {x1 sx0 sx1 : Int32} (hz163 : sx0 ||| sx1 = 0 ∨ sx0 ||| sx1 = 1) (k : Q (some (some (.int (sx0 ||| sx1)))) (S, I, J, R, c)) : X xs L (d + 1) 150 162 [.ref 65, .int x1] [.int sx1, .int sx0] (S, I, J, R, c) Q := by
  refine X_ior (show decode (mB 150) 162 = .ok (.ior, 1) by decide +kernel) (pc' := 163) rfl ?_
  exact X_ireturn (ty := .boolean) (show decode (mB 150) 163 = .ok (.ireturn, 1) by decide +kernel) (by decide +kernel) (nz hz163) k
set_option maxRecDepth 4000 in
theorem b_X14_holds_164 {xs : Nat → Int32} {L d : Nat} {S : Nat → Shp} {I : Nat → Nat → Int32} {J : Nat → Nat → Int64} {R : Nat → Nat → Nat} {c : Nat × Nat} {Q : Option (Option Value) → MH → Prop} {x1 : Int32} {q_65_15 : Nat} (hL : Lay S R) (hq_65_15 : R 65 15 = q_65_15) (h_q_65_15 : LyTr S R q_65_15) (hb173 : inb x1 2000 = true) (k : X xs L d 150 0 [.ref 65, .int (I (q_65_15 + 2) x1.toNatClampNeg)] [] (S, I, J, R, c) (Kc xs L (d + 1) 150 177 [.ref 65, .int x1] [] Q)) : X xs L (d + 1) 150 164 [.ref 65, .int x1] [] (S, I, J, R, c) Q := by
  refine X_aload_n (q := 0) (show decode (mB 150) 164 = .ok (.aload_n 0, 1) by decide +kernel) (pc' := 165) rfl rfl rfl ?_
  refine X_aload_n (q := 0) (show decode (mB 150) 165 = .ok (.aload_n 0, 1) by decide +kernel) (pc' := 166) rfl rfl rfl ?_
  refine X_getR (ci := 13) (f := 15) (q := q_65_15) (show decode (mB 150) 166 = .ok (.getfield 54, 3) by decide +kernel) (pc' := 169) rfl (ls_65 hL) (by decide +kernel) rfl hq_65_15 ?_
  refine X_getR (ci := 12) (f := 1) (q := (q_65_15 + 2)) (show decode (mB 150) 169 = .ok (.getfield 147, 3) by decide +kernel) (pc' := 172) rfl h_q_65_15.s0 (by decide +kernel) rfl h_q_65_15.r0_1 ?_
  refine X_iload_n (q := 1) (show decode (mB 150) 172 = .ok (.iload_n 1, 1) by decide +kernel) (pc' := 173) rfl rfl rfl ?_
  refine X_iaload (w := I (q_65_15 + 2) x1.toNatClampNeg) (show decode (mB 150) 173 = .ok (.iaload, 1) by decide +kernel) (pc' := 174) rfl h_q_65_15.s2 hb173 rfl ?_
  exact X_callV (y := 150) (n := 1) (st := [.int (I (q_65_15 + 2) x1.toNatClampNeg), .ref 65]) (as := [.ref 65, .int (I (q_65_15 + 2) x1.toNatClampNeg)]) (rest := []) (ls0 := [.ref 65, .int (I (q_65_15 + 2) x1.toNatClampNeg)]) (ci := 13) (show decode (mB 150) 174 = .ok (.invokevirtual 282, 3) by decide +kernel) (pc' := 177) rfl (by decide +kernel) (by decide +kernel) rfl (ls_65 hL) (by decide +kernel) rfl rfl rfl rfl rfl k
set_option maxRecDepth 4000 in
theorem b_X14_holds_177 {xs : Nat → Int32} {L d : Nat} {S : Nat → Shp} {I : Nat → Nat → Int32} {J : Nat → Nat → Int64} {R : Nat → Nat → Nat} {c : Nat × Nat} {Q : Option (Option Value) → MH → Prop} {x1 sx0 : Int32} {q_65_15 : Nat} (hL : Lay S R) (hq_65_15 : R 65 15 = q_65_15) (h_q_65_15 : LyTr S R q_65_15) (hb186 : inb x1 2000 = true) (k : X xs L d 150 0 [.ref 65, .int (I (q_65_15 + 3) x1.toNatClampNeg)] [] (S, I, J, R, c) (Kc xs L (d + 1) 150 190 [.ref 65, .int x1] [.int sx0] Q)) : X xs L (d + 1) 150 177 [.ref 65, .int x1] [.int sx0] (S, I, J, R, c) Q := by
  refine X_aload_n (q := 0) (show decode (mB 150) 177 = .ok (.aload_n 0, 1) by decide +kernel) (pc' := 178) rfl rfl rfl ?_
  refine X_aload_n (q := 0) (show decode (mB 150) 178 = .ok (.aload_n 0, 1) by decide +kernel) (pc' := 179) rfl rfl rfl ?_
  refine X_getR (ci := 13) (f := 15) (q := q_65_15) (show decode (mB 150) 179 = .ok (.getfield 54, 3) by decide +kernel) (pc' := 182) rfl (ls_65 hL) (by decide +kernel) rfl hq_65_15 ?_
  refine X_getR (ci := 12) (f := 2) (q := (q_65_15 + 3)) (show decode (mB 150) 182 = .ok (.getfield 150, 3) by decide +kernel) (pc' := 185) rfl h_q_65_15.s0 (by decide +kernel) rfl h_q_65_15.r0_2 ?_
  refine X_iload_n (q := 1) (show decode (mB 150) 185 = .ok (.iload_n 1, 1) by decide +kernel) (pc' := 186) rfl rfl rfl ?_
  refine X_iaload (w := I (q_65_15 + 3) x1.toNatClampNeg) (show decode (mB 150) 186 = .ok (.iaload, 1) by decide +kernel) (pc' := 187) rfl h_q_65_15.s3 hb186 rfl ?_
  exact X_callV (y := 150) (n := 1) (st := [.int (I (q_65_15 + 3) x1.toNatClampNeg), .ref 65, .int sx0]) (as := [.ref 65, .int (I (q_65_15 + 3) x1.toNatClampNeg)]) (rest := [.int sx0]) (ls0 := [.ref 65, .int (I (q_65_15 + 3) x1.toNatClampNeg)]) (ci := 13) (show decode (mB 150) 187 = .ok (.invokevirtual 282, 3) by decide +kernel) (pc' := 190) rfl (by decide +kernel) (by decide +kernel) rfl (ls_65 hL) (by decide +kernel) rfl rfl rfl rfl rfl k
set_option maxRecDepth 4000 in
theorem b_X14_holds_190 {xs : Nat → Int32} {L d : Nat} {S : Nat → Shp} {I : Nat → Nat → Int32} {J : Nat → Nat → Int64} {R : Nat → Nat → Nat} {c : Nat × Nat} {Q : Option (Option Value) → MH → Prop} {x1 sx0 sx1 : Int32} (hz191 : sx0 ^^^ sx1 = 0 ∨ sx0 ^^^ sx1 = 1) (k : Q (some (some (.int (sx0 ^^^ sx1)))) (S, I, J, R, c)) : X xs L (d + 1) 150 190 [.ref 65, .int x1] [.int sx1, .int sx0] (S, I, J, R, c) Q := by
  refine X_ixor (show decode (mB 150) 190 = .ok (.ixor, 1) by decide +kernel) (pc' := 191) rfl ?_
  exact X_ireturn (ty := .boolean) (show decode (mB 150) 191 = .ok (.ireturn, 1) by decide +kernel) (by decide +kernel) (nz hz191) k
set_option maxRecDepth 4000 in
theorem b_X14_valueOf_0 {xs : Nat → Int32} {L d : Nat} {S : Nat → Shp} {I : Nat → Nat → Int32} {J : Nat → Nat → Int64} {R : Nat → Nat → Nat} {c : Nat × Nat} {Q : Option (Option Value) → MH → Prop} {x1 x2 x3 : Int32} {q_65_9 : Nat} (hL : Lay S R) (hq_65_9 : R 65 9 = q_65_9) (h_q_65_9 : LyTr S R q_65_9) (hb8 : inb x1 2000 = true) (kt : 1 < (I (q_65_9 + 1) x1.toNatClampNeg) → X xs L (d + 1) 151 20 [.ref 65, .int x1, .int x2, .int x3, .int (I (q_65_9 + 1) x1.toNatClampNeg), .null, .null] [] (S, I, J, R, c) Q) (kf : ¬ (1 < (I (q_65_9 + 1) x1.toNatClampNeg)) → X xs L (d + 1) 151 17 [.ref 65, .int x1, .int x2, .int x3, .int (I (q_65_9 + 1) x1.toNatClampNeg), .null, .null] [] (S, I, J, R, c) Q) : X xs L (d + 1) 151 0 [.ref 65, .int x1, .int x2, .int x3, .null, .null, .null] [] (S, I, J, R, c) Q := by
  refine X_aload_n (q := 0) (show decode (mB 151) 0 = .ok (.aload_n 0, 1) by decide +kernel) (pc' := 1) rfl rfl rfl ?_
  refine X_getR (ci := 13) (f := 9) (q := q_65_9) (show decode (mB 151) 1 = .ok (.getfield 30, 3) by decide +kernel) (pc' := 4) rfl (ls_65 hL) (by decide +kernel) rfl hq_65_9 ?_
  refine X_getR (ci := 12) (f := 0) (q := (q_65_9 + 1)) (show decode (mB 151) 4 = .ok (.getfield 144, 3) by decide +kernel) (pc' := 7) rfl h_q_65_9.s0 (by decide +kernel) rfl h_q_65_9.r0_0 ?_
  refine X_iload_n (q := 1) (show decode (mB 151) 7 = .ok (.iload_n 1, 1) by decide +kernel) (pc' := 8) rfl rfl rfl ?_
  refine X_iaload (w := I (q_65_9 + 1) x1.toNatClampNeg) (show decode (mB 151) 8 = .ok (.iaload, 1) by decide +kernel) (pc' := 9) rfl h_q_65_9.s1 hb8 rfl ?_
  refine X_istore (q := 4) (ls' := [.ref 65, .int x1, .int x2, .int x3, .int (I (q_65_9 + 1) x1.toNatClampNeg), .null, .null]) (show decode (mB 151) 9 = .ok (.istore 4, 2) by decide +kernel) (pc' := 11) rfl rfl ?_
  refine X_iload (q := 4) (show decode (mB 151) 11 = .ok (.iload 4, 2) by decide +kernel) (pc' := 13) rfl rfl ?_
  refine X_iconst (v := 1) (show decode (mB 151) 13 = .ok (.iconst 1, 1) by decide +kernel) (pc' := 14) rfl rfl ?_
  exact X_icmp_gt (tgt := 20) (show decode (mB 151) 14 = .ok (.if_icmp .gt 6, 3) by decide +kernel) rfl (pc' := 17) rfl kt kf
set_option maxRecDepth 4000 in
theorem b_X14_valueOf_17 {xs : Nat → Int32} {L d : Nat} {S : Nat → Shp} {I : Nat → Nat → Int32} {J : Nat → Nat → Int64} {R : Nat → Nat → Nat} {c : Nat × Nat} {Q : Option (Option Value) → MH → Prop} {x1 x2 x3 x4 : Int32}  (k : Q (some (some (.int x4))) (S, I, J, R, c)) : X xs L (d + 1) 151 17 [.ref 65, .int x1, .int x2, .int x3, .int x4, .null, .null] [] (S, I, J, R, c) Q := by
  refine X_iload (q := 4) (show decode (mB 151) 17 = .ok (.iload 4, 2) by decide +kernel) (pc' := 19) rfl rfl ?_
  exact X_ireturn (ty := .int) (show decode (mB 151) 19 = .ok (.ireturn, 1) by decide +kernel) (by decide +kernel) rfl k
set_option maxRecDepth 4000 in
theorem b_X14_valueOf_20 {xs : Nat → Int32} {L d : Nat} {S : Nat → Shp} {I : Nat → Nat → Int32} {J : Nat → Nat → Int64} {R : Nat → Nat → Nat} {c : Nat × Nat} {Q : Option (Option Value) → MH → Prop} {x1 x2 x3 x4 : Int32}  (kt : ¬ x4 = 78 → X xs L (d + 1) 151 69 [.ref 65, .int x1, .int x2, .int x3, .int x4, .null, .null] [] (S, I, J, R, c) Q) (kf : ¬ (¬ x4 = 78) → X xs L (d + 1) 151 27 [.ref 65, .int x1, .int x2, .int x3, .int x4, .null, .null] [] (S, I, J, R, c) Q) : X xs L (d + 1) 151 20 [.ref 65, .int x1, .int x2, .int x3, .int x4, .null, .null] [] (S, I, J, R, c) Q := by
  refine X_iload (q := 4) (show decode (mB 151) 20 = .ok (.iload 4, 2) by decide +kernel) (pc' := 22) rfl rfl ?_
  refine X_bipush (v := 78) (show decode (mB 151) 22 = .ok (.bipush 78, 2) by decide +kernel) (pc' := 24) rfl (by decide +kernel) ?_
  exact X_icmp_ne (tgt := 69) (show decode (mB 151) 24 = .ok (.if_icmp .ne 45, 3) by decide +kernel) rfl (pc' := 27) rfl kt kf
set_option maxRecDepth 4000 in
theorem b_X14_valueOf_27 {xs : Nat → Int32} {L d : Nat} {S : Nat → Shp} {I : Nat → Nat → Int32} {J : Nat → Nat → Int64} {R : Nat → Nat → Nat} {c : Nat × Nat} {Q : Option (Option Value) → MH → Prop} {x1 x2 x3 x4 : Int32}  (kt : ¬ x3 = 0 → X xs L (d + 1) 151 45 [.ref 65, .int x1, .int x2, .int x3, .int x4, .null, .null] [] (S, I, J, R, c) Q) (kf : ¬ (¬ x3 = 0) → X xs L (d + 1) 151 31 [.ref 65, .int x1, .int x2, .int x3, .int x4, .null, .null] [] (S, I, J, R, c) Q) : X xs L (d + 1) 151 27 [.ref 65, .int x1, .int x2, .int x3, .int x4, .null, .null] [] (S, I, J, R, c) Q := by
  refine X_iload_n (q := 3) (show decode (mB 151) 27 = .ok (.iload_n 3, 1) by decide +kernel) (pc' := 28) rfl rfl rfl ?_
  exact X_if_ne (tgt := 45) (show decode (mB 151) 28 = .ok (.ifCond .ne 17, 3) by decide +kernel) rfl (pc' := 31) rfl kt kf
set_option maxRecDepth 4000 in
theorem b_X14_valueOf_31 {xs : Nat → Int32} {L d : Nat} {S : Nat → Shp} {I : Nat → Nat → Int32} {J : Nat → Nat → Int64} {R : Nat → Nat → Nat} {c : Nat × Nat} {Q : Option (Option Value) → MH → Prop} {x1 x2 x3 x4 : Int32} {q_65_9 : Nat} (hL : Lay S R) (hq_65_9 : R 65 9 = q_65_9) (h_q_65_9 : LyTr S R q_65_9) (hb40 : inb x1 2000 = true) (k : X xs L d 154 0 [.ref 65, .int (I (q_65_9 + 2) x1.toNatClampNeg), .int x2, .null, .null, .null] [] (S, I, J, R, c) (Kc xs L (d + 1) 151 45 [.ref 65, .int x1, .int x2, .int x3, .int x4, .null, .null] [] Q)) : X xs L (d + 1) 151 31 [.ref 65, .int x1, .int x2, .int x3, .int x4, .null, .null] [] (S, I, J, R, c) Q := by
  refine X_aload_n (q := 0) (show decode (mB 151) 31 = .ok (.aload_n 0, 1) by decide +kernel) (pc' := 32) rfl rfl rfl ?_
  refine X_aload_n (q := 0) (show decode (mB 151) 32 = .ok (.aload_n 0, 1) by decide +kernel) (pc' := 33) rfl rfl rfl ?_
  refine X_getR (ci := 13) (f := 9) (q := q_65_9) (show decode (mB 151) 33 = .ok (.getfield 30, 3) by decide +kernel) (pc' := 36) rfl (ls_65 hL) (by decide +kernel) rfl hq_65_9 ?_
  refine X_getR (ci := 12) (f := 1) (q := (q_65_9 + 2)) (show decode (mB 151) 36 = .ok (.getfield 147, 3) by decide +kernel) (pc' := 39) rfl h_q_65_9.s0 (by decide +kernel) rfl h_q_65_9.r0_1 ?_
  refine X_iload_n (q := 1) (show decode (mB 151) 39 = .ok (.iload_n 1, 1) by decide +kernel) (pc' := 40) rfl rfl rfl ?_
  refine X_iaload (w := I (q_65_9 + 2) x1.toNatClampNeg) (show decode (mB 151) 40 = .ok (.iaload, 1) by decide +kernel) (pc' := 41) rfl h_q_65_9.s2 hb40 rfl ?_
  refine X_iload_n (q := 2) (show decode (mB 151) 41 = .ok (.iload_n 2, 1) by decide +kernel) (pc' := 42) rfl rfl rfl ?_
  exact X_callV (y := 154) (n := 2) (st := [.int x2, .int (I (q_65_9 + 2) x1.toNatClampNeg), .ref 65]) (as := [.ref 65, .int (I (q_65_9 + 2) x1.toNatClampNeg), .int x2]) (rest := []) (ls0 := [.ref 65, .int (I (q_65_9 + 2) x1.toNatClampNeg), .int x2, .null, .null, .null]) (ci := 13) (show decode (mB 151) 42 = .ok (.invokevirtual 285, 3) by decide +kernel) (pc' := 45) rfl (by decide +kernel) (by decide +kernel) rfl (ls_65 hL) (by decide +kernel) rfl rfl rfl rfl rfl k
set_option maxRecDepth 4000 in
theorem b_X14_valueOf_45 {xs : Nat → Int32} {L d : Nat} {S : Nat → Shp} {I : Nat → Nat → Int32} {J : Nat → Nat → Int64} {R : Nat → Nat → Nat} {c : Nat × Nat} {Q : Option (Option Value) → MH → Prop} {x1 x2 x3 x4 : Int32} {q_65_9 : Nat} (hL : Lay S R) (hq_65_9 : R 65 9 = q_65_9) (h_q_65_9 : LyTr S R q_65_9) (hb63 : inb x1 2000 = true) (k : X xs L d 148 0 [.ref 65, .int (I 65 29), .int x2, .int (I (q_65_9 + 2) x1.toNatClampNeg)] [] (S, I, J, R, c) (Kc xs L (d + 1) 151 67 [.ref 65, .int x1, .int x2, .int x3, .int x4, .null, .null] [.ref 112] Q)) : X xs L (d + 1) 151 45 [.ref 65, .int x1, .int x2, .int x3, .int x4, .null, .null] [] (S, I, J, R, c) Q := by
  refine X_aload_n (q := 0) (show decode (mB 151) 45 = .ok (.aload_n 0, 1) by decide +kernel) (pc' := 46) rfl rfl rfl ?_
  refine X_getR (ci := 13) (f := 23) (q := 112) (show decode (mB 151) 46 = .ok (.getfield 61, 3) by decide +kernel) (pc' := 49) rfl (ls_65 hL) (by decide +kernel) rfl (lr_65_23 hL) ?_
  refine X_aload_n (q := 0) (show decode (mB 151) 49 = .ok (.aload_n 0, 1) by decide +kernel) (pc' := 50) rfl rfl rfl ?_
  refine X_aload_n (q := 0) (show decode (mB 151) 50 = .ok (.aload_n 0, 1) by decide +kernel) (pc' := 51) rfl rfl rfl ?_
  refine X_getI (ci := 13) (f := 29) (x := I 65 29) (show decode (mB 151) 51 = .ok (.getfield 277, 3) by decide +kernel) (pc' := 54) rfl (ls_65 hL) (by decide +kernel) rfl rfl ?_
  refine X_iload_n (q := 2) (show decode (mB 151) 54 = .ok (.iload_n 2, 1) by decide +kernel) (pc' := 55) rfl rfl rfl ?_
  refine X_aload_n (q := 0) (show decode (mB 151) 55 = .ok (.aload_n 0, 1) by decide +kernel) (pc' := 56) rfl rfl rfl ?_
  refine X_getR (ci := 13) (f := 9) (q := q_65_9) (show decode (mB 151) 56 = .ok (.getfield 30, 3) by decide +kernel) (pc' := 59) rfl (ls_65 hL) (by decide +kernel) rfl hq_65_9 ?_
  refine X_getR (ci := 12) (f := 1) (q := (q_65_9 + 2)) (show decode (mB 151) 59 = .ok (.getfield 147, 3) by decide +kernel) (pc' := 62) rfl h_q_65_9.s0 (by decide +kernel) rfl h_q_65_9.r0_1 ?_
  refine X_iload_n (q := 1) (show decode (mB 151) 62 = .ok (.iload_n 1, 1) by decide +kernel) (pc' := 63) rfl rfl rfl ?_
  refine X_iaload (w := I (q_65_9 + 2) x1.toNatClampNeg) (show decode (mB 151) 63 = .ok (.iaload, 1) by decide +kernel) (pc' := 64) rfl h_q_65_9.s2 hb63 rfl ?_
  exact X_callV (y := 148) (n := 3) (st := [.int (I (q_65_9 + 2) x1.toNatClampNeg), .int x2, .int (I 65 29), .ref 65, .ref 112]) (as := [.ref 65, .int (I 65 29), .int x2, .int (I (q_65_9 + 2) x1.toNatClampNeg)]) (rest := [.ref 112]) (ls0 := [.ref 65, .int (I 65 29), .int x2, .int (I (q_65_9 + 2) x1.toNatClampNeg)]) (ci := 13) (show decode (mB 151) 64 = .ok (.invokevirtual 289, 3) by decide +kernel) (pc' := 67) rfl (by decide +kernel) (by decide +kernel) rfl (ls_65 hL) (by decide +kernel) rfl rfl rfl rfl rfl k
set_option maxRecDepth 4000 in
theorem b_X14_valueOf_67 {xs : Nat → Int32} {L d : Nat} {S : Nat → Shp} {I : Nat → Nat → Int32} {J : Nat → Nat → Int64} {R : Nat → Nat → Nat} {c : Nat × Nat} {Q : Option (Option Value) → MH → Prop} {x1 x2 x3 x4 sx1 : Int32} (hL : Lay S R) (hb67 : inb sx1 245760 = true) (k : Q (some (some (.int (I 112 sx1.toNatClampNeg)))) (S, I, J, R, c)) : X xs L (d + 1) 151 67 [.ref 65, .int x1, .int x2, .int x3, .int x4, .null, .null] [.int sx1, .ref 112] (S, I, J, R, c) Q := by
  refine X_baload (w := I 112 sx1.toNatClampNeg) (show decode (mB 151) 67 = .ok (.baload, 1) by decide +kernel) (pc' := 68) rfl (ls_112 hL) hb67 rfl ?_
  exact X_ireturn (ty := .int) (show decode (mB 151) 68 = .ok (.ireturn, 1) by decide +kernel) (by decide +kernel) rfl k
set_option maxRecDepth 4000 in
theorem b_X14_valueOf_69 {xs : Nat → Int32} {L d : Nat} {S : Nat → Shp} {I : Nat → Nat → Int32} {J : Nat → Nat → Int64} {R : Nat → Nat → Nat} {c : Nat × Nat} {Q : Option (Option Value) → MH → Prop} {x1 x2 x3 x4 : Int32} {q_65_9 : Nat} (hL : Lay S R) (hq_65_9 : R 65 9 = q_65_9) (h_q_65_9 : LyTr S R q_65_9) (hb78 : inb x1 2000 = true) (k : X xs L d 151 0 [.ref 65, .int (I (q_65_9 + 2) x1.toNatClampNeg), .int x2, .int x3, .null, .null, .null] [] (S, I, J, R, c) (Kc xs L (d + 1) 151 84 [.ref 65, .int x1, .int x2, .int x3, .int x4, .null, .null] [] Q)) : X xs L (d + 1) 151 69 [.ref 65, .int x1, .int x2, .int x3, .int x4, .null, .null] [] (S, I, J, R, c) Q := by
  refine X_aload_n (q := 0) (show decode (mB 151) 69 = .ok (.aload_n 0, 1) by decide +kernel) (pc' := 70) rfl rfl rfl ?_
  refine X_aload_n (q := 0) (show decode (mB 151) 70 = .ok (.aload_n 0, 1) by decide +kernel) (pc' := 71) rfl rfl rfl ?_
  refine X_getR (ci := 13) (f := 9) (q := q_65_9) (show decode (mB 151) 71 = .ok (.getfield 30, 3) by decide +kernel) (pc' := 74) rfl (ls_65 hL) (by decide +kernel) rfl hq_65_9 ?_
  refine X_getR (ci := 12) (f := 1) (q := (q_65_9 + 2)) (show decode (mB 151) 74 = .ok (.getfield 147, 3) by decide +kernel) (pc' := 77) rfl h_q_65_9.s0 (by decide +kernel) rfl h_q_65_9.r0_1 ?_
  refine X_iload_n (q := 1) (show decode (mB 151) 77 = .ok (.iload_n 1, 1) by decide +kernel) (pc' := 78) rfl rfl rfl ?_
  refine X_iaload (w := I (q_65_9 + 2) x1.toNatClampNeg) (show decode (mB 151) 78 = .ok (.iaload, 1) by decide +kernel) (pc' := 79) rfl h_q_65_9.s2 hb78 rfl ?_
  refine X_iload_n (q := 2) (show decode (mB 151) 79 = .ok (.iload_n 2, 1) by decide +kernel) (pc' := 80) rfl rfl rfl ?_
  refine X_iload_n (q := 3) (show decode (mB 151) 80 = .ok (.iload_n 3, 1) by decide +kernel) (pc' := 81) rfl rfl rfl ?_
  exact X_callV (y := 151) (n := 3) (st := [.int x3, .int x2, .int (I (q_65_9 + 2) x1.toNatClampNeg), .ref 65]) (as := [.ref 65, .int (I (q_65_9 + 2) x1.toNatClampNeg), .int x2, .int x3]) (rest := []) (ls0 := [.ref 65, .int (I (q_65_9 + 2) x1.toNatClampNeg), .int x2, .int x3, .null, .null, .null]) (ci := 13) (show decode (mB 151) 81 = .ok (.invokevirtual 292, 3) by decide +kernel) (pc' := 84) rfl (by decide +kernel) (by decide +kernel) rfl (ls_65 hL) (by decide +kernel) rfl rfl rfl rfl rfl k
set_option maxRecDepth 4000 in
theorem b_X14_valueOf_84 {xs : Nat → Int32} {L d : Nat} {S : Nat → Shp} {I : Nat → Nat → Int32} {J : Nat → Nat → Int64} {R : Nat → Nat → Nat} {c : Nat × Nat} {Q : Option (Option Value) → MH → Prop} {x1 x2 x3 x4 sx0 : Int32}  (kt : ¬ x4 = 33 → X xs L (d + 1) 151 108 [.ref 65, .int x1, .int x2, .int x3, .int x4, .int sx0, .null] [] (S, I, J, R, c) Q) (kf : ¬ (¬ x4 = 33) → X xs L (d + 1) 151 93 [.ref 65, .int x1, .int x2, .int x3, .int x4, .int sx0, .null] [] (S, I, J, R, c) Q) : X xs L (d + 1) 151 84 [.ref 65, .int x1, .int x2, .int x3, .int x4, .null, .null] [.int sx0] (S, I, J, R, c) Q := by
  refine X_istore (q := 5) (ls' := [.ref 65, .int x1, .int x2, .int x3, .int x4, .int sx0, .null]) (show decode (mB 151) 84 = .ok (.istore 5, 2) by decide +kernel) (pc' := 86) rfl rfl ?_
  refine X_iload (q := 4) (show decode (mB 151) 86 = .ok (.iload 4, 2) by decide +kernel) (pc' := 88) rfl rfl ?_
  refine X_bipush (v := 33) (show decode (mB 151) 88 = .ok (.bipush 33, 2) by decide +kernel) (pc' := 90) rfl (by decide +kernel) ?_
  exact X_icmp_ne (tgt := 108) (show decode (mB 151) 90 = .ok (.if_icmp .ne 18, 3) by decide +kernel) rfl (pc' := 93) rfl kt kf
set_option maxRecDepth 4000 in
theorem b_X14_valueOf_93 {xs : Nat → Int32} {L d : Nat} {S : Nat → Shp} {I : Nat → Nat → Int32} {J : Nat → Nat → Int64} {R : Nat → Nat → Nat} {c : Nat × Nat} {Q : Option (Option Value) → MH → Prop} {x1 x2 x3 x4 x5 : Int32}  (kt : ¬ x5 = 2 → X xs L (d + 1) 151 103 [.ref 65, .int x1, .int x2, .int x3, .int x4, .int x5, .null] [] (S, I, J, R, c) Q) (kf : ¬ (¬ x5 = 2) → X xs L (d + 1) 151 99 [.ref 65, .int x1, .int x2, .int x3, .int x4, .int x5, .null] [] (S, I, J, R, c) Q) : X xs L (d + 1) 151 93 [.ref 65, .int x1, .int x2, .int x3, .int x4, .int x5, .null] [] (S, I, J, R, c) Q := by
  refine X_iload (q := 5) (show decode (mB 151) 93 = .ok (.iload 5, 2) by decide +kernel) (pc' := 95) rfl rfl ?_
  refine X_iconst (v := 2) (show decode (mB 151) 95 = .ok (.iconst 2, 1) by decide +kernel) (pc' := 96) rfl rfl ?_
  exact X_icmp_ne (tgt := 103) (show decode (mB 151) 96 = .ok (.if_icmp .ne 7, 3) by decide +kernel) rfl (pc' := 99) rfl kt kf
set_option maxRecDepth 4000 in
theorem b_X14_valueOf_99 {xs : Nat → Int32} {L d : Nat} {S : Nat → Shp} {I : Nat → Nat → Int32} {J : Nat → Nat → Int64} {R : Nat → Nat → Nat} {c : Nat × Nat} {Q : Option (Option Value) → MH → Prop} {x1 x2 x3 x4 x5 : Int32}  (k : X xs L (d + 1) 151 107 [.ref 65, .int x1, .int x2, .int x3, .int x4, .int x5, .null] [.int 2] (S, I, J, R, c) Q) : X xs L (d + 1) 151 99 [.ref 65, .int x1, .int x2, .int x3, .int x4, .int x5, .null] [] (S, I, J, R, c) Q := by
  refine X_iconst (v := 2) (show decode (mB 151) 99 = .ok (.iconst 2, 1) by decide +kernel) (pc' := 100) rfl rfl ?_
  refine X_goto (tgt := 107) (show decode (mB 151) 100 = .ok (.goto 7, 3) by decide +kernel) rfl ?_
  exact k
set_option maxRecDepth 4000 in
theorem b_X14_valueOf_103 {xs : Nat → Int32} {L d : Nat} {S : Nat → Shp} {I : Nat → Nat → Int32} {J : Nat → Nat → Int64} {R : Nat → Nat → Nat} {c : Nat × Nat} {Q : Option (Option Value) → MH → Prop} {x1 x2 x3 x4 x5 : Int32}  (k : X xs L (d + 1) 151 107 [.ref 65, .int x1, .int x2, .int x3, .int x4, .int x5, .null] [.int ((1 : Int32) - x5)] (S, I, J, R, c) Q) : X xs L (d + 1) 151 103 [.ref 65, .int x1, .int x2, .int x3, .int x4, .int x5, .null] [] (S, I, J, R, c) Q := by
  refine X_iconst (v := 1) (show decode (mB 151) 103 = .ok (.iconst 1, 1) by decide +kernel) (pc' := 104) rfl rfl ?_
  refine X_iload (q := 5) (show decode (mB 151) 104 = .ok (.iload 5, 2) by decide +kernel) (pc' := 106) rfl rfl ?_
  refine X_isub (show decode (mB 151) 106 = .ok (.isub, 1) by decide +kernel) (pc' := 107) rfl ?_
  exact k
set_option maxRecDepth 4000 in
theorem b_X14_valueOf_107 {xs : Nat → Int32} {L d : Nat} {S : Nat → Shp} {I : Nat → Nat → Int32} {J : Nat → Nat → Int64} {R : Nat → Nat → Nat} {c : Nat × Nat} {Q : Option (Option Value) → MH → Prop} {x1 x2 x3 x4 x5 sx0 : Int32}  (k : Q (some (some (.int sx0))) (S, I, J, R, c)) : X xs L (d + 1) 151 107 [.ref 65, .int x1, .int x2, .int x3, .int x4, .int x5, .null] [.int sx0] (S, I, J, R, c) Q := by
  exact X_ireturn (ty := .int) (show decode (mB 151) 107 = .ok (.ireturn, 1) by decide +kernel) (by decide +kernel) rfl k
set_option maxRecDepth 4000 in
theorem b_X14_valueOf_108 {xs : Nat → Int32} {L d : Nat} {S : Nat → Shp} {I : Nat → Nat → Int32} {J : Nat → Nat → Int64} {R : Nat → Nat → Nat} {c : Nat × Nat} {Q : Option (Option Value) → MH → Prop} {x1 x2 x3 x4 x5 : Int32} {q_65_9 : Nat} (hL : Lay S R) (hq_65_9 : R 65 9 = q_65_9) (h_q_65_9 : LyTr S R q_65_9) (hb117 : inb x1 2000 = true) (k : X xs L d 151 0 [.ref 65, .int (I (q_65_9 + 3) x1.toNatClampNeg), .int x2, .int x3, .null, .null, .null] [] (S, I, J, R, c) (Kc xs L (d + 1) 151 123 [.ref 65, .int x1, .int x2, .int x3, .int x4, .int x5, .null] [] Q)) : X xs L (d + 1) 151 108 [.ref 65, .int x1, .int x2, .int x3, .int x4, .int x5, .null] [] (S, I, J, R, c) Q := by
  refine X_aload_n (q := 0) (show decode (mB 151) 108 = .ok (.aload_n 0, 1) by decide +kernel) (pc' := 109) rfl rfl rfl ?_
  refine X_aload_n (q := 0) (show decode (mB 151) 109 = .ok (.aload_n 0, 1) by decide +kernel) (pc' := 110) rfl rfl rfl ?_
  refine X_getR (ci := 13) (f := 9) (q := q_65_9) (show decode (mB 151) 110 = .ok (.getfield 30, 3) by decide +kernel) (pc' := 113) rfl (ls_65 hL) (by decide +kernel) rfl hq_65_9 ?_
  refine X_getR (ci := 12) (f := 2) (q := (q_65_9 + 3)) (show decode (mB 151) 113 = .ok (.getfield 150, 3) by decide +kernel) (pc' := 116) rfl h_q_65_9.s0 (by decide +kernel) rfl h_q_65_9.r0_2 ?_
  refine X_iload_n (q := 1) (show decode (mB 151) 116 = .ok (.iload_n 1, 1) by decide +kernel) (pc' := 117) rfl rfl rfl ?_
  refine X_iaload (w := I (q_65_9 + 3) x1.toNatClampNeg) (show decode (mB 151) 117 = .ok (.iaload, 1) by decide +kernel) (pc' := 118) rfl h_q_65_9.s3 hb117 rfl ?_
  refine X_iload_n (q := 2) (show decode (mB 151) 118 = .ok (.iload_n 2, 1) by decide +kernel) (pc' := 119) rfl rfl rfl ?_
  refine X_iload_n (q := 3) (show decode (mB 151) 119 = .ok (.iload_n 3, 1) by decide +kernel) (pc' := 120) rfl rfl rfl ?_
  exact X_callV (y := 151) (n := 3) (st := [.int x3, .int x2, .int (I (q_65_9 + 3) x1.toNatClampNeg), .ref 65]) (as := [.ref 65, .int (I (q_65_9 + 3) x1.toNatClampNeg), .int x2, .int x3]) (rest := []) (ls0 := [.ref 65, .int (I (q_65_9 + 3) x1.toNatClampNeg), .int x2, .int x3, .null, .null, .null]) (ci := 13) (show decode (mB 151) 120 = .ok (.invokevirtual 292, 3) by decide +kernel) (pc' := 123) rfl (by decide +kernel) (by decide +kernel) rfl (ls_65 hL) (by decide +kernel) rfl rfl rfl rfl rfl k
set_option maxRecDepth 4000 in
theorem b_X14_valueOf_123 {xs : Nat → Int32} {L d : Nat} {S : Nat → Shp} {I : Nat → Nat → Int32} {J : Nat → Nat → Int64} {R : Nat → Nat → Nat} {c : Nat × Nat} {Q : Option (Option Value) → MH → Prop} {x1 x2 x3 x4 x5 sx0 : Int32}  (kt : ¬ x4 = 38 → X xs L (d + 1) 151 164 [.ref 65, .int x1, .int x2, .int x3, .int x4, .int x5, .int sx0] [] (S, I, J, R, c) Q) (kf : ¬ (¬ x4 = 38) → X xs L (d + 1) 151 132 [.ref 65, .int x1, .int x2, .int x3, .int x4, .int x5, .int sx0] [] (S, I, J, R, c) Q) : X xs L (d + 1) 151 123 [.ref 65, .int x1, .int x2, .int x3, .int x4, .int x5, .null] [.int sx0] (S, I, J, R, c) Q := by
  refine X_istore (q := 6) (ls' := [.ref 65, .int x1, .int x2, .int x3, .int x4, .int x5, .int sx0]) (show decode (mB 151) 123 = .ok (.istore 6, 2) by decide +kernel) (pc' := 125) rfl rfl ?_
  refine X_iload (q := 4) (show decode (mB 151) 125 = .ok (.iload 4, 2) by decide +kernel) (pc' := 127) rfl rfl ?_
  refine X_bipush (v := 38) (show decode (mB 151) 127 = .ok (.bipush 38, 2) by decide +kernel) (pc' := 129) rfl (by decide +kernel) ?_
  exact X_icmp_ne (tgt := 164) (show decode (mB 151) 129 = .ok (.if_icmp .ne 35, 3) by decide +kernel) rfl (pc' := 132) rfl kt kf
set_option maxRecDepth 4000 in
theorem b_X14_valueOf_132 {xs : Nat → Int32} {L d : Nat} {S : Nat → Shp} {I : Nat → Nat → Int32} {J : Nat → Nat → Int64} {R : Nat → Nat → Nat} {c : Nat × Nat} {Q : Option (Option Value) → MH → Prop} {x1 x2 x3 x4 x5 x6 : Int32}  (kt : x5 = 0 → X xs L (d + 1) 151 142 [.ref 65, .int x1, .int x2, .int x3, .int x4, .int x5, .int x6] [] (S, I, J, R, c) Q) (kf : ¬ (x5 = 0) → X xs L (d + 1) 151 137 [.ref 65, .int x1, .int x2, .int x3, .int x4, .int x5, .int x6] [] (S, I, J, R, c) Q) : X xs L (d + 1) 151 132 [.ref 65, .int x1, .int x2, .int x3, .int x4, .int x5, .int x6] [] (S, I, J, R, c) Q := by
  refine X_iload (q := 5) (show decode (mB 151) 132 = .ok (.iload 5, 2) by decide +kernel) (pc' := 134) rfl rfl ?_
  exact X_if_eq (tgt := 142) (show decode (mB 151) 134 = .ok (.ifCond .eq 8, 3) by decide +kernel) rfl (pc' := 137) rfl kt kf
set_option maxRecDepth 4000 in
theorem b_X14_valueOf_137 {xs : Nat → Int32} {L d : Nat} {S : Nat → Shp} {I : Nat → Nat → Int32} {J : Nat → Nat → Int64} {R : Nat → Nat → Nat} {c : Nat × Nat} {Q : Option (Option Value) → MH → Prop} {x1 x2 x3 x4 x5 x6 : Int32}  (kt : ¬ x6 = 0 → X xs L (d + 1) 151 146 [.ref 65, .int x1, .int x2, .int x3, .int x4, .int x5, .int x6] [] (S, I, J, R, c) Q) (kf : ¬ (¬ x6 = 0) → X xs L (d + 1) 151 142 [.ref 65, .int x1, .int x2, .int x3, .int x4, .int x5, .int x6] [] (S, I, J, R, c) Q) : X xs L (d + 1) 151 137 [.ref 65, .int x1, .int x2, .int x3, .int x4, .int x5, .int x6] [] (S, I, J, R, c) Q := by
  refine X_iload (q := 6) (show decode (mB 151) 137 = .ok (.iload 6, 2) by decide +kernel) (pc' := 139) rfl rfl ?_
  exact X_if_ne (tgt := 146) (show decode (mB 151) 139 = .ok (.ifCond .ne 7, 3) by decide +kernel) rfl (pc' := 142) rfl kt kf
set_option maxRecDepth 4000 in
theorem b_X14_valueOf_142 {xs : Nat → Int32} {L d : Nat} {S : Nat → Shp} {I : Nat → Nat → Int32} {J : Nat → Nat → Int64} {R : Nat → Nat → Nat} {c : Nat × Nat} {Q : Option (Option Value) → MH → Prop} {x1 x2 x3 x4 x5 x6 : Int32}  (k : X xs L (d + 1) 151 163 [.ref 65, .int x1, .int x2, .int x3, .int x4, .int x5, .int x6] [.int 0] (S, I, J, R, c) Q) : X xs L (d + 1) 151 142 [.ref 65, .int x1, .int x2, .int x3, .int x4, .int x5, .int x6] [] (S, I, J, R, c) Q := by
  refine X_iconst (v := 0) (show decode (mB 151) 142 = .ok (.iconst 0, 1) by decide +kernel) (pc' := 143) rfl rfl ?_
  refine X_goto (tgt := 163) (show decode (mB 151) 143 = .ok (.goto 20, 3) by decide +kernel) rfl ?_
  exact k
set_option maxRecDepth 4000 in
theorem b_X14_valueOf_146 {xs : Nat → Int32} {L d : Nat} {S : Nat → Shp} {I : Nat → Nat → Int32} {J : Nat → Nat → Int64} {R : Nat → Nat → Nat} {c : Nat × Nat} {Q : Option (Option Value) → MH → Prop} {x1 x2 x3 x4 x5 x6 : Int32}  (kt : ¬ x5 = 1 → X xs L (d + 1) 151 162 [.ref 65, .int x1, .int x2, .int x3, .int x4, .int x5, .int x6] [] (S, I, J, R, c) Q) (kf : ¬ (¬ x5 = 1) → X xs L (d + 1) 151 152 [.ref 65, .int x1, .int x2, .int x3, .int x4, .int x5, .int x6] [] (S, I, J, R, c) Q) : X xs L (d + 1) 151 146 [.ref 65, .int x1, .int x2, .int x3, .int x4, .int x5, .int x6] [] (S, I, J, R, c) Q := by
  refine X_iload (q := 5) (show decode (mB 151) 146 = .ok (.iload 5, 2) by decide +kernel) (pc' := 148) rfl rfl ?_
  refine X_iconst (v := 1) (show decode (mB 151) 148 = .ok (.iconst 1, 1) by decide +kernel) (pc' := 149) rfl rfl ?_
  exact X_icmp_ne (tgt := 162) (show decode (mB 151) 149 = .ok (.if_icmp .ne 13, 3) by decide +kernel) rfl (pc' := 152) rfl kt kf
set_option maxRecDepth 4000 in
theorem b_X14_valueOf_152 {xs : Nat → Int32} {L d : Nat} {S : Nat → Shp} {I : Nat → Nat → Int32} {J : Nat → Nat → Int64} {R : Nat → Nat → Nat} {c : Nat × Nat} {Q : Option (Option Value) → MH → Prop} {x1 x2 x3 x4 x5 x6 : Int32}  (kt : ¬ x6 = 1 → X xs L (d + 1) 151 162 [.ref 65, .int x1, .int x2, .int x3, .int x4, .int x5, .int x6] [] (S, I, J, R, c) Q) (kf : ¬ (¬ x6 = 1) → X xs L (d + 1) 151 158 [.ref 65, .int x1, .int x2, .int x3, .int x4, .int x5, .int x6] [] (S, I, J, R, c) Q) : X xs L (d + 1) 151 152 [.ref 65, .int x1, .int x2, .int x3, .int x4, .int x5, .int x6] [] (S, I, J, R, c) Q := by
  refine X_iload (q := 6) (show decode (mB 151) 152 = .ok (.iload 6, 2) by decide +kernel) (pc' := 154) rfl rfl ?_
  refine X_iconst (v := 1) (show decode (mB 151) 154 = .ok (.iconst 1, 1) by decide +kernel) (pc' := 155) rfl rfl ?_
  exact X_icmp_ne (tgt := 162) (show decode (mB 151) 155 = .ok (.if_icmp .ne 7, 3) by decide +kernel) rfl (pc' := 158) rfl kt kf
set_option maxRecDepth 4000 in
theorem b_X14_valueOf_158 {xs : Nat → Int32} {L d : Nat} {S : Nat → Shp} {I : Nat → Nat → Int32} {J : Nat → Nat → Int64} {R : Nat → Nat → Nat} {c : Nat × Nat} {Q : Option (Option Value) → MH → Prop} {x1 x2 x3 x4 x5 x6 : Int32}  (k : X xs L (d + 1) 151 163 [.ref 65, .int x1, .int x2, .int x3, .int x4, .int x5, .int x6] [.int 1] (S, I, J, R, c) Q) : X xs L (d + 1) 151 158 [.ref 65, .int x1, .int x2, .int x3, .int x4, .int x5, .int x6] [] (S, I, J, R, c) Q := by
  refine X_iconst (v := 1) (show decode (mB 151) 158 = .ok (.iconst 1, 1) by decide +kernel) (pc' := 159) rfl rfl ?_
  refine X_goto (tgt := 163) (show decode (mB 151) 159 = .ok (.goto 4, 3) by decide +kernel) rfl ?_
  exact k
set_option maxRecDepth 4000 in
theorem b_X14_valueOf_162 {xs : Nat → Int32} {L d : Nat} {S : Nat → Shp} {I : Nat → Nat → Int32} {J : Nat → Nat → Int64} {R : Nat → Nat → Nat} {c : Nat × Nat} {Q : Option (Option Value) → MH → Prop} {x1 x2 x3 x4 x5 x6 : Int32}  (k : X xs L (d + 1) 151 163 [.ref 65, .int x1, .int x2, .int x3, .int x4, .int x5, .int x6] [.int 2] (S, I, J, R, c) Q) : X xs L (d + 1) 151 162 [.ref 65, .int x1, .int x2, .int x3, .int x4, .int x5, .int x6] [] (S, I, J, R, c) Q := by
  refine X_iconst (v := 2) (show decode (mB 151) 162 = .ok (.iconst 2, 1) by decide +kernel) (pc' := 163) rfl rfl ?_
  exact k
set_option maxRecDepth 4000 in
theorem b_X14_valueOf_163 {xs : Nat → Int32} {L d : Nat} {S : Nat → Shp} {I : Nat → Nat → Int32} {J : Nat → Nat → Int64} {R : Nat → Nat → Nat} {c : Nat × Nat} {Q : Option (Option Value) → MH → Prop} {x1 x2 x3 x4 x5 x6 sx0 : Int32}  (k : Q (some (some (.int sx0))) (S, I, J, R, c)) : X xs L (d + 1) 151 163 [.ref 65, .int x1, .int x2, .int x3, .int x4, .int x5, .int x6] [.int sx0] (S, I, J, R, c) Q := by
  exact X_ireturn (ty := .int) (show decode (mB 151) 163 = .ok (.ireturn, 1) by decide +kernel) (by decide +kernel) rfl k
set_option maxRecDepth 4000 in
theorem b_X14_valueOf_164 {xs : Nat → Int32} {L d : Nat} {S : Nat → Shp} {I : Nat → Nat → Int32} {J : Nat → Nat → Int64} {R : Nat → Nat → Nat} {c : Nat × Nat} {Q : Option (Option Value) → MH → Prop} {x1 x2 x3 x4 x5 x6 : Int32}  (kt : ¬ x4 = 124 → X xs L (d + 1) 151 203 [.ref 65, .int x1, .int x2, .int x3, .int x4, .int x5, .int x6] [] (S, I, J, R, c) Q) (kf : ¬ (¬ x4 = 124) → X xs L (d + 1) 151 171 [.ref 65, .int x1, .int x2, .int x3, .int x4, .int x5, .int x6] [] (S, I, J, R, c) Q) : X xs L (d + 1) 151 164 [.ref 65, .int x1, .int x2, .int x3, .int x4, .int x5, .int x6] [] (S, I, J, R, c) Q := by
  refine X_iload (q := 4) (show decode (mB 151) 164 = .ok (.iload 4, 2) by decide +kernel) (pc' := 166) rfl rfl ?_
  refine X_bipush (v := 124) (show decode (mB 151) 166 = .ok (.bipush 124, 2) by decide +kernel) (pc' := 168) rfl (by decide +kernel) ?_
  exact X_icmp_ne (tgt := 203) (show decode (mB 151) 168 = .ok (.if_icmp .ne 35, 3) by decide +kernel) rfl (pc' := 171) rfl kt kf
set_option maxRecDepth 4000 in
theorem b_X14_valueOf_171 {xs : Nat → Int32} {L d : Nat} {S : Nat → Shp} {I : Nat → Nat → Int32} {J : Nat → Nat → Int64} {R : Nat → Nat → Nat} {c : Nat × Nat} {Q : Option (Option Value) → MH → Prop} {x1 x2 x3 x4 x5 x6 : Int32}  (kt : x5 = 1 → X xs L (d + 1) 151 183 [.ref 65, .int x1, .int x2, .int x3, .int x4, .int x5, .int x6] [] (S, I, J, R, c) Q) (kf : ¬ (x5 = 1) → X xs L (d + 1) 151 177 [.ref 65, .int x1, .int x2, .int x3, .int x4, .int x5, .int x6] [] (S, I, J, R, c) Q) : X xs L (d + 1) 151 171 [.ref 65, .int x1, .int x2, .int x3, .int x4, .int x5, .int x6] [] (S, I, J, R, c) Q := by
  refine X_iload (q := 5) (show decode (mB 151) 171 = .ok (.iload 5, 2) by decide +kernel) (pc' := 173) rfl rfl ?_
  refine X_iconst (v := 1) (show decode (mB 151) 173 = .ok (.iconst 1, 1) by decide +kernel) (pc' := 174) rfl rfl ?_
  exact X_icmp_eq (tgt := 183) (show decode (mB 151) 174 = .ok (.if_icmp .eq 9, 3) by decide +kernel) rfl (pc' := 177) rfl kt kf
set_option maxRecDepth 4000 in
theorem b_X14_valueOf_177 {xs : Nat → Int32} {L d : Nat} {S : Nat → Shp} {I : Nat → Nat → Int32} {J : Nat → Nat → Int64} {R : Nat → Nat → Nat} {c : Nat × Nat} {Q : Option (Option Value) → MH → Prop} {x1 x2 x3 x4 x5 x6 : Int32}  (kt : ¬ x6 = 1 → X xs L (d + 1) 151 187 [.ref 65, .int x1, .int x2, .int x3, .int x4, .int x5, .int x6] [] (S, I, J, R, c) Q) (kf : ¬ (¬ x6 = 1) → X xs L (d + 1) 151 183 [.ref 65, .int x1, .int x2, .int x3, .int x4, .int x5, .int x6] [] (S, I, J, R, c) Q) : X xs L (d + 1) 151 177 [.ref 65, .int x1, .int x2, .int x3, .int x4, .int x5, .int x6] [] (S, I, J, R, c) Q := by
  refine X_iload (q := 6) (show decode (mB 151) 177 = .ok (.iload 6, 2) by decide +kernel) (pc' := 179) rfl rfl ?_
  refine X_iconst (v := 1) (show decode (mB 151) 179 = .ok (.iconst 1, 1) by decide +kernel) (pc' := 180) rfl rfl ?_
  exact X_icmp_ne (tgt := 187) (show decode (mB 151) 180 = .ok (.if_icmp .ne 7, 3) by decide +kernel) rfl (pc' := 183) rfl kt kf
set_option maxRecDepth 4000 in
theorem b_X14_valueOf_183 {xs : Nat → Int32} {L d : Nat} {S : Nat → Shp} {I : Nat → Nat → Int32} {J : Nat → Nat → Int64} {R : Nat → Nat → Nat} {c : Nat × Nat} {Q : Option (Option Value) → MH → Prop} {x1 x2 x3 x4 x5 x6 : Int32}  (k : X xs L (d + 1) 151 202 [.ref 65, .int x1, .int x2, .int x3, .int x4, .int x5, .int x6] [.int 1] (S, I, J, R, c) Q) : X xs L (d + 1) 151 183 [.ref 65, .int x1, .int x2, .int x3, .int x4, .int x5, .int x6] [] (S, I, J, R, c) Q := by
  refine X_iconst (v := 1) (show decode (mB 151) 183 = .ok (.iconst 1, 1) by decide +kernel) (pc' := 184) rfl rfl ?_
  refine X_goto (tgt := 202) (show decode (mB 151) 184 = .ok (.goto 18, 3) by decide +kernel) rfl ?_
  exact k
set_option maxRecDepth 4000 in
theorem b_X14_valueOf_187 {xs : Nat → Int32} {L d : Nat} {S : Nat → Shp} {I : Nat → Nat → Int32} {J : Nat → Nat → Int64} {R : Nat → Nat → Nat} {c : Nat × Nat} {Q : Option (Option Value) → MH → Prop} {x1 x2 x3 x4 x5 x6 : Int32}  (kt : ¬ x5 = 0 → X xs L (d + 1) 151 201 [.ref 65, .int x1, .int x2, .int x3, .int x4, .int x5, .int x6] [] (S, I, J, R, c) Q) (kf : ¬ (¬ x5 = 0) → X xs L (d + 1) 151 192 [.ref 65, .int x1, .int x2, .int x3, .int x4, .int x5, .int x6] [] (S, I, J, R, c) Q) : X xs L (d + 1) 151 187 [.ref 65, .int x1, .int x2, .int x3, .int x4, .int x5, .int x6] [] (S, I, J, R, c) Q := by
  refine X_iload (q := 5) (show decode (mB 151) 187 = .ok (.iload 5, 2) by decide +kernel) (pc' := 189) rfl rfl ?_
  exact X_if_ne (tgt := 201) (show decode (mB 151) 189 = .ok (.ifCond .ne 12, 3) by decide +kernel) rfl (pc' := 192) rfl kt kf
set_option maxRecDepth 4000 in
theorem b_X14_valueOf_192 {xs : Nat → Int32} {L d : Nat} {S : Nat → Shp} {I : Nat → Nat → Int32} {J : Nat → Nat → Int64} {R : Nat → Nat → Nat} {c : Nat × Nat} {Q : Option (Option Value) → MH → Prop} {x1 x2 x3 x4 x5 x6 : Int32}  (kt : ¬ x6 = 0 → X xs L (d + 1) 151 201 [.ref 65, .int x1, .int x2, .int x3, .int x4, .int x5, .int x6] [] (S, I, J, R, c) Q) (kf : ¬ (¬ x6 = 0) → X xs L (d + 1) 151 197 [.ref 65, .int x1, .int x2, .int x3, .int x4, .int x5, .int x6] [] (S, I, J, R, c) Q) : X xs L (d + 1) 151 192 [.ref 65, .int x1, .int x2, .int x3, .int x4, .int x5, .int x6] [] (S, I, J, R, c) Q := by
  refine X_iload (q := 6) (show decode (mB 151) 192 = .ok (.iload 6, 2) by decide +kernel) (pc' := 194) rfl rfl ?_
  exact X_if_ne (tgt := 201) (show decode (mB 151) 194 = .ok (.ifCond .ne 7, 3) by decide +kernel) rfl (pc' := 197) rfl kt kf
set_option maxRecDepth 4000 in
theorem b_X14_valueOf_197 {xs : Nat → Int32} {L d : Nat} {S : Nat → Shp} {I : Nat → Nat → Int32} {J : Nat → Nat → Int64} {R : Nat → Nat → Nat} {c : Nat × Nat} {Q : Option (Option Value) → MH → Prop} {x1 x2 x3 x4 x5 x6 : Int32}  (k : X xs L (d + 1) 151 202 [.ref 65, .int x1, .int x2, .int x3, .int x4, .int x5, .int x6] [.int 0] (S, I, J, R, c) Q) : X xs L (d + 1) 151 197 [.ref 65, .int x1, .int x2, .int x3, .int x4, .int x5, .int x6] [] (S, I, J, R, c) Q := by
  refine X_iconst (v := 0) (show decode (mB 151) 197 = .ok (.iconst 0, 1) by decide +kernel) (pc' := 198) rfl rfl ?_
  refine X_goto (tgt := 202) (show decode (mB 151) 198 = .ok (.goto 4, 3) by decide +kernel) rfl ?_
  exact k
set_option maxRecDepth 4000 in
theorem b_X14_valueOf_201 {xs : Nat → Int32} {L d : Nat} {S : Nat → Shp} {I : Nat → Nat → Int32} {J : Nat → Nat → Int64} {R : Nat → Nat → Nat} {c : Nat × Nat} {Q : Option (Option Value) → MH → Prop} {x1 x2 x3 x4 x5 x6 : Int32}  (k : X xs L (d + 1) 151 202 [.ref 65, .int x1, .int x2, .int x3, .int x4, .int x5, .int x6] [.int 2] (S, I, J, R, c) Q) : X xs L (d + 1) 151 201 [.ref 65, .int x1, .int x2, .int x3, .int x4, .int x5, .int x6] [] (S, I, J, R, c) Q := by
  refine X_iconst (v := 2) (show decode (mB 151) 201 = .ok (.iconst 2, 1) by decide +kernel) (pc' := 202) rfl rfl ?_
  exact k
set_option maxRecDepth 4000 in
theorem b_X14_valueOf_202 {xs : Nat → Int32} {L d : Nat} {S : Nat → Shp} {I : Nat → Nat → Int32} {J : Nat → Nat → Int64} {R : Nat → Nat → Nat} {c : Nat × Nat} {Q : Option (Option Value) → MH → Prop} {x1 x2 x3 x4 x5 x6 sx0 : Int32}  (k : Q (some (some (.int sx0))) (S, I, J, R, c)) : X xs L (d + 1) 151 202 [.ref 65, .int x1, .int x2, .int x3, .int x4, .int x5, .int x6] [.int sx0] (S, I, J, R, c) Q := by
  exact X_ireturn (ty := .int) (show decode (mB 151) 202 = .ok (.ireturn, 1) by decide +kernel) (by decide +kernel) rfl k
set_option maxRecDepth 4000 in
theorem b_X14_valueOf_203 {xs : Nat → Int32} {L d : Nat} {S : Nat → Shp} {I : Nat → Nat → Int32} {J : Nat → Nat → Int64} {R : Nat → Nat → Nat} {c : Nat × Nat} {Q : Option (Option Value) → MH → Prop} {x1 x2 x3 x4 x5 x6 : Int32}  (kt : x5 = 2 → X xs L (d + 1) 151 215 [.ref 65, .int x1, .int x2, .int x3, .int x4, .int x5, .int x6] [] (S, I, J, R, c) Q) (kf : ¬ (x5 = 2) → X xs L (d + 1) 151 209 [.ref 65, .int x1, .int x2, .int x3, .int x4, .int x5, .int x6] [] (S, I, J, R, c) Q) : X xs L (d + 1) 151 203 [.ref 65, .int x1, .int x2, .int x3, .int x4, .int x5, .int x6] [] (S, I, J, R, c) Q := by
  refine X_iload (q := 5) (show decode (mB 151) 203 = .ok (.iload 5, 2) by decide +kernel) (pc' := 205) rfl rfl ?_
  refine X_iconst (v := 2) (show decode (mB 151) 205 = .ok (.iconst 2, 1) by decide +kernel) (pc' := 206) rfl rfl ?_
  exact X_icmp_eq (tgt := 215) (show decode (mB 151) 206 = .ok (.if_icmp .eq 9, 3) by decide +kernel) rfl (pc' := 209) rfl kt kf
set_option maxRecDepth 4000 in
theorem b_X14_valueOf_209 {xs : Nat → Int32} {L d : Nat} {S : Nat → Shp} {I : Nat → Nat → Int32} {J : Nat → Nat → Int64} {R : Nat → Nat → Nat} {c : Nat × Nat} {Q : Option (Option Value) → MH → Prop} {x1 x2 x3 x4 x5 x6 : Int32}  (kt : ¬ x6 = 2 → X xs L (d + 1) 151 219 [.ref 65, .int x1, .int x2, .int x3, .int x4, .int x5, .int x6] [] (S, I, J, R, c) Q) (kf : ¬ (¬ x6 = 2) → X xs L (d + 1) 151 215 [.ref 65, .int x1, .int x2, .int x3, .int x4, .int x5, .int x6] [] (S, I, J, R, c) Q) : X xs L (d + 1) 151 209 [.ref 65, .int x1, .int x2, .int x3, .int x4, .int x5, .int x6] [] (S, I, J, R, c) Q := by
  refine X_iload (q := 6) (show decode (mB 151) 209 = .ok (.iload 6, 2) by decide +kernel) (pc' := 211) rfl rfl ?_
  refine X_iconst (v := 2) (show decode (mB 151) 211 = .ok (.iconst 2, 1) by decide +kernel) (pc' := 212) rfl rfl ?_
  exact X_icmp_ne (tgt := 219) (show decode (mB 151) 212 = .ok (.if_icmp .ne 7, 3) by decide +kernel) rfl (pc' := 215) rfl kt kf
set_option maxRecDepth 4000 in
theorem b_X14_valueOf_215 {xs : Nat → Int32} {L d : Nat} {S : Nat → Shp} {I : Nat → Nat → Int32} {J : Nat → Nat → Int64} {R : Nat → Nat → Nat} {c : Nat × Nat} {Q : Option (Option Value) → MH → Prop} {x1 x2 x3 x4 x5 x6 : Int32}  (k : X xs L (d + 1) 151 224 [.ref 65, .int x1, .int x2, .int x3, .int x4, .int x5, .int x6] [.int 2] (S, I, J, R, c) Q) : X xs L (d + 1) 151 215 [.ref 65, .int x1, .int x2, .int x3, .int x4, .int x5, .int x6] [] (S, I, J, R, c) Q := by
  refine X_iconst (v := 2) (show decode (mB 151) 215 = .ok (.iconst 2, 1) by decide +kernel) (pc' := 216) rfl rfl ?_
  refine X_goto (tgt := 224) (show decode (mB 151) 216 = .ok (.goto 8, 3) by decide +kernel) rfl ?_
  exact k
set_option maxRecDepth 4000 in
theorem b_X14_valueOf_219 {xs : Nat → Int32} {L d : Nat} {S : Nat → Shp} {I : Nat → Nat → Int32} {J : Nat → Nat → Int64} {R : Nat → Nat → Nat} {c : Nat × Nat} {Q : Option (Option Value) → MH → Prop} {x1 x2 x3 x4 x5 x6 : Int32}  (k : X xs L (d + 1) 151 224 [.ref 65, .int x1, .int x2, .int x3, .int x4, .int x5, .int x6] [.int (x5 ^^^ x6)] (S, I, J, R, c) Q) : X xs L (d + 1) 151 219 [.ref 65, .int x1, .int x2, .int x3, .int x4, .int x5, .int x6] [] (S, I, J, R, c) Q := by
  refine X_iload (q := 5) (show decode (mB 151) 219 = .ok (.iload 5, 2) by decide +kernel) (pc' := 221) rfl rfl ?_
  refine X_iload (q := 6) (show decode (mB 151) 221 = .ok (.iload 6, 2) by decide +kernel) (pc' := 223) rfl rfl ?_
  refine X_ixor (show decode (mB 151) 223 = .ok (.ixor, 1) by decide +kernel) (pc' := 224) rfl ?_
  exact k
set_option maxRecDepth 4000 in
theorem b_X14_valueOf_224 {xs : Nat → Int32} {L d : Nat} {S : Nat → Shp} {I : Nat → Nat → Int32} {J : Nat → Nat → Int64} {R : Nat → Nat → Nat} {c : Nat × Nat} {Q : Option (Option Value) → MH → Prop} {x1 x2 x3 x4 x5 x6 sx0 : Int32}  (k : Q (some (some (.int sx0))) (S, I, J, R, c)) : X xs L (d + 1) 151 224 [.ref 65, .int x1, .int x2, .int x3, .int x4, .int x5, .int x6] [.int sx0] (S, I, J, R, c) Q := by
  exact X_ireturn (ty := .int) (show decode (mB 151) 224 = .ok (.ireturn, 1) by decide +kernel) (by decide +kernel) rfl k
set_option maxRecDepth 4000 in
theorem b_X14_covers_0 {xs : Nat → Int32} {L d : Nat} {S : Nat → Shp} {I : Nat → Nat → Int32} {J : Nat → Nat → Int64} {R : Nat → Nat → Nat} {c : Nat × Nat} {Q : Option (Option Value) → MH → Prop} {r0 : Nat} {x1 x2 x3 : Int32} (h_r0 : LyCs S R r0) (hb5 : inb x1 48 = true) (kt : ¬ (I (r0 + 1) x1.toNatClampNeg) = x2 → X xs L d 152 34 [.ref r0, .int x1, .int x2, .int x3] [] (S, I, J, R, c) Q) (kf : ¬ (¬ (I (r0 + 1) x1.toNatClampNeg) = x2) → X xs L d 152 10 [.ref r0, .int x1, .int x2, .int x3] [] (S, I, J, R, c) Q) : X xs L d 152 0 [.ref r0, .int x1, .int x2, .int x3] [] (S, I, J, R, c) Q := by
  refine X_aload_n (q := 0) (show decode (mB 152) 0 = .ok (.aload_n 0, 1) by decide +kernel) (pc' := 1) rfl rfl rfl ?_
  refine X_getR (ci := 10) (f := 0) (q := (r0 + 1)) (show decode (mB 152) 1 = .ok (.getfield 241, 3) by decide +kernel) (pc' := 4) rfl h_r0.s0 (by decide +kernel) rfl h_r0.r0_0 ?_
  refine X_iload_n (q := 1) (show decode (mB 152) 4 = .ok (.iload_n 1, 1) by decide +kernel) (pc' := 5) rfl rfl rfl ?_
  refine X_iaload (w := I (r0 + 1) x1.toNatClampNeg) (show decode (mB 152) 5 = .ok (.iaload, 1) by decide +kernel) (pc' := 6) rfl h_r0.s1 hb5 rfl ?_
  refine X_iload_n (q := 2) (show decode (mB 152) 6 = .ok (.iload_n 2, 1) by decide +kernel) (pc' := 7) rfl rfl rfl ?_
  exact X_icmp_ne (tgt := 34) (show decode (mB 152) 7 = .ok (.if_icmp .ne 27, 3) by decide +kernel) rfl (pc' := 10) rfl kt kf
set_option maxRecDepth 4000 in
theorem b_X14_covers_10 {xs : Nat → Int32} {L d : Nat} {S : Nat → Shp} {I : Nat → Nat → Int32} {J : Nat → Nat → Int64} {R : Nat → Nat → Nat} {c : Nat × Nat} {Q : Option (Option Value) → MH → Prop} {r0 : Nat} {x1 x2 x3 : Int32} (h_r0 : LyCs S R r0) (hb16 : inb x1 48 = true) (kt : x3 < (I (r0 + 4) x1.toNatClampNeg) → X xs L d 152 34 [.ref r0, .int x1, .int x2, .int x3] [] (S, I, J, R, c) Q) (kf : ¬ (x3 < (I (r0 + 4) x1.toNatClampNeg)) → X xs L d 152 20 [.ref r0, .int x1, .int x2, .int x3] [] (S, I, J, R, c) Q) : X xs L d 152 10 [.ref r0, .int x1, .int x2, .int x3] [] (S, I, J, R, c) Q := by
  refine X_iload_n (q := 3) (show decode (mB 152) 10 = .ok (.iload_n 3, 1) by decide +kernel) (pc' := 11) rfl rfl rfl ?_
  refine X_aload_n (q := 0) (show decode (mB 152) 11 = .ok (.aload_n 0, 1) by decide +kernel) (pc' := 12) rfl rfl rfl ?_
  refine X_getR (ci := 10) (f := 3) (q := (r0 + 4)) (show decode (mB 152) 12 = .ok (.getfield 250, 3) by decide +kernel) (pc' := 15) rfl h_r0.s0 (by decide +kernel) rfl h_r0.r0_3 ?_
  refine X_iload_n (q := 1) (show decode (mB 152) 15 = .ok (.iload_n 1, 1) by decide +kernel) (pc' := 16) rfl rfl rfl ?_
  refine X_iaload (w := I (r0 + 4) x1.toNatClampNeg) (show decode (mB 152) 16 = .ok (.iaload, 1) by decide +kernel) (pc' := 17) rfl h_r0.s4 hb16 rfl ?_
  exact X_icmp_lt (tgt := 34) (show decode (mB 152) 17 = .ok (.if_icmp .lt 17, 3) by decide +kernel) rfl (pc' := 20) rfl kt kf
set_option maxRecDepth 4000 in
theorem b_X14_covers_20 {xs : Nat → Int32} {L d : Nat} {S : Nat → Shp} {I : Nat → Nat → Int32} {J : Nat → Nat → Int64} {R : Nat → Nat → Nat} {c : Nat × Nat} {Q : Option (Option Value) → MH → Prop} {r0 : Nat} {x1 x2 x3 : Int32} (h_r0 : LyCs S R r0) (hb26 : inb x1 48 = true) (kt : (I (r0 + 5) x1.toNatClampNeg) < x3 → X xs L d 152 34 [.ref r0, .int x1, .int x2, .int x3] [] (S, I, J, R, c) Q) (kf : ¬ ((I (r0 + 5) x1.toNatClampNeg) < x3) → X xs L d 152 30 [.ref r0, .int x1, .int x2, .int x3] [] (S, I, J, R, c) Q) : X xs L d 152 20 [.ref r0, .int x1, .int x2, .int x3] [] (S, I, J, R, c) Q := by
  refine X_iload_n (q := 3) (show decode (mB 152) 20 = .ok (.iload_n 3, 1) by decide +kernel) (pc' := 21) rfl rfl rfl ?_
  refine X_aload_n (q := 0) (show decode (mB 152) 21 = .ok (.aload_n 0, 1) by decide +kernel) (pc' := 22) rfl rfl rfl ?_
  refine X_getR (ci := 10) (f := 4) (q := (r0 + 5)) (show decode (mB 152) 22 = .ok (.getfield 253, 3) by decide +kernel) (pc' := 25) rfl h_r0.s0 (by decide +kernel) rfl h_r0.r0_4 ?_
  refine X_iload_n (q := 1) (show decode (mB 152) 25 = .ok (.iload_n 1, 1) by decide +kernel) (pc' := 26) rfl rfl rfl ?_
  refine X_iaload (w := I (r0 + 5) x1.toNatClampNeg) (show decode (mB 152) 26 = .ok (.iaload, 1) by decide +kernel) (pc' := 27) rfl h_r0.s5 hb26 rfl ?_
  exact X_icmp_gt (tgt := 34) (show decode (mB 152) 27 = .ok (.if_icmp .gt 7, 3) by decide +kernel) rfl (pc' := 30) rfl kt kf
set_option maxRecDepth 4000 in
theorem b_X14_covers_30 {xs : Nat → Int32} {L d : Nat} {S : Nat → Shp} {I : Nat → Nat → Int32} {J : Nat → Nat → Int64} {R : Nat → Nat → Nat} {c : Nat × Nat} {Q : Option (Option Value) → MH → Prop} {r0 : Nat} {x1 x2 x3 : Int32}  (k : X xs L d 152 35 [.ref r0, .int x1, .int x2, .int x3] [.int 1] (S, I, J, R, c) Q) : X xs L d 152 30 [.ref r0, .int x1, .int x2, .int x3] [] (S, I, J, R, c) Q := by
  refine X_iconst (v := 1) (show decode (mB 152) 30 = .ok (.iconst 1, 1) by decide +kernel) (pc' := 31) rfl rfl ?_
  refine X_goto (tgt := 35) (show decode (mB 152) 31 = .ok (.goto 4, 3) by decide +kernel) rfl ?_
  exact k
set_option maxRecDepth 4000 in
theorem b_X14_covers_34 {xs : Nat → Int32} {L d : Nat} {S : Nat → Shp} {I : Nat → Nat → Int32} {J : Nat → Nat → Int64} {R : Nat → Nat → Nat} {c : Nat × Nat} {Q : Option (Option Value) → MH → Prop} {r0 : Nat} {x1 x2 x3 : Int32}  (k : X xs L d 152 35 [.ref r0, .int x1, .int x2, .int x3] [.int 0] (S, I, J, R, c) Q) : X xs L d 152 34 [.ref r0, .int x1, .int x2, .int x3] [] (S, I, J, R, c) Q := by
  refine X_iconst (v := 0) (show decode (mB 152) 34 = .ok (.iconst 0, 1) by decide +kernel) (pc' := 35) rfl rfl ?_
  exact k
set_option maxRecDepth 4000 in
theorem b_X14_covers_35 {xs : Nat → Int32} {L d : Nat} {S : Nat → Shp} {I : Nat → Nat → Int32} {J : Nat → Nat → Int64} {R : Nat → Nat → Nat} {c : Nat × Nat} {Q : Option (Option Value) → MH → Prop} {r0 : Nat} {x1 x2 x3 sx0 : Int32} (hz35 : sx0 = 0 ∨ sx0 = 1) (k : Q (some (some (.int sx0))) (S, I, J, R, c)) : X xs L d 152 35 [.ref r0, .int x1, .int x2, .int x3] [.int sx0] (S, I, J, R, c) Q := by
  exact X_ireturn (ty := .boolean) (show decode (mB 152) 35 = .ok (.ireturn, 1) by decide +kernel) (by decide +kernel) (nz hz35) k
set_option maxRecDepth 4000 in
theorem b_X14_applies_0 {xs : Nat → Int32} {L d : Nat} {S : Nat → Shp} {I : Nat → Nat → Int32} {J : Nat → Nat → Int64} {R : Nat → Nat → Nat} {c : Nat × Nat} {Q : Option (Option Value) → MH → Prop} {x1 : Int32} {q_65_13 : Nat} (hL : Lay S R) (hq_65_13 : R 65 13 = q_65_13) (h_q_65_13 : LyCs S R q_65_13) (hb8 : inb x1 48 = true) (kt : (I (q_65_13 + 3) x1.toNatClampNeg) < 0 → X xs L (d + 1) 153 28 [.ref 65, .int x1] [] (S, I, J, R, c) Q) (kf : ¬ ((I (q_65_13 + 3) x1.toNatClampNeg) < 0) → X xs L (d + 1) 153 12 [.ref 65, .int x1] [] (S, I, J, R, c) Q) : X xs L (d + 1) 153 0 [.ref 65, .int x1] [] (S, I, J, R, c) Q := by
  refine X_aload_n (q := 0) (show decode (mB 153) 0 = .ok (.aload_n 0, 1) by decide +kernel) (pc' := 1) rfl rfl rfl ?_
  refine X_getR (ci := 13) (f := 13) (q := q_65_13) (show decode (mB 153) 1 = .ok (.getfield 233, 3) by decide +kernel) (pc' := 4) rfl (ls_65 hL) (by decide +kernel) rfl hq_65_13 ?_
  refine X_getR (ci := 10) (f := 2) (q := (q_65_13 + 3)) (show decode (mB 153) 4 = .ok (.getfield 247, 3) by decide +kernel) (pc' := 7) rfl h_q_65_13.s0 (by decide +kernel) rfl h_q_65_13.r0_2 ?_
  refine X_iload_n (q := 1) (show decode (mB 153) 7 = .ok (.iload_n 1, 1) by decide +kernel) (pc' := 8) rfl rfl rfl ?_
  refine X_iaload (w := I (q_65_13 + 3) x1.toNatClampNeg) (show decode (mB 153) 8 = .ok (.iaload, 1) by decide +kernel) (pc' := 9) rfl h_q_65_13.s3 hb8 rfl ?_
  exact X_if_lt (tgt := 28) (show decode (mB 153) 9 = .ok (.ifCond .lt 19, 3) by decide +kernel) rfl (pc' := 12) rfl kt kf
set_option maxRecDepth 4000 in
theorem b_X14_applies_12 {xs : Nat → Int32} {L d : Nat} {S : Nat → Shp} {I : Nat → Nat → Int32} {J : Nat → Nat → Int64} {R : Nat → Nat → Nat} {c : Nat × Nat} {Q : Option (Option Value) → MH → Prop} {x1 : Int32} {q_65_13 : Nat} (hL : Lay S R) (hq_65_13 : R 65 13 = q_65_13) (h_q_65_13 : LyCs S R q_65_13) (hb21 : inb x1 48 = true) (k : X xs L d 150 0 [.ref 65, .int (I (q_65_13 + 3) x1.toNatClampNeg)] [] (S, I, J, R, c) (Kc xs L (d + 1) 153 25 [.ref 65, .int x1] [] Q)) : X xs L (d + 1) 153 12 [.ref 65, .int x1] [] (S, I, J, R, c) Q := by
  refine X_aload_n (q := 0) (show decode (mB 153) 12 = .ok (.aload_n 0, 1) by decide +kernel) (pc' := 13) rfl rfl rfl ?_
  refine X_aload_n (q := 0) (show decode (mB 153) 13 = .ok (.aload_n 0, 1) by decide +kernel) (pc' := 14) rfl rfl rfl ?_
  refine X_getR (ci := 13) (f := 13) (q := q_65_13) (show decode (mB 153) 14 = .ok (.getfield 233, 3) by decide +kernel) (pc' := 17) rfl (ls_65 hL) (by decide +kernel) rfl hq_65_13 ?_
  refine X_getR (ci := 10) (f := 2) (q := (q_65_13 + 3)) (show decode (mB 153) 17 = .ok (.getfield 247, 3) by decide +kernel) (pc' := 20) rfl h_q_65_13.s0 (by decide +kernel) rfl h_q_65_13.r0_2 ?_
  refine X_iload_n (q := 1) (show decode (mB 153) 20 = .ok (.iload_n 1, 1) by decide +kernel) (pc' := 21) rfl rfl rfl ?_
  refine X_iaload (w := I (q_65_13 + 3) x1.toNatClampNeg) (show decode (mB 153) 21 = .ok (.iaload, 1) by decide +kernel) (pc' := 22) rfl h_q_65_13.s3 hb21 rfl ?_
  exact X_callV (y := 150) (n := 1) (st := [.int (I (q_65_13 + 3) x1.toNatClampNeg), .ref 65]) (as := [.ref 65, .int (I (q_65_13 + 3) x1.toNatClampNeg)]) (rest := []) (ls0 := [.ref 65, .int (I (q_65_13 + 3) x1.toNatClampNeg)]) (ci := 13) (show decode (mB 153) 22 = .ok (.invokevirtual 282, 3) by decide +kernel) (pc' := 25) rfl (by decide +kernel) (by decide +kernel) rfl (ls_65 hL) (by decide +kernel) rfl rfl rfl rfl rfl k
set_option maxRecDepth 4000 in
theorem b_X14_applies_25 {xs : Nat → Int32} {L d : Nat} {S : Nat → Shp} {I : Nat → Nat → Int32} {J : Nat → Nat → Int64} {R : Nat → Nat → Nat} {c : Nat × Nat} {Q : Option (Option Value) → MH → Prop} {x1 sx0 : Int32}  (kt : sx0 = 0 → X xs L (d + 1) 153 32 [.ref 65, .int x1] [] (S, I, J, R, c) Q) (kf : ¬ (sx0 = 0) → X xs L (d + 1) 153 28 [.ref 65, .int x1] [] (S, I, J, R, c) Q) : X xs L (d + 1) 153 25 [.ref 65, .int x1] [.int sx0] (S, I, J, R, c) Q := by
  exact X_if_eq (tgt := 32) (show decode (mB 153) 25 = .ok (.ifCond .eq 7, 3) by decide +kernel) rfl (pc' := 28) rfl kt kf
set_option maxRecDepth 4000 in
theorem b_X14_applies_28 {xs : Nat → Int32} {L d : Nat} {S : Nat → Shp} {I : Nat → Nat → Int32} {J : Nat → Nat → Int64} {R : Nat → Nat → Nat} {c : Nat × Nat} {Q : Option (Option Value) → MH → Prop} {x1 : Int32}  (k : X xs L (d + 1) 153 33 [.ref 65, .int x1] [.int 1] (S, I, J, R, c) Q) : X xs L (d + 1) 153 28 [.ref 65, .int x1] [] (S, I, J, R, c) Q := by
  refine X_iconst (v := 1) (show decode (mB 153) 28 = .ok (.iconst 1, 1) by decide +kernel) (pc' := 29) rfl rfl ?_
  refine X_goto (tgt := 33) (show decode (mB 153) 29 = .ok (.goto 4, 3) by decide +kernel) rfl ?_
  exact k
set_option maxRecDepth 4000 in
theorem b_X14_applies_32 {xs : Nat → Int32} {L d : Nat} {S : Nat → Shp} {I : Nat → Nat → Int32} {J : Nat → Nat → Int64} {R : Nat → Nat → Nat} {c : Nat × Nat} {Q : Option (Option Value) → MH → Prop} {x1 : Int32}  (k : X xs L (d + 1) 153 33 [.ref 65, .int x1] [.int 0] (S, I, J, R, c) Q) : X xs L (d + 1) 153 32 [.ref 65, .int x1] [] (S, I, J, R, c) Q := by
  refine X_iconst (v := 0) (show decode (mB 153) 32 = .ok (.iconst 0, 1) by decide +kernel) (pc' := 33) rfl rfl ?_
  exact k
set_option maxRecDepth 4000 in
theorem b_X14_applies_33 {xs : Nat → Int32} {L d : Nat} {S : Nat → Shp} {I : Nat → Nat → Int32} {J : Nat → Nat → Int64} {R : Nat → Nat → Nat} {c : Nat × Nat} {Q : Option (Option Value) → MH → Prop} {x1 sx0 : Int32} (hz33 : sx0 = 0 ∨ sx0 = 1) (k : Q (some (some (.int sx0))) (S, I, J, R, c)) : X xs L (d + 1) 153 33 [.ref 65, .int x1] [.int sx0] (S, I, J, R, c) Q := by
  exact X_ireturn (ty := .boolean) (show decode (mB 153) 33 = .ok (.ireturn, 1) by decide +kernel) (by decide +kernel) (nz hz33) k
set_option maxRecDepth 4000 in
theorem b_X14_work_0 {xs : Nat → Int32} {L d : Nat} {S : Nat → Shp} {I : Nat → Nat → Int32} {J : Nat → Nat → Int64} {R : Nat → Nat → Nat} {c : Nat × Nat} {Q : Option (Option Value) → MH → Prop} {x1 x2 : Int32} (hL : Lay S R) (hb5 : inb x1 40 = true) (kt : (I 117 x1.toNatClampNeg) = 0 → X xs L (d + 1) 154 10 [.ref 65, .int x1, .int x2, .null, .null, .null] [] (S, I, J, R, c) Q) (kf : ¬ ((I 117 x1.toNatClampNeg) = 0) → X xs L (d + 1) 154 9 [.ref 65, .int x1, .int x2, .null, .null, .null] [] (S, I, J, R, c) Q) : X xs L (d + 1) 154 0 [.ref 65, .int x1, .int x2, .null, .null, .null] [] (S, I, J, R, c) Q := by
  refine X_aload_n (q := 0) (show decode (mB 154) 0 = .ok (.aload_n 0, 1) by decide +kernel) (pc' := 1) rfl rfl rfl ?_
  refine X_getR (ci := 13) (f := 28) (q := 117) (show decode (mB 154) 1 = .ok (.getfield 77, 3) by decide +kernel) (pc' := 4) rfl (ls_65 hL) (by decide +kernel) rfl (lr_65_28 hL) ?_
  refine X_iload_n (q := 1) (show decode (mB 154) 4 = .ok (.iload_n 1, 1) by decide +kernel) (pc' := 5) rfl rfl rfl ?_
  refine X_zaload (w := I 117 x1.toNatClampNeg) (show decode (mB 154) 5 = .ok (.baload, 1) by decide +kernel) (pc' := 6) rfl (ls_117 hL) hb5 rfl ?_
  exact X_if_eq (tgt := 10) (show decode (mB 154) 6 = .ok (.ifCond .eq 4, 3) by decide +kernel) rfl (pc' := 9) rfl kt kf
set_option maxRecDepth 4000 in
theorem b_X14_work_9 {xs : Nat → Int32} {L d : Nat} {S : Nat → Shp} {I : Nat → Nat → Int32} {J : Nat → Nat → Int64} {R : Nat → Nat → Nat} {c : Nat × Nat} {Q : Option (Option Value) → MH → Prop} {x1 x2 : Int32}  (k : Q (some none) (S, I, J, R, c)) : X xs L (d + 1) 154 9 [.ref 65, .int x1, .int x2, .null, .null, .null] [] (S, I, J, R, c) Q := by
  exact X_return (show decode (mB 154) 9 = .ok (.return_, 1) by decide +kernel) (by decide +kernel) k
set_option maxRecDepth 4000 in
theorem b_X14_work_10 {xs : Nat → Int32} {L d : Nat} {S : Nat → Shp} {I : Nat → Nat → Int32} {J : Nat → Nat → Int64} {R : Nat → Nat → Nat} {c : Nat × Nat} {Q : Option (Option Value) → MH → Prop} {x1 x2 : Int32} {q_65_11 : Nat} (hL : Lay S R) (hq_65_11 : R 65 11 = q_65_11) (h_q_65_11 : LyNo S R q_65_11) (hb20 : inb x1 40 = true) (kt : ¬ (I (q_65_11 + 2) x1.toNatClampNeg) = 11 → X xs L (d + 1) 154 42 [.ref 65, .int x1, .int x2, .int 2, .null, .null] [] (S, I, J, R, c) Q) (kf : ¬ (¬ (I (q_65_11 + 2) x1.toNatClampNeg) = 11) → X xs L (d + 1) 154 26 [.ref 65, .int x1, .int x2, .int 2, .null, .null] [] (S, I, J, R, c) Q) : X xs L (d + 1) 154 10 [.ref 65, .int x1, .int x2, .null, .null, .null] [] (S, I, J, R, c) Q := by
  refine X_iconst (v := 2) (show decode (mB 154) 10 = .ok (.iconst 2, 1) by decide +kernel) (pc' := 11) rfl rfl ?_
  refine X_istore_n (q := 3) (ls' := [.ref 65, .int x1, .int x2, .int 2, .null, .null]) (show decode (mB 154) 11 = .ok (.istore_n 3, 1) by decide +kernel) (pc' := 12) rfl rfl rfl ?_
  refine X_aload_n (q := 0) (show decode (mB 154) 12 = .ok (.aload_n 0, 1) by decide +kernel) (pc' := 13) rfl rfl rfl ?_
  refine X_getR (ci := 13) (f := 11) (q := q_65_11) (show decode (mB 154) 13 = .ok (.getfield 40, 3) by decide +kernel) (pc' := 16) rfl (ls_65 hL) (by decide +kernel) rfl hq_65_11 ?_
  refine X_getR (ci := 11) (f := 1) (q := (q_65_11 + 2)) (show decode (mB 154) 16 = .ok (.getfield 209, 3) by decide +kernel) (pc' := 19) rfl h_q_65_11.s0 (by decide +kernel) rfl h_q_65_11.r0_1 ?_
  refine X_iload_n (q := 1) (show decode (mB 154) 19 = .ok (.iload_n 1, 1) by decide +kernel) (pc' := 20) rfl rfl rfl ?_
  refine X_iaload (w := I (q_65_11 + 2) x1.toNatClampNeg) (show decode (mB 154) 20 = .ok (.iaload, 1) by decide +kernel) (pc' := 21) rfl h_q_65_11.s2 hb20 rfl ?_
  refine X_bipush (v := 11) (show decode (mB 154) 21 = .ok (.bipush 11, 2) by decide +kernel) (pc' := 23) rfl (by decide +kernel) ?_
  exact X_icmp_ne (tgt := 42) (show decode (mB 154) 23 = .ok (.if_icmp .ne 19, 3) by decide +kernel) rfl (pc' := 26) rfl kt kf
set_option maxRecDepth 4000 in
theorem b_X14_work_26 {xs : Nat → Int32} {L d : Nat} {S : Nat → Shp} {I : Nat → Nat → Int32} {J : Nat → Nat → Int64} {R : Nat → Nat → Nat} {c : Nat × Nat} {Q : Option (Option Value) → MH → Prop} {x1 x2 x3 : Int32} {q_65_11 : Nat} (hL : Lay S R) (hq_65_11 : R 65 11 = q_65_11) (h_q_65_11 : LyNo S R q_65_11) (hb35 : inb x1 40 = true) (k : X xs L d 151 0 [.ref 65, .int (I (q_65_11 + 3) x1.toNatClampNeg), .int x2, .int 0, .null, .null, .null] [] (S, I, J, R, c) (Kc xs L (d + 1) 154 41 [.ref 65, .int x1, .int x2, .int x3, .null, .null] [] Q)) : X xs L (d + 1) 154 26 [.ref 65, .int x1, .int x2, .int x3, .null, .null] [] (S, I, J, R, c) Q := by
  refine X_aload_n (q := 0) (show decode (mB 154) 26 = .ok (.aload_n 0, 1) by decide +kernel) (pc' := 27) rfl rfl rfl ?_
  refine X_aload_n (q := 0) (show decode (mB 154) 27 = .ok (.aload_n 0, 1) by decide +kernel) (pc' := 28) rfl rfl rfl ?_
  refine X_getR (ci := 13) (f := 11) (q := q_65_11) (show decode (mB 154) 28 = .ok (.getfield 40, 3) by decide +kernel) (pc' := 31) rfl (ls_65 hL) (by decide +kernel) rfl hq_65_11 ?_
  refine X_getR (ci := 11) (f := 2) (q := (q_65_11 + 3)) (show decode (mB 154) 31 = .ok (.getfield 210, 3) by decide +kernel) (pc' := 34) rfl h_q_65_11.s0 (by decide +kernel) rfl h_q_65_11.r0_2 ?_
  refine X_iload_n (q := 1) (show decode (mB 154) 34 = .ok (.iload_n 1, 1) by decide +kernel) (pc' := 35) rfl rfl rfl ?_
  refine X_iaload (w := I (q_65_11 + 3) x1.toNatClampNeg) (show decode (mB 154) 35 = .ok (.iaload, 1) by decide +kernel) (pc' := 36) rfl h_q_65_11.s3 hb35 rfl ?_
  refine X_iload_n (q := 2) (show decode (mB 154) 36 = .ok (.iload_n 2, 1) by decide +kernel) (pc' := 37) rfl rfl rfl ?_
  refine X_iconst (v := 0) (show decode (mB 154) 37 = .ok (.iconst 0, 1) by decide +kernel) (pc' := 38) rfl rfl ?_
  exact X_callV (y := 151) (n := 3) (st := [.int 0, .int x2, .int (I (q_65_11 + 3) x1.toNatClampNeg), .ref 65]) (as := [.ref 65, .int (I (q_65_11 + 3) x1.toNatClampNeg), .int x2, .int 0]) (rest := []) (ls0 := [.ref 65, .int (I (q_65_11 + 3) x1.toNatClampNeg), .int x2, .int 0, .null, .null, .null]) (ci := 13) (show decode (mB 154) 38 = .ok (.invokevirtual 292, 3) by decide +kernel) (pc' := 41) rfl (by decide +kernel) (by decide +kernel) rfl (ls_65 hL) (by decide +kernel) rfl rfl rfl rfl rfl k
set_option maxRecDepth 4000 in
theorem b_X14_work_41 {xs : Nat → Int32} {L d : Nat} {S : Nat → Shp} {I : Nat → Nat → Int32} {J : Nat → Nat → Int64} {R : Nat → Nat → Nat} {c : Nat × Nat} {Q : Option (Option Value) → MH → Prop} {x1 x2 x3 sx0 : Int32}  (k : X xs L (d + 1) 154 42 [.ref 65, .int x1, .int x2, .int sx0, .null, .null] [] (S, I, J, R, c) Q) : X xs L (d + 1) 154 41 [.ref 65, .int x1, .int x2, .int x3, .null, .null] [.int sx0] (S, I, J, R, c) Q := by
  refine X_istore_n (q := 3) (ls' := [.ref 65, .int x1, .int x2, .int sx0, .null, .null]) (show decode (mB 154) 41 = .ok (.istore_n 3, 1) by decide +kernel) (pc' := 42) rfl rfl rfl ?_
  exact k
set_option maxRecDepth 4000 in
theorem b_X14_work_42 {xs : Nat → Int32} {L d : Nat} {S : Nat → Shp} {I : Nat → Nat → Int32} {J : Nat → Nat → Int64} {R : Nat → Nat → Nat} {c : Nat × Nat} {Q : Option (Option Value) → MH → Prop} {x1 x2 x3 : Int32} {q_65_11 : Nat} (hL : Lay S R) (hq_65_11 : R 65 11 = q_65_11) (h_q_65_11 : LyNo S R q_65_11) (hb50 : inb x1 40 = true) (kt : ¬ (I (q_65_11 + 2) x1.toNatClampNeg) = 12 → X xs L (d + 1) 154 78 [.ref 65, .int x1, .int x2, .int x3, .null, .null] [] (S, I, J, R, c) Q) (kf : ¬ (¬ (I (q_65_11 + 2) x1.toNatClampNeg) = 12) → X xs L (d + 1) 154 56 [.ref 65, .int x1, .int x2, .int x3, .null, .null] [] (S, I, J, R, c) Q) : X xs L (d + 1) 154 42 [.ref 65, .int x1, .int x2, .int x3, .null, .null] [] (S, I, J, R, c) Q := by
  refine X_aload_n (q := 0) (show decode (mB 154) 42 = .ok (.aload_n 0, 1) by decide +kernel) (pc' := 43) rfl rfl rfl ?_
  refine X_getR (ci := 13) (f := 11) (q := q_65_11) (show decode (mB 154) 43 = .ok (.getfield 40, 3) by decide +kernel) (pc' := 46) rfl (ls_65 hL) (by decide +kernel) rfl hq_65_11 ?_
  refine X_getR (ci := 11) (f := 1) (q := (q_65_11 + 2)) (show decode (mB 154) 46 = .ok (.getfield 209, 3) by decide +kernel) (pc' := 49) rfl h_q_65_11.s0 (by decide +kernel) rfl h_q_65_11.r0_1 ?_
  refine X_iload_n (q := 1) (show decode (mB 154) 49 = .ok (.iload_n 1, 1) by decide +kernel) (pc' := 50) rfl rfl rfl ?_
  refine X_iaload (w := I (q_65_11 + 2) x1.toNatClampNeg) (show decode (mB 154) 50 = .ok (.iaload, 1) by decide +kernel) (pc' := 51) rfl h_q_65_11.s2 hb50 rfl ?_
  refine X_bipush (v := 12) (show decode (mB 154) 51 = .ok (.bipush 12, 2) by decide +kernel) (pc' := 53) rfl (by decide +kernel) ?_
  exact X_icmp_ne (tgt := 78) (show decode (mB 154) 53 = .ok (.if_icmp .ne 25, 3) by decide +kernel) rfl (pc' := 56) rfl kt kf
set_option maxRecDepth 4000 in
theorem b_X14_work_56 {xs : Nat → Int32} {L d : Nat} {S : Nat → Shp} {I : Nat → Nat → Int32} {J : Nat → Nat → Int64} {R : Nat → Nat → Nat} {c : Nat × Nat} {Q : Option (Option Value) → MH → Prop} {x1 x2 x3 : Int32}  (kt : x2 ≤ 0 → X xs L (d + 1) 154 78 [.ref 65, .int x1, .int x2, .int x3, .null, .null] [] (S, I, J, R, c) Q) (kf : ¬ (x2 ≤ 0) → X xs L (d + 1) 154 60 [.ref 65, .int x1, .int x2, .int x3, .null, .null] [] (S, I, J, R, c) Q) : X xs L (d + 1) 154 56 [.ref 65, .int x1, .int x2, .int x3, .null, .null] [] (S, I, J, R, c) Q := by
  refine X_iload_n (q := 2) (show decode (mB 154) 56 = .ok (.iload_n 2, 1) by decide +kernel) (pc' := 57) rfl rfl rfl ?_
  exact X_if_le (tgt := 78) (show decode (mB 154) 57 = .ok (.ifCond .le 21, 3) by decide +kernel) rfl (pc' := 60) rfl kt kf
set_option maxRecDepth 4000 in
theorem b_X14_work_60 {xs : Nat → Int32} {L d : Nat} {S : Nat → Shp} {I : Nat → Nat → Int32} {J : Nat → Nat → Int64} {R : Nat → Nat → Nat} {c : Nat × Nat} {Q : Option (Option Value) → MH → Prop} {x1 x2 x3 : Int32} {q_65_11 : Nat} (hL : Lay S R) (hq_65_11 : R 65 11 = q_65_11) (h_q_65_11 : LyNo S R q_65_11) (hb69 : inb x1 40 = true) (k : X xs L d 151 0 [.ref 65, .int (I (q_65_11 + 3) x1.toNatClampNeg), .int (x2 - 1), .int 1, .null, .null, .null] [] (S, I, J, R, c) (Kc xs L (d + 1) 154 77 [.ref 65, .int x1, .int x2, .int x3, .null, .null] [] Q)) : X xs L (d + 1) 154 60 [.ref 65, .int x1, .int x2, .int x3, .null, .null] [] (S, I, J, R, c) Q := by
  refine X_aload_n (q := 0) (show decode (mB 154) 60 = .ok (.aload_n 0, 1) by decide +kernel) (pc' := 61) rfl rfl rfl ?_
  refine X_aload_n (q := 0) (show decode (mB 154) 61 = .ok (.aload_n 0, 1) by decide +kernel) (pc' := 62) rfl rfl rfl ?_
  refine X_getR (ci := 13) (f := 11) (q := q_65_11) (show decode (mB 154) 62 = .ok (.getfield 40, 3) by decide +kernel) (pc' := 65) rfl (ls_65 hL) (by decide +kernel) rfl hq_65_11 ?_
  refine X_getR (ci := 11) (f := 2) (q := (q_65_11 + 3)) (show decode (mB 154) 65 = .ok (.getfield 210, 3) by decide +kernel) (pc' := 68) rfl h_q_65_11.s0 (by decide +kernel) rfl h_q_65_11.r0_2 ?_
  refine X_iload_n (q := 1) (show decode (mB 154) 68 = .ok (.iload_n 1, 1) by decide +kernel) (pc' := 69) rfl rfl rfl ?_
  refine X_iaload (w := I (q_65_11 + 3) x1.toNatClampNeg) (show decode (mB 154) 69 = .ok (.iaload, 1) by decide +kernel) (pc' := 70) rfl h_q_65_11.s3 hb69 rfl ?_
  refine X_iload_n (q := 2) (show decode (mB 154) 70 = .ok (.iload_n 2, 1) by decide +kernel) (pc' := 71) rfl rfl rfl ?_
  refine X_iconst (v := 1) (show decode (mB 154) 71 = .ok (.iconst 1, 1) by decide +kernel) (pc' := 72) rfl rfl ?_
  refine X_isub (show decode (mB 154) 72 = .ok (.isub, 1) by decide +kernel) (pc' := 73) rfl ?_
  refine X_iconst (v := 1) (show decode (mB 154) 73 = .ok (.iconst 1, 1) by decide +kernel) (pc' := 74) rfl rfl ?_
  exact X_callV (y := 151) (n := 3) (st := [.int 1, .int (x2 - 1), .int (I (q_65_11 + 3) x1.toNatClampNeg), .ref 65]) (as := [.ref 65, .int (I (q_65_11 + 3) x1.toNatClampNeg), .int (x2 - 1), .int 1]) (rest := []) (ls0 := [.ref 65, .int (I (q_65_11 + 3) x1.toNatClampNeg), .int (x2 - 1), .int 1, .null, .null, .null]) (ci := 13) (show decode (mB 154) 74 = .ok (.invokevirtual 292, 3) by decide +kernel) (pc' := 77) rfl (by decide +kernel) (by decide +kernel) rfl (ls_65 hL) (by decide +kernel) rfl rfl rfl rfl rfl k
set_option maxRecDepth 4000 in
theorem b_X14_work_77 {xs : Nat → Int32} {L d : Nat} {S : Nat → Shp} {I : Nat → Nat → Int32} {J : Nat → Nat → Int64} {R : Nat → Nat → Nat} {c : Nat × Nat} {Q : Option (Option Value) → MH → Prop} {x1 x2 x3 sx0 : Int32}  (k : X xs L (d + 1) 154 78 [.ref 65, .int x1, .int x2, .int sx0, .null, .null] [] (S, I, J, R, c) Q) : X xs L (d + 1) 154 77 [.ref 65, .int x1, .int x2, .int x3, .null, .null] [.int sx0] (S, I, J, R, c) Q := by
  refine X_istore_n (q := 3) (ls' := [.ref 65, .int x1, .int x2, .int sx0, .null, .null]) (show decode (mB 154) 77 = .ok (.istore_n 3, 1) by decide +kernel) (pc' := 78) rfl rfl rfl ?_
  exact k
set_option maxRecDepth 4000 in
theorem b_X14_work_78 {xs : Nat → Int32} {L d : Nat} {S : Nat → Shp} {I : Nat → Nat → Int32} {J : Nat → Nat → Int64} {R : Nat → Nat → Nat} {c : Nat × Nat} {Q : Option (Option Value) → MH → Prop} {x1 x2 x3 : Int32}  (k : X xs L (d + 1) 154 81 [.ref 65, .int x1, .int x2, .int x3, .int 0, .null] [] (S, I, J, R, c) Q) : X xs L (d + 1) 154 78 [.ref 65, .int x1, .int x2, .int x3, .null, .null] [] (S, I, J, R, c) Q := by
  refine X_iconst (v := 0) (show decode (mB 154) 78 = .ok (.iconst 0, 1) by decide +kernel) (pc' := 79) rfl rfl ?_
  refine X_istore (q := 4) (ls' := [.ref 65, .int x1, .int x2, .int x3, .int 0, .null]) (show decode (mB 154) 79 = .ok (.istore 4, 2) by decide +kernel) (pc' := 81) rfl rfl ?_
  exact k
set_option maxRecDepth 4000 in
theorem b_X14_work_81 {xs : Nat → Int32} {L d : Nat} {S : Nat → Shp} {I : Nat → Nat → Int32} {J : Nat → Nat → Int64} {R : Nat → Nat → Nat} {c : Nat × Nat} {Q : Option (Option Value) → MH → Prop} {x1 x2 x3 x4 : Int32} {v5 : Value} {q_65_13 : Nat} (hL : Lay S R) (hq_65_13 : R 65 13 = q_65_13) (h_q_65_13 : LyCs S R q_65_13) (kt : (I q_65_13 6) ≤ x4 → X xs L (d + 1) 154 182 [.ref 65, .int x1, .int x2, .int x3, .int x4, v5] [] (S, I, J, R, c) Q) (kf : ¬ ((I q_65_13 6) ≤ x4) → X xs L (d + 1) 154 93 [.ref 65, .int x1, .int x2, .int x3, .int x4, v5] [] (S, I, J, R, c) Q) : X xs L (d + 1) 154 81 [.ref 65, .int x1, .int x2, .int x3, .int x4, v5] [] (S, I, J, R, c) Q := by
  refine X_iload (q := 4) (show decode (mB 154) 81 = .ok (.iload 4, 2) by decide +kernel) (pc' := 83) rfl rfl ?_
  refine X_aload_n (q := 0) (show decode (mB 154) 83 = .ok (.aload_n 0, 1) by decide +kernel) (pc' := 84) rfl rfl rfl ?_
  refine X_getR (ci := 13) (f := 13) (q := q_65_13) (show decode (mB 154) 84 = .ok (.getfield 233, 3) by decide +kernel) (pc' := 87) rfl (ls_65 hL) (by decide +kernel) rfl hq_65_13 ?_
  refine X_getI (ci := 10) (f := 6) (x := I q_65_13 6) (show decode (mB 154) 87 = .ok (.getfield 268, 3) by decide +kernel) (pc' := 90) rfl h_q_65_13.s0 (by decide +kernel) rfl rfl ?_
  exact X_icmp_ge (tgt := 182) (show decode (mB 154) 90 = .ok (.if_icmp .ge 92, 3) by decide +kernel) rfl (pc' := 93) rfl kt kf
set_option maxRecDepth 4000 in
theorem b_X14_work_93 {xs : Nat → Int32} {L d : Nat} {S : Nat → Shp} {I : Nat → Nat → Int32} {J : Nat → Nat → Int64} {R : Nat → Nat → Nat} {c : Nat × Nat} {Q : Option (Option Value) → MH → Prop} {x1 x2 x3 x4 : Int32} {v5 : Value} {q_65_13 : Nat} (hL : Lay S R) (hq_65_13 : R 65 13 = q_65_13) (k : X xs L d 152 0 [.ref q_65_13, .int x4, .int x1, .int x2] [] (S, I, J, R, c) (Kc xs L (d + 1) 154 104 [.ref 65, .int x1, .int x2, .int x3, .int x4, v5] [] Q)) : X xs L (d + 1) 154 93 [.ref 65, .int x1, .int x2, .int x3, .int x4, v5] [] (S, I, J, R, c) Q := by
  refine X_aload_n (q := 0) (show decode (mB 154) 93 = .ok (.aload_n 0, 1) by decide +kernel) (pc' := 94) rfl rfl rfl ?_
  refine X_getR (ci := 13) (f := 13) (q := q_65_13) (show decode (mB 154) 94 = .ok (.getfield 233, 3) by decide +kernel) (pc' := 97) rfl (ls_65 hL) (by decide +kernel) rfl hq_65_13 ?_
  refine X_iload (q := 4) (show decode (mB 154) 97 = .ok (.iload 4, 2) by decide +kernel) (pc' := 99) rfl rfl ?_
  refine X_iload_n (q := 1) (show decode (mB 154) 99 = .ok (.iload_n 1, 1) by decide +kernel) (pc' := 100) rfl rfl rfl ?_
  refine X_iload_n (q := 2) (show decode (mB 154) 100 = .ok (.iload_n 2, 1) by decide +kernel) (pc' := 101) rfl rfl rfl ?_
  exact X_callS (y := 152) (n := 4) (st := [.int x2, .int x1, .int x4, .ref q_65_13]) (as := [.ref q_65_13, .int x4, .int x1, .int x2]) (rest := []) (ls0 := [.ref q_65_13, .int x4, .int x1, .int x2]) (show decode (mB 154) 101 = .ok (.invokestatic 296, 3) by decide +kernel) (pc' := 104) rfl (by decide +kernel) (by decide +kernel) rfl rfl rfl rfl rfl rfl rfl rfl k
set_option maxRecDepth 4000 in
theorem b_X14_work_104 {xs : Nat → Int32} {L d : Nat} {S : Nat → Shp} {I : Nat → Nat → Int32} {J : Nat → Nat → Int64} {R : Nat → Nat → Nat} {c : Nat × Nat} {Q : Option (Option Value) → MH → Prop} {x1 x2 x3 x4 sx0 : Int32} {v5 : Value}  (kt : sx0 = 0 → X xs L (d + 1) 154 176 [.ref 65, .int x1, .int x2, .int x3, .int x4, v5] [] (S, I, J, R, c) Q) (kf : ¬ (sx0 = 0) → X xs L (d + 1) 154 107 [.ref 65, .int x1, .int x2, .int x3, .int x4, v5] [] (S, I, J, R, c) Q) : X xs L (d + 1) 154 104 [.ref 65, .int x1, .int x2, .int x3, .int x4, v5] [.int sx0] (S, I, J, R, c) Q := by
  exact X_if_eq (tgt := 176) (show decode (mB 154) 104 = .ok (.ifCond .eq 72, 3) by decide +kernel) rfl (pc' := 107) rfl kt kf
set_option maxRecDepth 4000 in
theorem b_X14_work_107 {xs : Nat → Int32} {L d : Nat} {S : Nat → Shp} {I : Nat → Nat → Int32} {J : Nat → Nat → Int64} {R : Nat → Nat → Nat} {c : Nat × Nat} {Q : Option (Option Value) → MH → Prop} {x1 x2 x3 x4 : Int32} {v5 : Value} (hL : Lay S R)  (k : X xs L d 153 0 [.ref 65, .int x4] [] (S, I, J, R, c) (Kc xs L (d + 1) 154 113 [.ref 65, .int x1, .int x2, .int x3, .int x4, v5] [] Q)) : X xs L (d + 1) 154 107 [.ref 65, .int x1, .int x2, .int x3, .int x4, v5] [] (S, I, J, R, c) Q := by
  refine X_aload_n (q := 0) (show decode (mB 154) 107 = .ok (.aload_n 0, 1) by decide +kernel) (pc' := 108) rfl rfl rfl ?_
  refine X_iload (q := 4) (show decode (mB 154) 108 = .ok (.iload 4, 2) by decide +kernel) (pc' := 110) rfl rfl ?_
  exact X_callV (y := 153) (n := 1) (st := [.int x4, .ref 65]) (as := [.ref 65, .int x4]) (rest := []) (ls0 := [.ref 65, .int x4]) (ci := 13) (show decode (mB 154) 110 = .ok (.invokevirtual 300, 3) by decide +kernel) (pc' := 113) rfl (by decide +kernel) (by decide +kernel) rfl (ls_65 hL) (by decide +kernel) rfl rfl rfl rfl rfl k
set_option maxRecDepth 4000 in
theorem b_X14_work_113 {xs : Nat → Int32} {L d : Nat} {S : Nat → Shp} {I : Nat → Nat → Int32} {J : Nat → Nat → Int64} {R : Nat → Nat → Nat} {c : Nat × Nat} {Q : Option (Option Value) → MH → Prop} {x1 x2 x3 x4 sx0 : Int32} {v5 : Value}  (kt : ¬ sx0 = 0 → X xs L (d + 1) 154 119 [.ref 65, .int x1, .int x2, .int x3, .int x4, v5] [] (S, I, J, R, c) Q) (kf : ¬ (¬ sx0 = 0) → X xs L (d + 1) 154 116 [.ref 65, .int x1, .int x2, .int x3, .int x4, v5] [] (S, I, J, R, c) Q) : X xs L (d + 1) 154 113 [.ref 65, .int x1, .int x2, .int x3, .int x4, v5] [.int sx0] (S, I, J, R, c) Q := by
  exact X_if_ne (tgt := 119) (show decode (mB 154) 113 = .ok (.ifCond .ne 6, 3) by decide +kernel) rfl (pc' := 116) rfl kt kf
set_option maxRecDepth 4000 in
theorem b_X14_work_116 {xs : Nat → Int32} {L d : Nat} {S : Nat → Shp} {I : Nat → Nat → Int32} {J : Nat → Nat → Int64} {R : Nat → Nat → Nat} {c : Nat × Nat} {Q : Option (Option Value) → MH → Prop} {x1 x2 x3 x4 : Int32} {v5 : Value}  (k : X xs L (d + 1) 154 176 [.ref 65, .int x1, .int x2, .int x3, .int x4, v5] [] (S, I, J, R, c) Q) : X xs L (d + 1) 154 116 [.ref 65, .int x1, .int x2, .int x3, .int x4, v5] [] (S, I, J, R, c) Q := by
  refine X_goto (tgt := 176) (show decode (mB 154) 116 = .ok (.goto 60, 3) by decide +kernel) rfl ?_
  exact k
set_option maxRecDepth 4000 in
theorem b_X14_work_119 {xs : Nat → Int32} {L d : Nat} {S : Nat → Shp} {I : Nat → Nat → Int32} {J : Nat → Nat → Int64} {R : Nat → Nat → Nat} {c : Nat × Nat} {Q : Option (Option Value) → MH → Prop} {x1 x2 x3 x4 : Int32} {v5 : Value} {q_65_13 : Nat} (hL : Lay S R) (hq_65_13 : R 65 13 = q_65_13) (h_q_65_13 : LyCs S R q_65_13) (hb129 : inb x4 48 = true) (k : X xs L d 150 0 [.ref 65, .int (I (q_65_13 + 2) x4.toNatClampNeg)] [] (S, I, J, R, c) (Kc xs L (d + 1) 154 133 [.ref 65, .int x1, .int x2, .int x3, .int x4, v5] [] Q)) : X xs L (d + 1) 154 119 [.ref 65, .int x1, .int x2, .int x3, .int x4, v5] [] (S, I, J, R, c) Q := by
  refine X_aload_n (q := 0) (show decode (mB 154) 119 = .ok (.aload_n 0, 1) by decide +kernel) (pc' := 120) rfl rfl rfl ?_
  refine X_aload_n (q := 0) (show decode (mB 154) 120 = .ok (.aload_n 0, 1) by decide +kernel) (pc' := 121) rfl rfl rfl ?_
  refine X_getR (ci := 13) (f := 13) (q := q_65_13) (show decode (mB 154) 121 = .ok (.getfield 233, 3) by decide +kernel) (pc' := 124) rfl (ls_65 hL) (by decide +kernel) rfl hq_65_13 ?_
  refine X_getR (ci := 10) (f := 1) (q := (q_65_13 + 2)) (show decode (mB 154) 124 = .ok (.getfield 244, 3) by decide +kernel) (pc' := 127) rfl h_q_65_13.s0 (by decide +kernel) rfl h_q_65_13.r0_1 ?_
  refine X_iload (q := 4) (show decode (mB 154) 127 = .ok (.iload 4, 2) by decide +kernel) (pc' := 129) rfl rfl ?_
  refine X_iaload (w := I (q_65_13 + 2) x4.toNatClampNeg) (show decode (mB 154) 129 = .ok (.iaload, 1) by decide +kernel) (pc' := 130) rfl h_q_65_13.s2 hb129 rfl ?_
  exact X_callV (y := 150) (n := 1) (st := [.int (I (q_65_13 + 2) x4.toNatClampNeg), .ref 65]) (as := [.ref 65, .int (I (q_65_13 + 2) x4.toNatClampNeg)]) (rest := []) (ls0 := [.ref 65, .int (I (q_65_13 + 2) x4.toNatClampNeg)]) (ci := 13) (show decode (mB 154) 130 = .ok (.invokevirtual 282, 3) by decide +kernel) (pc' := 133) rfl (by decide +kernel) (by decide +kernel) rfl (ls_65 hL) (by decide +kernel) rfl rfl rfl rfl rfl k
set_option maxRecDepth 4000 in
theorem b_X14_work_133 {xs : Nat → Int32} {L d : Nat} {S : Nat → Shp} {I : Nat → Nat → Int32} {J : Nat → Nat → Int64} {R : Nat → Nat → Nat} {c : Nat × Nat} {Q : Option (Option Value) → MH → Prop} {x1 x2 x3 x4 sx0 : Int32} {v5 : Value}  (kt : sx0 = 0 → X xs L (d + 1) 154 140 [.ref 65, .int x1, .int x2, .int x3, .int x4, v5] [] (S, I, J, R, c) Q) (kf : ¬ (sx0 = 0) → X xs L (d + 1) 154 136 [.ref 65, .int x1, .int x2, .int x3, .int x4, v5] [] (S, I, J, R, c) Q) : X xs L (d + 1) 154 133 [.ref 65, .int x1, .int x2, .int x3, .int x4, v5] [.int sx0] (S, I, J, R, c) Q := by
  exact X_if_eq (tgt := 140) (show decode (mB 154) 133 = .ok (.ifCond .eq 7, 3) by decide +kernel) rfl (pc' := 136) rfl kt kf
set_option maxRecDepth 4000 in
theorem b_X14_work_136 {xs : Nat → Int32} {L d : Nat} {S : Nat → Shp} {I : Nat → Nat → Int32} {J : Nat → Nat → Int64} {R : Nat → Nat → Nat} {c : Nat × Nat} {Q : Option (Option Value) → MH → Prop} {x1 x2 x3 x4 : Int32} {v5 : Value}  (k : X xs L (d + 1) 154 141 [.ref 65, .int x1, .int x2, .int x3, .int x4, v5] [.int 1] (S, I, J, R, c) Q) : X xs L (d + 1) 154 136 [.ref 65, .int x1, .int x2, .int x3, .int x4, v5] [] (S, I, J, R, c) Q := by
  refine X_iconst (v := 1) (show decode (mB 154) 136 = .ok (.iconst 1, 1) by decide +kernel) (pc' := 137) rfl rfl ?_
  refine X_goto (tgt := 141) (show decode (mB 154) 137 = .ok (.goto 4, 3) by decide +kernel) rfl ?_
  exact k
set_option maxRecDepth 4000 in
theorem b_X14_work_140 {xs : Nat → Int32} {L d : Nat} {S : Nat → Shp} {I : Nat → Nat → Int32} {J : Nat → Nat → Int64} {R : Nat → Nat → Nat} {c : Nat × Nat} {Q : Option (Option Value) → MH → Prop} {x1 x2 x3 x4 : Int32} {v5 : Value}  (k : X xs L (d + 1) 154 141 [.ref 65, .int x1, .int x2, .int x3, .int x4, v5] [.int 0] (S, I, J, R, c) Q) : X xs L (d + 1) 154 140 [.ref 65, .int x1, .int x2, .int x3, .int x4, v5] [] (S, I, J, R, c) Q := by
  refine X_iconst (v := 0) (show decode (mB 154) 140 = .ok (.iconst 0, 1) by decide +kernel) (pc' := 141) rfl rfl ?_
  exact k
set_option maxRecDepth 4000 in
theorem b_X14_work_141 {xs : Nat → Int32} {L d : Nat} {S : Nat → Shp} {I : Nat → Nat → Int32} {J : Nat → Nat → Int64} {R : Nat → Nat → Nat} {c : Nat × Nat} {Q : Option (Option Value) → MH → Prop} {x1 x2 x3 x4 sx0 : Int32} {v5 : Value}  (kt : x3 = 2 → X xs L (d + 1) 154 164 [.ref 65, .int x1, .int x2, .int x3, .int x4, .int sx0] [] (S, I, J, R, c) Q) (kf : ¬ (x3 = 2) → X xs L (d + 1) 154 148 [.ref 65, .int x1, .int x2, .int x3, .int x4, .int sx0] [] (S, I, J, R, c) Q) : X xs L (d + 1) 154 141 [.ref 65, .int x1, .int x2, .int x3, .int x4, v5] [.int sx0] (S, I, J, R, c) Q := by
  refine X_istore (q := 5) (ls' := [.ref 65, .int x1, .int x2, .int x3, .int x4, .int sx0]) (show decode (mB 154) 141 = .ok (.istore 5, 2) by decide +kernel) (pc' := 143) rfl rfl ?_
  refine X_iload_n (q := 3) (show decode (mB 154) 143 = .ok (.iload_n 3, 1) by decide +kernel) (pc' := 144) rfl rfl rfl ?_
  refine X_iconst (v := 2) (show decode (mB 154) 144 = .ok (.iconst 2, 1) by decide +kernel) (pc' := 145) rfl rfl ?_
  exact X_icmp_eq (tgt := 164) (show decode (mB 154) 145 = .ok (.if_icmp .eq 19, 3) by decide +kernel) rfl (pc' := 148) rfl kt kf
set_option maxRecDepth 4000 in
theorem b_X14_work_148 {xs : Nat → Int32} {L d : Nat} {S : Nat → Shp} {I : Nat → Nat → Int32} {J : Nat → Nat → Int64} {R : Nat → Nat → Nat} {c : Nat × Nat} {Q : Option (Option Value) → MH → Prop} {x1 x2 x3 x4 x5 : Int32}  (kt : x3 = x5 → X xs L (d + 1) 154 164 [.ref 65, .int x1, .int x2, .int x3, .int x4, .int x5] [] (S, I, J, R, c) Q) (kf : ¬ (x3 = x5) → X xs L (d + 1) 154 154 [.ref 65, .int x1, .int x2, .int x3, .int x4, .int x5] [] (S, I, J, R, c) Q) : X xs L (d + 1) 154 148 [.ref 65, .int x1, .int x2, .int x3, .int x4, .int x5] [] (S, I, J, R, c) Q := by
  refine X_iload_n (q := 3) (show decode (mB 154) 148 = .ok (.iload_n 3, 1) by decide +kernel) (pc' := 149) rfl rfl rfl ?_
  refine X_iload (q := 5) (show decode (mB 154) 149 = .ok (.iload 5, 2) by decide +kernel) (pc' := 151) rfl rfl ?_
  exact X_icmp_eq (tgt := 164) (show decode (mB 154) 151 = .ok (.if_icmp .eq 13, 3) by decide +kernel) rfl (pc' := 154) rfl kt kf
set_option maxRecDepth 4000 in
theorem b_X14_work_154 {xs : Nat → Int32} {L d : Nat} {S : Nat → Shp} {I : Nat → Nat → Int32} {J : Nat → Nat → Int64} {R : Nat → Nat → Nat} {c : Nat × Nat} {Q : Option (Option Value) → MH → Prop} {x1 x2 x3 x4 x5 : Int32} (hL : Lay S R) (hb163 : inb (I 65 29) 512 = true) (k : X xs L (d + 1) 154 164 [.ref 65, .int x1, .int x2, .int x3, .int x4, .int x5] [] (S, (u2 I 113 ((I 65 29).toNatClampNeg) (vp_nar .boolean 1)), J, R, c) Q) : X xs L (d + 1) 154 154 [.ref 65, .int x1, .int x2, .int x3, .int x4, .int x5] [] (S, I, J, R, c) Q := by
  refine X_aload_n (q := 0) (show decode (mB 154) 154 = .ok (.aload_n 0, 1) by decide +kernel) (pc' := 155) rfl rfl rfl ?_
  refine X_getR (ci := 13) (f := 24) (q := 113) (show decode (mB 154) 155 = .ok (.getfield 64, 3) by decide +kernel) (pc' := 158) rfl (ls_65 hL) (by decide +kernel) rfl (lr_65_24 hL) ?_
  refine X_aload_n (q := 0) (show decode (mB 154) 158 = .ok (.aload_n 0, 1) by decide +kernel) (pc' := 159) rfl rfl rfl ?_
  refine X_getI (ci := 13) (f := 29) (x := I 65 29) (show decode (mB 154) 159 = .ok (.getfield 277, 3) by decide +kernel) (pc' := 162) rfl (ls_65 hL) (by decide +kernel) rfl rfl ?_
  refine X_iconst (v := 1) (show decode (mB 154) 162 = .ok (.iconst 1, 1) by decide +kernel) (pc' := 163) rfl rfl ?_
  refine X_zastore (show decode (mB 154) 163 = .ok (.bastore, 1) by decide +kernel) (pc' := 164) rfl (ls_113 hL) hb163 ?_
  exact k
set_option maxRecDepth 4000 in
theorem b_X14_work_164 {xs : Nat → Int32} {L d : Nat} {S : Nat → Shp} {I : Nat → Nat → Int32} {J : Nat → Nat → Int64} {R : Nat → Nat → Nat} {c : Nat × Nat} {Q : Option (Option Value) → MH → Prop} {x1 x2 x3 x4 x5 : Int32}  (kt : ¬ x3 = 2 → X xs L (d + 1) 154 174 [.ref 65, .int x1, .int x2, .int x3, .int x4, .int x5] [] (S, I, J, R, c) Q) (kf : ¬ (¬ x3 = 2) → X xs L (d + 1) 154 169 [.ref 65, .int x1, .int x2, .int x3, .int x4, .int x5] [] (S, I, J, R, c) Q) : X xs L (d + 1) 154 164 [.ref 65, .int x1, .int x2, .int x3, .int x4, .int x5] [] (S, I, J, R, c) Q := by
  refine X_iload_n (q := 3) (show decode (mB 154) 164 = .ok (.iload_n 3, 1) by decide +kernel) (pc' := 165) rfl rfl rfl ?_
  refine X_iconst (v := 2) (show decode (mB 154) 165 = .ok (.iconst 2, 1) by decide +kernel) (pc' := 166) rfl rfl ?_
  exact X_icmp_ne (tgt := 174) (show decode (mB 154) 166 = .ok (.if_icmp .ne 8, 3) by decide +kernel) rfl (pc' := 169) rfl kt kf
set_option maxRecDepth 4000 in
theorem b_X14_work_169 {xs : Nat → Int32} {L d : Nat} {S : Nat → Shp} {I : Nat → Nat → Int32} {J : Nat → Nat → Int64} {R : Nat → Nat → Nat} {c : Nat × Nat} {Q : Option (Option Value) → MH → Prop} {x1 x2 x3 x4 x5 : Int32}  (k : X xs L (d + 1) 154 175 [.ref 65, .int x1, .int x2, .int x3, .int x4, .int x5] [.int x5] (S, I, J, R, c) Q) : X xs L (d + 1) 154 169 [.ref 65, .int x1, .int x2, .int x3, .int x4, .int x5] [] (S, I, J, R, c) Q := by
  refine X_iload (q := 5) (show decode (mB 154) 169 = .ok (.iload 5, 2) by decide +kernel) (pc' := 171) rfl rfl ?_
  refine X_goto (tgt := 175) (show decode (mB 154) 171 = .ok (.goto 4, 3) by decide +kernel) rfl ?_
  exact k
set_option maxRecDepth 4000 in
theorem b_X14_work_174 {xs : Nat → Int32} {L d : Nat} {S : Nat → Shp} {I : Nat → Nat → Int32} {J : Nat → Nat → Int64} {R : Nat → Nat → Nat} {c : Nat × Nat} {Q : Option (Option Value) → MH → Prop} {x1 x2 x3 x4 x5 : Int32}  (k : X xs L (d + 1) 154 175 [.ref 65, .int x1, .int x2, .int x3, .int x4, .int x5] [.int x3] (S, I, J, R, c) Q) : X xs L (d + 1) 154 174 [.ref 65, .int x1, .int x2, .int x3, .int x4, .int x5] [] (S, I, J, R, c) Q := by
  refine X_iload_n (q := 3) (show decode (mB 154) 174 = .ok (.iload_n 3, 1) by decide +kernel) (pc' := 175) rfl rfl rfl ?_
  exact k
set_option maxRecDepth 4000 in
theorem b_X14_work_175 {xs : Nat → Int32} {L d : Nat} {S : Nat → Shp} {I : Nat → Nat → Int32} {J : Nat → Nat → Int64} {R : Nat → Nat → Nat} {c : Nat × Nat} {Q : Option (Option Value) → MH → Prop} {x1 x2 x3 x4 x5 sx0 : Int32}  (k : X xs L (d + 1) 154 176 [.ref 65, .int x1, .int x2, .int sx0, .int x4, .int x5] [] (S, I, J, R, c) Q) : X xs L (d + 1) 154 175 [.ref 65, .int x1, .int x2, .int x3, .int x4, .int x5] [.int sx0] (S, I, J, R, c) Q := by
  refine X_istore_n (q := 3) (ls' := [.ref 65, .int x1, .int x2, .int sx0, .int x4, .int x5]) (show decode (mB 154) 175 = .ok (.istore_n 3, 1) by decide +kernel) (pc' := 176) rfl rfl rfl ?_
  exact k
set_option maxRecDepth 4000 in
theorem b_X14_work_176 {xs : Nat → Int32} {L d : Nat} {S : Nat → Shp} {I : Nat → Nat → Int32} {J : Nat → Nat → Int64} {R : Nat → Nat → Nat} {c : Nat × Nat} {Q : Option (Option Value) → MH → Prop} {x1 x2 x3 x4 : Int32} {v5 : Value}  (k : X xs L (d + 1) 154 81 [.ref 65, .int x1, .int x2, .int x3, .int (x4 + 1), v5] [] (S, I, J, R, c) Q) : X xs L (d + 1) 154 176 [.ref 65, .int x1, .int x2, .int x3, .int x4, v5] [] (S, I, J, R, c) Q := by
  refine X_iinc (q := 4) (v := x4 + 1) (ls' := [.ref 65, .int x1, .int x2, .int x3, .int (x4 + 1), v5]) (show decode (mB 154) 176 = .ok (.iinc 4 1, 3) by decide +kernel) (pc' := 179) rfl rfl rfl rfl ?_
  refine X_goto (tgt := 81) (show decode (mB 154) 179 = .ok (.goto (-98), 3) by decide +kernel) rfl ?_
  exact k
set_option maxRecDepth 4000 in
theorem b_X14_work_182 {xs : Nat → Int32} {L d : Nat} {S : Nat → Shp} {I : Nat → Nat → Int32} {J : Nat → Nat → Int64} {R : Nat → Nat → Nat} {c : Nat × Nat} {Q : Option (Option Value) → MH → Prop} {x1 x2 x3 x4 : Int32} {v5 : Value} (hL : Lay S R)  (k : X xs L d 148 0 [.ref 65, .int (I 65 29), .int x2, .int x1] [] (S, I, J, R, c) (Kc xs L (d + 1) 154 196 [.ref 65, .int x1, .int x2, .int x3, .int x4, v5] [.ref 112] Q)) : X xs L (d + 1) 154 182 [.ref 65, .int x1, .int x2, .int x3, .int x4, v5] [] (S, I, J, R, c) Q := by
  refine X_aload_n (q := 0) (show decode (mB 154) 182 = .ok (.aload_n 0, 1) by decide +kernel) (pc' := 183) rfl rfl rfl ?_
  refine X_getR (ci := 13) (f := 23) (q := 112) (show decode (mB 154) 183 = .ok (.getfield 61, 3) by decide +kernel) (pc' := 186) rfl (ls_65 hL) (by decide +kernel) rfl (lr_65_23 hL) ?_
  refine X_aload_n (q := 0) (show decode (mB 154) 186 = .ok (.aload_n 0, 1) by decide +kernel) (pc' := 187) rfl rfl rfl ?_
  refine X_aload_n (q := 0) (show decode (mB 154) 187 = .ok (.aload_n 0, 1) by decide +kernel) (pc' := 188) rfl rfl rfl ?_
  refine X_getI (ci := 13) (f := 29) (x := I 65 29) (show decode (mB 154) 188 = .ok (.getfield 277, 3) by decide +kernel) (pc' := 191) rfl (ls_65 hL) (by decide +kernel) rfl rfl ?_
  refine X_iload_n (q := 2) (show decode (mB 154) 191 = .ok (.iload_n 2, 1) by decide +kernel) (pc' := 192) rfl rfl rfl ?_
  refine X_iload_n (q := 1) (show decode (mB 154) 192 = .ok (.iload_n 1, 1) by decide +kernel) (pc' := 193) rfl rfl rfl ?_
  exact X_callV (y := 148) (n := 3) (st := [.int x1, .int x2, .int (I 65 29), .ref 65, .ref 112]) (as := [.ref 65, .int (I 65 29), .int x2, .int x1]) (rest := [.ref 112]) (ls0 := [.ref 65, .int (I 65 29), .int x2, .int x1]) (ci := 13) (show decode (mB 154) 193 = .ok (.invokevirtual 289, 3) by decide +kernel) (pc' := 196) rfl (by decide +kernel) (by decide +kernel) rfl (ls_65 hL) (by decide +kernel) rfl rfl rfl rfl rfl k
set_option maxRecDepth 4000 in
theorem b_X14_work_196 {xs : Nat → Int32} {L d : Nat} {S : Nat → Shp} {I : Nat → Nat → Int32} {J : Nat → Nat → Int64} {R : Nat → Nat → Nat} {c : Nat × Nat} {Q : Option (Option Value) → MH → Prop} {x1 x2 x3 x4 sx1 : Int32} {v5 : Value} (hL : Lay S R) (hb198 : inb sx1 245760 = true) (hb205 : inb x1 40 = true) (k : Q (some none) (S, (u2 (u2 I 112 sx1.toNatClampNeg (vp_nar .byte (x3.toInt8.toInt32))) 117 x1.toNatClampNeg (vp_nar .boolean 1)), J, R, c)) : X xs L (d + 1) 154 196 [.ref 65, .int x1, .int x2, .int x3, .int x4, v5] [.int sx1, .ref 112] (S, I, J, R, c) Q := by
  refine X_iload_n (q := 3) (show decode (mB 154) 196 = .ok (.iload_n 3, 1) by decide +kernel) (pc' := 197) rfl rfl rfl ?_
  refine X_i2b (show decode (mB 154) 197 = .ok (.i2b, 1) by decide +kernel) (pc' := 198) rfl ?_
  refine X_bastore (show decode (mB 154) 198 = .ok (.bastore, 1) by decide +kernel) (pc' := 199) rfl (ls_112 hL) hb198 ?_
  refine X_aload_n (q := 0) (show decode (mB 154) 199 = .ok (.aload_n 0, 1) by decide +kernel) (pc' := 200) rfl rfl rfl ?_
  refine X_getR (ci := 13) (f := 28) (q := 117) (show decode (mB 154) 200 = .ok (.getfield 77, 3) by decide +kernel) (pc' := 203) rfl (ls_65 hL) (by decide +kernel) rfl (lr_65_28 hL) ?_
  refine X_iload_n (q := 1) (show decode (mB 154) 203 = .ok (.iload_n 1, 1) by decide +kernel) (pc' := 204) rfl rfl rfl ?_
  refine X_iconst (v := 1) (show decode (mB 154) 204 = .ok (.iconst 1, 1) by decide +kernel) (pc' := 205) rfl rfl ?_
  refine X_zastore (show decode (mB 154) 205 = .ok (.bastore, 1) by decide +kernel) (pc' := 206) rfl (ls_117 hL) hb205 ?_
  exact X_return (show decode (mB 154) 206 = .ok (.return_, 1) by decide +kernel) (by decide +kernel) k
set_option maxRecDepth 4000 in
theorem b_X14_judge_0 {xs : Nat → Int32} {L d : Nat} {S : Nat → Shp} {I : Nat → Nat → Int32} {J : Nat → Nat → Int64} {R : Nat → Nat → Nat} {c : Nat × Nat} {Q : Option (Option Value) → MH → Prop} {x1 : Int32} (hL : Lay S R) (hb11 : inb x1 512 = true) (hb18 : inb x1 512 = true) (k : X xs L (d + 1) 155 21 [.ref 65, .int x1, .int 0, .null, .null] [] (S, (u2 (u2 (u2 I 65 29 x1) 113 x1.toNatClampNeg (vp_nar .boolean 0)) 114 x1.toNatClampNeg (vp_nar .boolean 0)), J, R, c) Q) : X xs L (d + 1) 155 0 [.ref 65, .int x1, .null, .null, .null] [] (S, I, J, R, c) Q := by
  refine X_aload_n (q := 0) (show decode (mB 155) 0 = .ok (.aload_n 0, 1) by decide +kernel) (pc' := 1) rfl rfl rfl ?_
  refine X_iload_n (q := 1) (show decode (mB 155) 1 = .ok (.iload_n 1, 1) by decide +kernel) (pc' := 2) rfl rfl rfl ?_
  refine X_putI (ci := 13) (f := 29) (show decode (mB 155) 2 = .ok (.putfield 277, 3) by decide +kernel) (pc' := 5) rfl (ls_65 hL) (by decide +kernel) (by decide +kernel) rfl ?_
  refine X_aload_n (q := 0) (show decode (mB 155) 5 = .ok (.aload_n 0, 1) by decide +kernel) (pc' := 6) rfl rfl rfl ?_
  refine X_getR (ci := 13) (f := 24) (q := 113) (show decode (mB 155) 6 = .ok (.getfield 64, 3) by decide +kernel) (pc' := 9) rfl (ls_65 hL) (by decide +kernel) rfl (lr_65_24 hL) ?_
  refine X_iload_n (q := 1) (show decode (mB 155) 9 = .ok (.iload_n 1, 1) by decide +kernel) (pc' := 10) rfl rfl rfl ?_
  refine X_iconst (v := 0) (show decode (mB 155) 10 = .ok (.iconst 0, 1) by decide +kernel) (pc' := 11) rfl rfl ?_
  refine X_zastore (show decode (mB 155) 11 = .ok (.bastore, 1) by decide +kernel) (pc' := 12) rfl (ls_113 hL) hb11 ?_
  refine X_aload_n (q := 0) (show decode (mB 155) 12 = .ok (.aload_n 0, 1) by decide +kernel) (pc' := 13) rfl rfl rfl ?_
  refine X_getR (ci := 13) (f := 25) (q := 114) (show decode (mB 155) 13 = .ok (.getfield 68, 3) by decide +kernel) (pc' := 16) rfl (ls_65 hL) (by decide +kernel) rfl (lr_65_25 hL) ?_
  refine X_iload_n (q := 1) (show decode (mB 155) 16 = .ok (.iload_n 1, 1) by decide +kernel) (pc' := 17) rfl rfl rfl ?_
  refine X_iconst (v := 0) (show decode (mB 155) 17 = .ok (.iconst 0, 1) by decide +kernel) (pc' := 18) rfl rfl ?_
  refine X_zastore (show decode (mB 155) 18 = .ok (.bastore, 1) by decide +kernel) (pc' := 19) rfl (ls_114 hL) hb18 ?_
  refine X_iconst (v := 0) (show decode (mB 155) 19 = .ok (.iconst 0, 1) by decide +kernel) (pc' := 20) rfl rfl ?_
  refine X_istore_n (q := 2) (ls' := [.ref 65, .int x1, .int 0, .null, .null]) (show decode (mB 155) 20 = .ok (.istore_n 2, 1) by decide +kernel) (pc' := 21) rfl rfl rfl ?_
  exact k
set_option maxRecDepth 4000 in
theorem b_X14_judge_21 {xs : Nat → Int32} {L d : Nat} {S : Nat → Shp} {I : Nat → Nat → Int32} {J : Nat → Nat → Int64} {R : Nat → Nat → Nat} {c : Nat × Nat} {Q : Option (Option Value) → MH → Prop} {x1 x2 : Int32} {v3 : Value} {q_65_13 : Nat} (hL : Lay S R) (hq_65_13 : R 65 13 = q_65_13) (h_q_65_13 : LyCs S R q_65_13) (kt : (I q_65_13 9) < x2 → X xs L (d + 1) 155 89 [.ref 65, .int x1, .int x2, v3, .null] [] (S, I, J, R, c) Q) (kf : ¬ ((I q_65_13 9) < x2) → X xs L (d + 1) 155 32 [.ref 65, .int x1, .int x2, v3, .null] [] (S, I, J, R, c) Q) : X xs L (d + 1) 155 21 [.ref 65, .int x1, .int x2, v3, .null] [] (S, I, J, R, c) Q := by
  refine X_iload_n (q := 2) (show decode (mB 155) 21 = .ok (.iload_n 2, 1) by decide +kernel) (pc' := 22) rfl rfl rfl ?_
  refine X_aload_n (q := 0) (show decode (mB 155) 22 = .ok (.aload_n 0, 1) by decide +kernel) (pc' := 23) rfl rfl rfl ?_
  refine X_getR (ci := 13) (f := 13) (q := q_65_13) (show decode (mB 155) 23 = .ok (.getfield 233, 3) by decide +kernel) (pc' := 26) rfl (ls_65 hL) (by decide +kernel) rfl hq_65_13 ?_
  refine X_getI (ci := 10) (f := 9) (x := I q_65_13 9) (show decode (mB 155) 26 = .ok (.getfield 259, 3) by decide +kernel) (pc' := 29) rfl h_q_65_13.s0 (by decide +kernel) rfl rfl ?_
  exact X_icmp_gt (tgt := 89) (show decode (mB 155) 29 = .ok (.if_icmp .gt 60, 3) by decide +kernel) rfl (pc' := 32) rfl kt kf
set_option maxRecDepth 4000 in
theorem b_X14_judge_32 {xs : Nat → Int32} {L d : Nat} {S : Nat → Shp} {I : Nat → Nat → Int32} {J : Nat → Nat → Int64} {R : Nat → Nat → Nat} {c : Nat × Nat} {Q : Option (Option Value) → MH → Prop} {x1 x2 : Int32} {v3 : Value}  (k : X xs L (d + 1) 155 34 [.ref 65, .int x1, .int x2, .int 0, .null] [] (S, I, J, R, c) Q) : X xs L (d + 1) 155 32 [.ref 65, .int x1, .int x2, v3, .null] [] (S, I, J, R, c) Q := by
  refine X_iconst (v := 0) (show decode (mB 155) 32 = .ok (.iconst 0, 1) by decide +kernel) (pc' := 33) rfl rfl ?_
  refine X_istore_n (q := 3) (ls' := [.ref 65, .int x1, .int x2, .int 0, .null]) (show decode (mB 155) 33 = .ok (.istore_n 3, 1) by decide +kernel) (pc' := 34) rfl rfl rfl ?_
  exact k
set_option maxRecDepth 4000 in
theorem b_X14_judge_34 {xs : Nat → Int32} {L d : Nat} {S : Nat → Shp} {I : Nat → Nat → Int32} {J : Nat → Nat → Int64} {R : Nat → Nat → Nat} {c : Nat × Nat} {Q : Option (Option Value) → MH → Prop} {x1 x2 x3 : Int32} {q_65_11 : Nat} (hL : Lay S R) (hq_65_11 : R 65 11 = q_65_11) (h_q_65_11 : LyNo S R q_65_11) (kt : (I q_65_11 4) ≤ x3 → X xs L (d + 1) 155 58 [.ref 65, .int x1, .int x2, .int x3, .null] [] (S, I, J, R, c) Q) (kf : ¬ ((I q_65_11 4) ≤ x3) → X xs L (d + 1) 155 45 [.ref 65, .int x1, .int x2, .int x3, .null] [] (S, I, J, R, c) Q) : X xs L (d + 1) 155 34 [.ref 65, .int x1, .int x2, .int x3, .null] [] (S, I, J, R, c) Q := by
  refine X_iload_n (q := 3) (show decode (mB 155) 34 = .ok (.iload_n 3, 1) by decide +kernel) (pc' := 35) rfl rfl rfl ?_
  refine X_aload_n (q := 0) (show decode (mB 155) 35 = .ok (.aload_n 0, 1) by decide +kernel) (pc' := 36) rfl rfl rfl ?_
  refine X_getR (ci := 13) (f := 11) (q := q_65_11) (show decode (mB 155) 36 = .ok (.getfield 40, 3) by decide +kernel) (pc' := 39) rfl (ls_65 hL) (by decide +kernel) rfl hq_65_11 ?_
  refine X_getI (ci := 11) (f := 4) (x := I q_65_11 4) (show decode (mB 155) 39 = .ok (.getfield 200, 3) by decide +kernel) (pc' := 42) rfl h_q_65_11.s0 (by decide +kernel) rfl rfl ?_
  exact X_icmp_ge (tgt := 58) (show decode (mB 155) 42 = .ok (.if_icmp .ge 16, 3) by decide +kernel) rfl (pc' := 45) rfl kt kf
set_option maxRecDepth 4000 in
theorem b_X14_judge_45 {xs : Nat → Int32} {L d : Nat} {S : Nat → Shp} {I : Nat → Nat → Int32} {J : Nat → Nat → Int64} {R : Nat → Nat → Nat} {c : Nat × Nat} {Q : Option (Option Value) → MH → Prop} {x1 x2 x3 : Int32} (hL : Lay S R) (hb51 : inb x3 40 = true) (k : X xs L (d + 1) 155 34 [.ref 65, .int x1, .int x2, .int (x3 + 1), .null] [] (S, (u2 I 117 x3.toNatClampNeg (vp_nar .boolean 0)), J, R, c) Q) : X xs L (d + 1) 155 45 [.ref 65, .int x1, .int x2, .int x3, .null] [] (S, I, J, R, c) Q := by
  refine X_aload_n (q := 0) (show decode (mB 155) 45 = .ok (.aload_n 0, 1) by decide +kernel) (pc' := 46) rfl rfl rfl ?_
  refine X_getR (ci := 13) (f := 28) (q := 117) (show decode (mB 155) 46 = .ok (.getfield 77, 3) by decide +kernel) (pc' := 49) rfl (ls_65 hL) (by decide +kernel) rfl (lr_65_28 hL) ?_
  refine X_iload_n (q := 3) (show decode (mB 155) 49 = .ok (.iload_n 3, 1) by decide +kernel) (pc' := 50) rfl rfl rfl ?_
  refine X_iconst (v := 0) (show decode (mB 155) 50 = .ok (.iconst 0, 1) by decide +kernel) (pc' := 51) rfl rfl ?_
  refine X_zastore (show decode (mB 155) 51 = .ok (.bastore, 1) by decide +kernel) (pc' := 52) rfl (ls_117 hL) hb51 ?_
  refine X_iinc (q := 3) (v := x3 + 1) (ls' := [.ref 65, .int x1, .int x2, .int (x3 + 1), .null]) (show decode (mB 155) 52 = .ok (.iinc 3 1, 3) by decide +kernel) (pc' := 55) rfl rfl rfl rfl ?_
  refine X_goto (tgt := 34) (show decode (mB 155) 55 = .ok (.goto (-21), 3) by decide +kernel) rfl ?_
  exact k
set_option maxRecDepth 4000 in
theorem b_X14_judge_58 {xs : Nat → Int32} {L d : Nat} {S : Nat → Shp} {I : Nat → Nat → Int32} {J : Nat → Nat → Int64} {R : Nat → Nat → Nat} {c : Nat × Nat} {Q : Option (Option Value) → MH → Prop} {x1 x2 x3 : Int32}  (k : X xs L (d + 1) 155 60 [.ref 65, .int x1, .int x2, .int 0, .null] [] (S, I, J, R, c) Q) : X xs L (d + 1) 155 58 [.ref 65, .int x1, .int x2, .int x3, .null] [] (S, I, J, R, c) Q := by
  refine X_iconst (v := 0) (show decode (mB 155) 58 = .ok (.iconst 0, 1) by decide +kernel) (pc' := 59) rfl rfl ?_
  refine X_istore_n (q := 3) (ls' := [.ref 65, .int x1, .int x2, .int 0, .null]) (show decode (mB 155) 59 = .ok (.istore_n 3, 1) by decide +kernel) (pc' := 60) rfl rfl rfl ?_
  exact k
set_option maxRecDepth 4000 in
theorem b_X14_judge_60 {xs : Nat → Int32} {L d : Nat} {S : Nat → Shp} {I : Nat → Nat → Int32} {J : Nat → Nat → Int64} {R : Nat → Nat → Nat} {c : Nat × Nat} {Q : Option (Option Value) → MH → Prop} {x1 x2 x3 : Int32} {q_65_11 : Nat} (hL : Lay S R) (hq_65_11 : R 65 11 = q_65_11) (h_q_65_11 : LyNo S R q_65_11) (kt : (I q_65_11 4) ≤ x3 → X xs L (d + 1) 155 83 [.ref 65, .int x1, .int x2, .int x3, .null] [] (S, I, J, R, c) Q) (kf : ¬ ((I q_65_11 4) ≤ x3) → X xs L (d + 1) 155 71 [.ref 65, .int x1, .int x2, .int x3, .null] [] (S, I, J, R, c) Q) : X xs L (d + 1) 155 60 [.ref 65, .int x1, .int x2, .int x3, .null] [] (S, I, J, R, c) Q := by
  refine X_iload_n (q := 3) (show decode (mB 155) 60 = .ok (.iload_n 3, 1) by decide +kernel) (pc' := 61) rfl rfl rfl ?_
  refine X_aload_n (q := 0) (show decode (mB 155) 61 = .ok (.aload_n 0, 1) by decide +kernel) (pc' := 62) rfl rfl rfl ?_
  refine X_getR (ci := 13) (f := 11) (q := q_65_11) (show decode (mB 155) 62 = .ok (.getfield 40, 3) by decide +kernel) (pc' := 65) rfl (ls_65 hL) (by decide +kernel) rfl hq_65_11 ?_
  refine X_getI (ci := 11) (f := 4) (x := I q_65_11 4) (show decode (mB 155) 65 = .ok (.getfield 200, 3) by decide +kernel) (pc' := 68) rfl h_q_65_11.s0 (by decide +kernel) rfl rfl ?_
  exact X_icmp_ge (tgt := 83) (show decode (mB 155) 68 = .ok (.if_icmp .ge 15, 3) by decide +kernel) rfl (pc' := 71) rfl kt kf
set_option maxRecDepth 4000 in
theorem b_X14_judge_71 {xs : Nat → Int32} {L d : Nat} {S : Nat → Shp} {I : Nat → Nat → Int32} {J : Nat → Nat → Int64} {R : Nat → Nat → Nat} {c : Nat × Nat} {Q : Option (Option Value) → MH → Prop} {x1 x2 x3 : Int32} (hL : Lay S R)  (k : X xs L d 154 0 [.ref 65, .int x3, .int x2, .null, .null, .null] [] (S, I, J, R, c) (Kc xs L (d + 1) 155 77 [.ref 65, .int x1, .int x2, .int x3, .null] [] Q)) : X xs L (d + 1) 155 71 [.ref 65, .int x1, .int x2, .int x3, .null] [] (S, I, J, R, c) Q := by
  refine X_aload_n (q := 0) (show decode (mB 155) 71 = .ok (.aload_n 0, 1) by decide +kernel) (pc' := 72) rfl rfl rfl ?_
  refine X_iload_n (q := 3) (show decode (mB 155) 72 = .ok (.iload_n 3, 1) by decide +kernel) (pc' := 73) rfl rfl rfl ?_
  refine X_iload_n (q := 2) (show decode (mB 155) 73 = .ok (.iload_n 2, 1) by decide +kernel) (pc' := 74) rfl rfl rfl ?_
  exact X_callV (y := 154) (n := 2) (st := [.int x2, .int x3, .ref 65]) (as := [.ref 65, .int x3, .int x2]) (rest := []) (ls0 := [.ref 65, .int x3, .int x2, .null, .null, .null]) (ci := 13) (show decode (mB 155) 74 = .ok (.invokevirtual 285, 3) by decide +kernel) (pc' := 77) rfl (by decide +kernel) (by decide +kernel) rfl (ls_65 hL) (by decide +kernel) rfl rfl rfl rfl rfl k
set_option maxRecDepth 4000 in
theorem b_X14_judge_77 {xs : Nat → Int32} {L d : Nat} {S : Nat → Shp} {I : Nat → Nat → Int32} {J : Nat → Nat → Int64} {R : Nat → Nat → Nat} {c : Nat × Nat} {Q : Option (Option Value) → MH → Prop} {x1 x2 x3 : Int32}  (k : X xs L (d + 1) 155 60 [.ref 65, .int x1, .int x2, .int (x3 + 1), .null] [] (S, I, J, R, c) Q) : X xs L (d + 1) 155 77 [.ref 65, .int x1, .int x2, .int x3, .null] [] (S, I, J, R, c) Q := by
  refine X_iinc (q := 3) (v := x3 + 1) (ls' := [.ref 65, .int x1, .int x2, .int (x3 + 1), .null]) (show decode (mB 155) 77 = .ok (.iinc 3 1, 3) by decide +kernel) (pc' := 80) rfl rfl rfl rfl ?_
  refine X_goto (tgt := 60) (show decode (mB 155) 80 = .ok (.goto (-20), 3) by decide +kernel) rfl ?_
  exact k
set_option maxRecDepth 4000 in
theorem b_X14_judge_83 {xs : Nat → Int32} {L d : Nat} {S : Nat → Shp} {I : Nat → Nat → Int32} {J : Nat → Nat → Int64} {R : Nat → Nat → Nat} {c : Nat × Nat} {Q : Option (Option Value) → MH → Prop} {x1 x2 x3 : Int32}  (k : X xs L (d + 1) 155 21 [.ref 65, .int x1, .int (x2 + 1), .int x3, .null] [] (S, I, J, R, c) Q) : X xs L (d + 1) 155 83 [.ref 65, .int x1, .int x2, .int x3, .null] [] (S, I, J, R, c) Q := by
  refine X_iinc (q := 2) (v := x2 + 1) (ls' := [.ref 65, .int x1, .int (x2 + 1), .int x3, .null]) (show decode (mB 155) 83 = .ok (.iinc 2 1, 3) by decide +kernel) (pc' := 86) rfl rfl rfl rfl ?_
  refine X_goto (tgt := 21) (show decode (mB 155) 86 = .ok (.goto (-65), 3) by decide +kernel) rfl ?_
  exact k
set_option maxRecDepth 4000 in
theorem b_X14_judge_89 {xs : Nat → Int32} {L d : Nat} {S : Nat → Shp} {I : Nat → Nat → Int32} {J : Nat → Nat → Int64} {R : Nat → Nat → Nat} {c : Nat × Nat} {Q : Option (Option Value) → MH → Prop} {x1 x2 : Int32} {v3 : Value} (hL : Lay S R) (hb94 : inb x1 512 = true) (kt : (I 113 x1.toNatClampNeg) = 0 → X xs L (d + 1) 155 99 [.ref 65, .int x1, .int x2, v3, .null] [] (S, I, J, R, c) Q) (kf : ¬ ((I 113 x1.toNatClampNeg) = 0) → X xs L (d + 1) 155 98 [.ref 65, .int x1, .int x2, v3, .null] [] (S, I, J, R, c) Q) : X xs L (d + 1) 155 89 [.ref 65, .int x1, .int x2, v3, .null] [] (S, I, J, R, c) Q := by
  refine X_aload_n (q := 0) (show decode (mB 155) 89 = .ok (.aload_n 0, 1) by decide +kernel) (pc' := 90) rfl rfl rfl ?_
  refine X_getR (ci := 13) (f := 24) (q := 113) (show decode (mB 155) 90 = .ok (.getfield 64, 3) by decide +kernel) (pc' := 93) rfl (ls_65 hL) (by decide +kernel) rfl (lr_65_24 hL) ?_
  refine X_iload_n (q := 1) (show decode (mB 155) 93 = .ok (.iload_n 1, 1) by decide +kernel) (pc' := 94) rfl rfl rfl ?_
  refine X_zaload (w := I 113 x1.toNatClampNeg) (show decode (mB 155) 94 = .ok (.baload, 1) by decide +kernel) (pc' := 95) rfl (ls_113 hL) hb94 rfl ?_
  exact X_if_eq (tgt := 99) (show decode (mB 155) 95 = .ok (.ifCond .eq 4, 3) by decide +kernel) rfl (pc' := 98) rfl kt kf
set_option maxRecDepth 4000 in
theorem b_X14_judge_98 {xs : Nat → Int32} {L d : Nat} {S : Nat → Shp} {I : Nat → Nat → Int32} {J : Nat → Nat → Int64} {R : Nat → Nat → Nat} {c : Nat × Nat} {Q : Option (Option Value) → MH → Prop} {x1 x2 : Int32} {v3 : Value}  (k : Q (some none) (S, I, J, R, c)) : X xs L (d + 1) 155 98 [.ref 65, .int x1, .int x2, v3, .null] [] (S, I, J, R, c) Q := by
  exact X_return (show decode (mB 155) 98 = .ok (.return_, 1) by decide +kernel) (by decide +kernel) k
set_option maxRecDepth 4000 in
theorem b_X14_judge_99 {xs : Nat → Int32} {L d : Nat} {S : Nat → Shp} {I : Nat → Nat → Int32} {J : Nat → Nat → Int64} {R : Nat → Nat → Nat} {c : Nat × Nat} {Q : Option (Option Value) → MH → Prop} {x1 x2 : Int32} {v3 : Value}  (k : X xs L (d + 1) 155 102 [.ref 65, .int x1, .int 24, v3, .null] [] (S, I, J, R, c) Q) : X xs L (d + 1) 155 99 [.ref 65, .int x1, .int x2, v3, .null] [] (S, I, J, R, c) Q := by
  refine X_bipush (v := 24) (show decode (mB 155) 99 = .ok (.bipush 24, 2) by decide +kernel) (pc' := 101) rfl (by decide +kernel) ?_
  refine X_istore_n (q := 2) (ls' := [.ref 65, .int x1, .int 24, v3, .null]) (show decode (mB 155) 101 = .ok (.istore_n 2, 1) by decide +kernel) (pc' := 102) rfl rfl rfl ?_
  exact k
set_option maxRecDepth 4000 in
theorem b_X14_judge_102 {xs : Nat → Int32} {L d : Nat} {S : Nat → Shp} {I : Nat → Nat → Int32} {J : Nat → Nat → Int64} {R : Nat → Nat → Nat} {c : Nat × Nat} {Q : Option (Option Value) → MH → Prop} {x1 x2 : Int32} {v3 v4 : Value} {q_65_13 : Nat} (hL : Lay S R) (hq_65_13 : R 65 13 = q_65_13) (h_q_65_13 : LyCs S R q_65_13) (kt : ((24 : Int32) + (I q_65_13 7)) ≤ x2 → X xs L (d + 1) 155 257 [.ref 65, .int x1, .int x2, v3, v4] [] (S, I, J, R, c) Q) (kf : ¬ (((24 : Int32) + (I q_65_13 7)) ≤ x2) → X xs L (d + 1) 155 116 [.ref 65, .int x1, .int x2, v3, v4] [] (S, I, J, R, c) Q) : X xs L (d + 1) 155 102 [.ref 65, .int x1, .int x2, v3, v4] [] (S, I, J, R, c) Q := by
  refine X_iload_n (q := 2) (show decode (mB 155) 102 = .ok (.iload_n 2, 1) by decide +kernel) (pc' := 103) rfl rfl rfl ?_
  refine X_bipush (v := 24) (show decode (mB 155) 103 = .ok (.bipush 24, 2) by decide +kernel) (pc' := 105) rfl (by decide +kernel) ?_
  refine X_aload_n (q := 0) (show decode (mB 155) 105 = .ok (.aload_n 0, 1) by decide +kernel) (pc' := 106) rfl rfl rfl ?_
  refine X_getR (ci := 13) (f := 13) (q := q_65_13) (show decode (mB 155) 106 = .ok (.getfield 233, 3) by decide +kernel) (pc' := 109) rfl (ls_65 hL) (by decide +kernel) rfl hq_65_13 ?_
  refine X_getI (ci := 10) (f := 7) (x := I q_65_13 7) (show decode (mB 155) 109 = .ok (.getfield 271, 3) by decide +kernel) (pc' := 112) rfl h_q_65_13.s0 (by decide +kernel) rfl rfl ?_
  refine X_iadd (show decode (mB 155) 112 = .ok (.iadd, 1) by decide +kernel) (pc' := 113) rfl ?_
  exact X_icmp_ge (tgt := 257) (show decode (mB 155) 113 = .ok (.if_icmp .ge 144, 3) by decide +kernel) rfl (pc' := 116) rfl kt kf
set_option maxRecDepth 4000 in
theorem b_X14_judge_116 {xs : Nat → Int32} {L d : Nat} {S : Nat → Shp} {I : Nat → Nat → Int32} {J : Nat → Nat → Int64} {R : Nat → Nat → Nat} {c : Nat × Nat} {Q : Option (Option Value) → MH → Prop} {x1 x2 : Int32} {v3 v4 : Value} (hL : Lay S R) (hb121 : inb x1 512 = true) (kt : ¬ (I 114 x1.toNatClampNeg) = 0 → X xs L (d + 1) 155 257 [.ref 65, .int x1, .int x2, v3, v4] [] (S, I, J, R, c) Q) (kf : ¬ (¬ (I 114 x1.toNatClampNeg) = 0) → X xs L (d + 1) 155 125 [.ref 65, .int x1, .int x2, v3, v4] [] (S, I, J, R, c) Q) : X xs L (d + 1) 155 116 [.ref 65, .int x1, .int x2, v3, v4] [] (S, I, J, R, c) Q := by
  refine X_aload_n (q := 0) (show decode (mB 155) 116 = .ok (.aload_n 0, 1) by decide +kernel) (pc' := 117) rfl rfl rfl ?_
  refine X_getR (ci := 13) (f := 25) (q := 114) (show decode (mB 155) 117 = .ok (.getfield 68, 3) by decide +kernel) (pc' := 120) rfl (ls_65 hL) (by decide +kernel) rfl (lr_65_25 hL) ?_
  refine X_iload_n (q := 1) (show decode (mB 155) 120 = .ok (.iload_n 1, 1) by decide +kernel) (pc' := 121) rfl rfl rfl ?_
  refine X_zaload (w := I 114 x1.toNatClampNeg) (show decode (mB 155) 121 = .ok (.baload, 1) by decide +kernel) (pc' := 122) rfl (ls_114 hL) hb121 rfl ?_
  exact X_if_ne (tgt := 257) (show decode (mB 155) 122 = .ok (.ifCond .ne 135, 3) by decide +kernel) rfl (pc' := 125) rfl kt kf
set_option maxRecDepth 4000 in
theorem b_X14_judge_125 {xs : Nat → Int32} {L d : Nat} {S : Nat → Shp} {I : Nat → Nat → Int32} {J : Nat → Nat → Int64} {R : Nat → Nat → Nat} {c : Nat × Nat} {Q : Option (Option Value) → MH → Prop} {x1 x2 : Int32} {v3 v4 : Value} (hL : Lay S R)  (k : X xs L d 153 0 [.ref 65, .int x2] [] (S, I, J, R, c) (Kc xs L (d + 1) 155 130 [.ref 65, .int x1, .int x2, v3, v4] [] Q)) : X xs L (d + 1) 155 125 [.ref 65, .int x1, .int x2, v3, v4] [] (S, I, J, R, c) Q := by
  refine X_aload_n (q := 0) (show decode (mB 155) 125 = .ok (.aload_n 0, 1) by decide +kernel) (pc' := 126) rfl rfl rfl ?_
  refine X_iload_n (q := 2) (show decode (mB 155) 126 = .ok (.iload_n 2, 1) by decide +kernel) (pc' := 127) rfl rfl rfl ?_
  exact X_callV (y := 153) (n := 1) (st := [.int x2, .ref 65]) (as := [.ref 65, .int x2]) (rest := []) (ls0 := [.ref 65, .int x2]) (ci := 13) (show decode (mB 155) 127 = .ok (.invokevirtual 300, 3) by decide +kernel) (pc' := 130) rfl (by decide +kernel) (by decide +kernel) rfl (ls_65 hL) (by decide +kernel) rfl rfl rfl rfl rfl k
set_option maxRecDepth 4000 in
theorem b_X14_judge_130 {xs : Nat → Int32} {L d : Nat} {S : Nat → Shp} {I : Nat → Nat → Int32} {J : Nat → Nat → Int64} {R : Nat → Nat → Nat} {c : Nat × Nat} {Q : Option (Option Value) → MH → Prop} {x1 x2 sx0 : Int32} {v3 v4 : Value}  (kt : ¬ sx0 = 0 → X xs L (d + 1) 155 136 [.ref 65, .int x1, .int x2, v3, v4] [] (S, I, J, R, c) Q) (kf : ¬ (¬ sx0 = 0) → X xs L (d + 1) 155 133 [.ref 65, .int x1, .int x2, v3, v4] [] (S, I, J, R, c) Q) : X xs L (d + 1) 155 130 [.ref 65, .int x1, .int x2, v3, v4] [.int sx0] (S, I, J, R, c) Q := by
  exact X_if_ne (tgt := 136) (show decode (mB 155) 130 = .ok (.ifCond .ne 6, 3) by decide +kernel) rfl (pc' := 133) rfl kt kf
set_option maxRecDepth 4000 in
theorem b_X14_judge_133 {xs : Nat → Int32} {L d : Nat} {S : Nat → Shp} {I : Nat → Nat → Int32} {J : Nat → Nat → Int64} {R : Nat → Nat → Nat} {c : Nat × Nat} {Q : Option (Option Value) → MH → Prop} {x1 x2 : Int32} {v3 v4 : Value}  (k : X xs L (d + 1) 155 251 [.ref 65, .int x1, .int x2, v3, v4] [] (S, I, J, R, c) Q) : X xs L (d + 1) 155 133 [.ref 65, .int x1, .int x2, v3, v4] [] (S, I, J, R, c) Q := by
  refine X_goto (tgt := 251) (show decode (mB 155) 133 = .ok (.goto 118, 3) by decide +kernel) rfl ?_
  exact k
set_option maxRecDepth 4000 in
theorem b_X14_judge_136 {xs : Nat → Int32} {L d : Nat} {S : Nat → Shp} {I : Nat → Nat → Int32} {J : Nat → Nat → Int64} {R : Nat → Nat → Nat} {c : Nat × Nat} {Q : Option (Option Value) → MH → Prop} {x1 x2 : Int32} {v3 v4 : Value} {q_65_13 : Nat} (hL : Lay S R) (hq_65_13 : R 65 13 = q_65_13) (h_q_65_13 : LyCs S R q_65_13) (hb145 : inb x2 48 = true) (k : X xs L d 150 0 [.ref 65, .int (I (q_65_13 + 2) x2.toNatClampNeg)] [] (S, I, J, R, c) (Kc xs L (d + 1) 155 149 [.ref 65, .int x1, .int x2, v3, v4] [] Q)) : X xs L (d + 1) 155 136 [.ref 65, .int x1, .int x2, v3, v4] [] (S, I, J, R, c) Q := by
  refine X_aload_n (q := 0) (show decode (mB 155) 136 = .ok (.aload_n 0, 1) by decide +kernel) (pc' := 137) rfl rfl rfl ?_
  refine X_aload_n (q := 0) (show decode (mB 155) 137 = .ok (.aload_n 0, 1) by decide +kernel) (pc' := 138) rfl rfl rfl ?_
  refine X_getR (ci := 13) (f := 13) (q := q_65_13) (show decode (mB 155) 138 = .ok (.getfield 233, 3) by decide +kernel) (pc' := 141) rfl (ls_65 hL) (by decide +kernel) rfl hq_65_13 ?_
  refine X_getR (ci := 10) (f := 1) (q := (q_65_13 + 2)) (show decode (mB 155) 141 = .ok (.getfield 244, 3) by decide +kernel) (pc' := 144) rfl h_q_65_13.s0 (by decide +kernel) rfl h_q_65_13.r0_1 ?_
  refine X_iload_n (q := 2) (show decode (mB 155) 144 = .ok (.iload_n 2, 1) by decide +kernel) (pc' := 145) rfl rfl rfl ?_
  refine X_iaload (w := I (q_65_13 + 2) x2.toNatClampNeg) (show decode (mB 155) 145 = .ok (.iaload, 1) by decide +kernel) (pc' := 146) rfl h_q_65_13.s2 hb145 rfl ?_
  exact X_callV (y := 150) (n := 1) (st := [.int (I (q_65_13 + 2) x2.toNatClampNeg), .ref 65]) (as := [.ref 65, .int (I (q_65_13 + 2) x2.toNatClampNeg)]) (rest := []) (ls0 := [.ref 65, .int (I (q_65_13 + 2) x2.toNatClampNeg)]) (ci := 13) (show decode (mB 155) 146 = .ok (.invokevirtual 282, 3) by decide +kernel) (pc' := 149) rfl (by decide +kernel) (by decide +kernel) rfl (ls_65 hL) (by decide +kernel) rfl rfl rfl rfl rfl k
set_option maxRecDepth 4000 in
theorem b_X14_judge_149 {xs : Nat → Int32} {L d : Nat} {S : Nat → Shp} {I : Nat → Nat → Int32} {J : Nat → Nat → Int64} {R : Nat → Nat → Nat} {c : Nat × Nat} {Q : Option (Option Value) → MH → Prop} {x1 x2 sx0 : Int32} {v3 v4 : Value}  (kt : sx0 = 0 → X xs L (d + 1) 155 156 [.ref 65, .int x1, .int x2, v3, v4] [] (S, I, J, R, c) Q) (kf : ¬ (sx0 = 0) → X xs L (d + 1) 155 152 [.ref 65, .int x1, .int x2, v3, v4] [] (S, I, J, R, c) Q) : X xs L (d + 1) 155 149 [.ref 65, .int x1, .int x2, v3, v4] [.int sx0] (S, I, J, R, c) Q := by
  exact X_if_eq (tgt := 156) (show decode (mB 155) 149 = .ok (.ifCond .eq 7, 3) by decide +kernel) rfl (pc' := 152) rfl kt kf
set_option maxRecDepth 4000 in
theorem b_X14_judge_152 {xs : Nat → Int32} {L d : Nat} {S : Nat → Shp} {I : Nat → Nat → Int32} {J : Nat → Nat → Int64} {R : Nat → Nat → Nat} {c : Nat × Nat} {Q : Option (Option Value) → MH → Prop} {x1 x2 : Int32} {v3 v4 : Value}  (k : X xs L (d + 1) 155 157 [.ref 65, .int x1, .int x2, v3, v4] [.int 1] (S, I, J, R, c) Q) : X xs L (d + 1) 155 152 [.ref 65, .int x1, .int x2, v3, v4] [] (S, I, J, R, c) Q := by
  refine X_iconst (v := 1) (show decode (mB 155) 152 = .ok (.iconst 1, 1) by decide +kernel) (pc' := 153) rfl rfl ?_
  refine X_goto (tgt := 157) (show decode (mB 155) 153 = .ok (.goto 4, 3) by decide +kernel) rfl ?_
  exact k
set_option maxRecDepth 4000 in
theorem b_X14_judge_156 {xs : Nat → Int32} {L d : Nat} {S : Nat → Shp} {I : Nat → Nat → Int32} {J : Nat → Nat → Int64} {R : Nat → Nat → Nat} {c : Nat × Nat} {Q : Option (Option Value) → MH → Prop} {x1 x2 : Int32} {v3 v4 : Value}  (k : X xs L (d + 1) 155 157 [.ref 65, .int x1, .int x2, v3, v4] [.int 0] (S, I, J, R, c) Q) : X xs L (d + 1) 155 156 [.ref 65, .int x1, .int x2, v3, v4] [] (S, I, J, R, c) Q := by
  refine X_iconst (v := 0) (show decode (mB 155) 156 = .ok (.iconst 0, 1) by decide +kernel) (pc' := 157) rfl rfl ?_
  exact k
set_option maxRecDepth 4000 in
theorem b_X14_judge_157 {xs : Nat → Int32} {L d : Nat} {S : Nat → Shp} {I : Nat → Nat → Int32} {J : Nat → Nat → Int64} {R : Nat → Nat → Nat} {c : Nat × Nat} {Q : Option (Option Value) → MH → Prop} {x1 x2 sx0 : Int32} {v3 v4 : Value} {q_65_13 : Nat} (hL : Lay S R) (hq_65_13 : R 65 13 = q_65_13) (h_q_65_13 : LyCs S R q_65_13) (hb166 : inb x2 48 = true) (k : X xs L (d + 1) 155 169 [.ref 65, .int x1, .int x2, .int sx0, .int (I (q_65_13 + 4) x2.toNatClampNeg)] [] (S, I, J, R, c) Q) : X xs L (d + 1) 155 157 [.ref 65, .int x1, .int x2, v3, v4] [.int sx0] (S, I, J, R, c) Q := by
  refine X_istore_n (q := 3) (ls' := [.ref 65, .int x1, .int x2, .int sx0, v4]) (show decode (mB 155) 157 = .ok (.istore_n 3, 1) by decide +kernel) (pc' := 158) rfl rfl rfl ?_
  refine X_aload_n (q := 0) (show decode (mB 155) 158 = .ok (.aload_n 0, 1) by decide +kernel) (pc' := 159) rfl rfl rfl ?_
  refine X_getR (ci := 13) (f := 13) (q := q_65_13) (show decode (mB 155) 159 = .ok (.getfield 233, 3) by decide +kernel) (pc' := 162) rfl (ls_65 hL) (by decide +kernel) rfl hq_65_13 ?_
  refine X_getR (ci := 10) (f := 3) (q := (q_65_13 + 4)) (show decode (mB 155) 162 = .ok (.getfield 250, 3) by decide +kernel) (pc' := 165) rfl h_q_65_13.s0 (by decide +kernel) rfl h_q_65_13.r0_3 ?_
  refine X_iload_n (q := 2) (show decode (mB 155) 165 = .ok (.iload_n 2, 1) by decide +kernel) (pc' := 166) rfl rfl rfl ?_
  refine X_iaload (w := I (q_65_13 + 4) x2.toNatClampNeg) (show decode (mB 155) 166 = .ok (.iaload, 1) by decide +kernel) (pc' := 167) rfl h_q_65_13.s4 hb166 rfl ?_
  refine X_istore (q := 4) (ls' := [.ref 65, .int x1, .int x2, .int sx0, .int (I (q_65_13 + 4) x2.toNatClampNeg)]) (show decode (mB 155) 167 = .ok (.istore 4, 2) by decide +kernel) (pc' := 169) rfl rfl ?_
  exact k
set_option maxRecDepth 4000 in
theorem b_X14_judge_169 {xs : Nat → Int32} {L d : Nat} {S : Nat → Shp} {I : Nat → Nat → Int32} {J : Nat → Nat → Int64} {R : Nat → Nat → Nat} {c : Nat × Nat} {Q : Option (Option Value) → MH → Prop} {x1 x2 x3 x4 : Int32} {q_65_13 : Nat} (hL : Lay S R) (hq_65_13 : R 65 13 = q_65_13) (h_q_65_13 : LyCs S R q_65_13) (hb179 : inb x2 48 = true) (kt : (I (q_65_13 + 5) x2.toNatClampNeg) < x4 → X xs L (d + 1) 155 251 [.ref 65, .int x1, .int x2, .int x3, .int x4] [] (S, I, J, R, c) Q) (kf : ¬ ((I (q_65_13 + 5) x2.toNatClampNeg) < x4) → X xs L (d + 1) 155 183 [.ref 65, .int x1, .int x2, .int x3, .int x4] [] (S, I, J, R, c) Q) : X xs L (d + 1) 155 169 [.ref 65, .int x1, .int x2, .int x3, .int x4] [] (S, I, J, R, c) Q := by
  refine X_iload (q := 4) (show decode (mB 155) 169 = .ok (.iload 4, 2) by decide +kernel) (pc' := 171) rfl rfl ?_
  refine X_aload_n (q := 0) (show decode (mB 155) 171 = .ok (.aload_n 0, 1) by decide +kernel) (pc' := 172) rfl rfl rfl ?_
  refine X_getR (ci := 13) (f := 13) (q := q_65_13) (show decode (mB 155) 172 = .ok (.getfield 233, 3) by decide +kernel) (pc' := 175) rfl (ls_65 hL) (by decide +kernel) rfl hq_65_13 ?_
  refine X_getR (ci := 10) (f := 4) (q := (q_65_13 + 5)) (show decode (mB 155) 175 = .ok (.getfield 253, 3) by decide +kernel) (pc' := 178) rfl h_q_65_13.s0 (by decide +kernel) rfl h_q_65_13.r0_4 ?_
  refine X_iload_n (q := 2) (show decode (mB 155) 178 = .ok (.iload_n 2, 1) by decide +kernel) (pc' := 179) rfl rfl rfl ?_
  refine X_iaload (w := I (q_65_13 + 5) x2.toNatClampNeg) (show decode (mB 155) 179 = .ok (.iaload, 1) by decide +kernel) (pc' := 180) rfl h_q_65_13.s5 hb179 rfl ?_
  exact X_icmp_gt (tgt := 251) (show decode (mB 155) 180 = .ok (.if_icmp .gt 71, 3) by decide +kernel) rfl (pc' := 183) rfl kt kf
set_option maxRecDepth 4000 in
theorem b_X14_judge_183 {xs : Nat → Int32} {L d : Nat} {S : Nat → Shp} {I : Nat → Nat → Int32} {J : Nat → Nat → Int64} {R : Nat → Nat → Nat} {c : Nat × Nat} {Q : Option (Option Value) → MH → Prop} {x1 x2 x3 x4 : Int32} (hL : Lay S R) (hb188 : inb x1 512 = true) (kt : ¬ (I 114 x1.toNatClampNeg) = 0 → X xs L (d + 1) 155 251 [.ref 65, .int x1, .int x2, .int x3, .int x4] [] (S, I, J, R, c) Q) (kf : ¬ (¬ (I 114 x1.toNatClampNeg) = 0) → X xs L (d + 1) 155 192 [.ref 65, .int x1, .int x2, .int x3, .int x4] [] (S, I, J, R, c) Q) : X xs L (d + 1) 155 183 [.ref 65, .int x1, .int x2, .int x3, .int x4] [] (S, I, J, R, c) Q := by
  refine X_aload_n (q := 0) (show decode (mB 155) 183 = .ok (.aload_n 0, 1) by decide +kernel) (pc' := 184) rfl rfl rfl ?_
  refine X_getR (ci := 13) (f := 25) (q := 114) (show decode (mB 155) 184 = .ok (.getfield 68, 3) by decide +kernel) (pc' := 187) rfl (ls_65 hL) (by decide +kernel) rfl (lr_65_25 hL) ?_
  refine X_iload_n (q := 1) (show decode (mB 155) 187 = .ok (.iload_n 1, 1) by decide +kernel) (pc' := 188) rfl rfl rfl ?_
  refine X_zaload (w := I 114 x1.toNatClampNeg) (show decode (mB 155) 188 = .ok (.baload, 1) by decide +kernel) (pc' := 189) rfl (ls_114 hL) hb188 rfl ?_
  exact X_if_ne (tgt := 251) (show decode (mB 155) 189 = .ok (.ifCond .ne 62, 3) by decide +kernel) rfl (pc' := 192) rfl kt kf
set_option maxRecDepth 4000 in
theorem b_X14_judge_192 {xs : Nat → Int32} {L d : Nat} {S : Nat → Shp} {I : Nat → Nat → Int32} {J : Nat → Nat → Int64} {R : Nat → Nat → Nat} {c : Nat × Nat} {Q : Option (Option Value) → MH → Prop} {x1 x2 x3 x4 : Int32} {q_65_13 : Nat} (hL : Lay S R) (hq_65_13 : R 65 13 = q_65_13) (h_q_65_13 : LyCs S R q_65_13) (hb208 : inb x2 48 = true) (k : X xs L d 148 0 [.ref 65, .int x1, .int x4, .int (I (q_65_13 + 1) x2.toNatClampNeg)] [] (S, I, J, R, c) (Kc xs L (d + 1) 155 212 [.ref 65, .int x1, .int x2, .int x3, .int x4] [.ref 112] Q)) : X xs L (d + 1) 155 192 [.ref 65, .int x1, .int x2, .int x3, .int x4] [] (S, I, J, R, c) Q := by
  refine X_aload_n (q := 0) (show decode (mB 155) 192 = .ok (.aload_n 0, 1) by decide +kernel) (pc' := 193) rfl rfl rfl ?_
  refine X_getR (ci := 13) (f := 23) (q := 112) (show decode (mB 155) 193 = .ok (.getfield 61, 3) by decide +kernel) (pc' := 196) rfl (ls_65 hL) (by decide +kernel) rfl (lr_65_23 hL) ?_
  refine X_aload_n (q := 0) (show decode (mB 155) 196 = .ok (.aload_n 0, 1) by decide +kernel) (pc' := 197) rfl rfl rfl ?_
  refine X_iload_n (q := 1) (show decode (mB 155) 197 = .ok (.iload_n 1, 1) by decide +kernel) (pc' := 198) rfl rfl rfl ?_
  refine X_iload (q := 4) (show decode (mB 155) 198 = .ok (.iload 4, 2) by decide +kernel) (pc' := 200) rfl rfl ?_
  refine X_aload_n (q := 0) (show decode (mB 155) 200 = .ok (.aload_n 0, 1) by decide +kernel) (pc' := 201) rfl rfl rfl ?_
  refine X_getR (ci := 13) (f := 13) (q := q_65_13) (show decode (mB 155) 201 = .ok (.getfield 233, 3) by decide +kernel) (pc' := 204) rfl (ls_65 hL) (by decide +kernel) rfl hq_65_13 ?_
  refine X_getR (ci := 10) (f := 0) (q := (q_65_13 + 1)) (show decode (mB 155) 204 = .ok (.getfield 241, 3) by decide +kernel) (pc' := 207) rfl h_q_65_13.s0 (by decide +kernel) rfl h_q_65_13.r0_0 ?_
  refine X_iload_n (q := 2) (show decode (mB 155) 207 = .ok (.iload_n 2, 1) by decide +kernel) (pc' := 208) rfl rfl rfl ?_
  refine X_iaload (w := I (q_65_13 + 1) x2.toNatClampNeg) (show decode (mB 155) 208 = .ok (.iaload, 1) by decide +kernel) (pc' := 209) rfl h_q_65_13.s1 hb208 rfl ?_
  exact X_callV (y := 148) (n := 3) (st := [.int (I (q_65_13 + 1) x2.toNatClampNeg), .int x4, .int x1, .ref 65, .ref 112]) (as := [.ref 65, .int x1, .int x4, .int (I (q_65_13 + 1) x2.toNatClampNeg)]) (rest := [.ref 112]) (ls0 := [.ref 65, .int x1, .int x4, .int (I (q_65_13 + 1) x2.toNatClampNeg)]) (ci := 13) (show decode (mB 155) 209 = .ok (.invokevirtual 289, 3) by decide +kernel) (pc' := 212) rfl (by decide +kernel) (by decide +kernel) rfl (ls_65 hL) (by decide +kernel) rfl rfl rfl rfl rfl k
set_option maxRecDepth 4000 in
theorem b_X14_judge_212 {xs : Nat → Int32} {L d : Nat} {S : Nat → Shp} {I : Nat → Nat → Int32} {J : Nat → Nat → Int64} {R : Nat → Nat → Nat} {c : Nat × Nat} {Q : Option (Option Value) → MH → Prop} {x1 x2 x3 x4 sx1 : Int32} (hL : Lay S R) (hb212 : inb sx1 245760 = true) (kt : ¬ (I 112 sx1.toNatClampNeg) = x3 → X xs L (d + 1) 155 220 [.ref 65, .int x1, .int x2, .int x3, .int x4] [] (S, I, J, R, c) Q) (kf : ¬ (¬ (I 112 sx1.toNatClampNeg) = x3) → X xs L (d + 1) 155 217 [.ref 65, .int x1, .int x2, .int x3, .int x4] [] (S, I, J, R, c) Q) : X xs L (d + 1) 155 212 [.ref 65, .int x1, .int x2, .int x3, .int x4] [.int sx1, .ref 112] (S, I, J, R, c) Q := by
  refine X_baload (w := I 112 sx1.toNatClampNeg) (show decode (mB 155) 212 = .ok (.baload, 1) by decide +kernel) (pc' := 213) rfl (ls_112 hL) hb212 rfl ?_
  refine X_iload_n (q := 3) (show decode (mB 155) 213 = .ok (.iload_n 3, 1) by decide +kernel) (pc' := 214) rfl rfl rfl ?_
  exact X_icmp_ne (tgt := 220) (show decode (mB 155) 214 = .ok (.if_icmp .ne 6, 3) by decide +kernel) rfl (pc' := 217) rfl kt kf
set_option maxRecDepth 4000 in
theorem b_X14_judge_217 {xs : Nat → Int32} {L d : Nat} {S : Nat → Shp} {I : Nat → Nat → Int32} {J : Nat → Nat → Int64} {R : Nat → Nat → Nat} {c : Nat × Nat} {Q : Option (Option Value) → MH → Prop} {x1 x2 x3 x4 : Int32}  (k : X xs L (d + 1) 155 245 [.ref 65, .int x1, .int x2, .int x3, .int x4] [] (S, I, J, R, c) Q) : X xs L (d + 1) 155 217 [.ref 65, .int x1, .int x2, .int x3, .int x4] [] (S, I, J, R, c) Q := by
  refine X_goto (tgt := 245) (show decode (mB 155) 217 = .ok (.goto 28, 3) by decide +kernel) rfl ?_
  exact k
set_option maxRecDepth 4000 in
theorem b_X14_judge_220 {xs : Nat → Int32} {L d : Nat} {S : Nat → Shp} {I : Nat → Nat → Int32} {J : Nat → Nat → Int64} {R : Nat → Nat → Nat} {c : Nat × Nat} {Q : Option (Option Value) → MH → Prop} {x1 x2 x3 x4 : Int32} (hL : Lay S R) (hb226 : inb x1 512 = true) (hb236 : inb x1 512 = true) (hb244 : inb x1 512 = true) (k : X xs L (d + 1) 155 245 [.ref 65, .int x1, .int x2, .int x3, .int x4] [] (S, (u2 (u2 (u2 I 114 x1.toNatClampNeg (vp_nar .boolean 1)) 115 x1.toNatClampNeg (x2 - 24)) 116 x1.toNatClampNeg x4), J, R, c) Q) : X xs L (d + 1) 155 220 [.ref 65, .int x1, .int x2, .int x3, .int x4] [] (S, I, J, R, c) Q := by
  refine X_aload_n (q := 0) (show decode (mB 155) 220 = .ok (.aload_n 0, 1) by decide +kernel) (pc' := 221) rfl rfl rfl ?_
  refine X_getR (ci := 13) (f := 25) (q := 114) (show decode (mB 155) 221 = .ok (.getfield 68, 3) by decide +kernel) (pc' := 224) rfl (ls_65 hL) (by decide +kernel) rfl (lr_65_25 hL) ?_
  refine X_iload_n (q := 1) (show decode (mB 155) 224 = .ok (.iload_n 1, 1) by decide +kernel) (pc' := 225) rfl rfl rfl ?_
  refine X_iconst (v := 1) (show decode (mB 155) 225 = .ok (.iconst 1, 1) by decide +kernel) (pc' := 226) rfl rfl ?_
  refine X_zastore (show decode (mB 155) 226 = .ok (.bastore, 1) by decide +kernel) (pc' := 227) rfl (ls_114 hL) hb226 ?_
  refine X_aload_n (q := 0) (show decode (mB 155) 227 = .ok (.aload_n 0, 1) by decide +kernel) (pc' := 228) rfl rfl rfl ?_
  refine X_getR (ci := 13) (f := 26) (q := 115) (show decode (mB 155) 228 = .ok (.getfield 71, 3) by decide +kernel) (pc' := 231) rfl (ls_65 hL) (by decide +kernel) rfl (lr_65_26 hL) ?_
  refine X_iload_n (q := 1) (show decode (mB 155) 231 = .ok (.iload_n 1, 1) by decide +kernel) (pc' := 232) rfl rfl rfl ?_
  refine X_iload_n (q := 2) (show decode (mB 155) 232 = .ok (.iload_n 2, 1) by decide +kernel) (pc' := 233) rfl rfl rfl ?_
  refine X_bipush (v := 24) (show decode (mB 155) 233 = .ok (.bipush 24, 2) by decide +kernel) (pc' := 235) rfl (by decide +kernel) ?_
  refine X_isub (show decode (mB 155) 235 = .ok (.isub, 1) by decide +kernel) (pc' := 236) rfl ?_
  refine X_iastore (show decode (mB 155) 236 = .ok (.iastore, 1) by decide +kernel) (pc' := 237) rfl (ls_115 hL) hb236 ?_
  refine X_aload_n (q := 0) (show decode (mB 155) 237 = .ok (.aload_n 0, 1) by decide +kernel) (pc' := 238) rfl rfl rfl ?_
  refine X_getR (ci := 13) (f := 27) (q := 116) (show decode (mB 155) 238 = .ok (.getfield 74, 3) by decide +kernel) (pc' := 241) rfl (ls_65 hL) (by decide +kernel) rfl (lr_65_27 hL) ?_
  refine X_iload_n (q := 1) (show decode (mB 155) 241 = .ok (.iload_n 1, 1) by decide +kernel) (pc' := 242) rfl rfl rfl ?_
  refine X_iload (q := 4) (show decode (mB 155) 242 = .ok (.iload 4, 2) by decide +kernel) (pc' := 244) rfl rfl ?_
  refine X_iastore (show decode (mB 155) 244 = .ok (.iastore, 1) by decide +kernel) (pc' := 245) rfl (ls_116 hL) hb244 ?_
  exact k
set_option maxRecDepth 4000 in
theorem b_X14_judge_245 {xs : Nat → Int32} {L d : Nat} {S : Nat → Shp} {I : Nat → Nat → Int32} {J : Nat → Nat → Int64} {R : Nat → Nat → Nat} {c : Nat × Nat} {Q : Option (Option Value) → MH → Prop} {x1 x2 x3 x4 : Int32}  (k : X xs L (d + 1) 155 169 [.ref 65, .int x1, .int x2, .int x3, .int (x4 + 1)] [] (S, I, J, R, c) Q) : X xs L (d + 1) 155 245 [.ref 65, .int x1, .int x2, .int x3, .int x4] [] (S, I, J, R, c) Q := by
  refine X_iinc (q := 4) (v := x4 + 1) (ls' := [.ref 65, .int x1, .int x2, .int x3, .int (x4 + 1)]) (show decode (mB 155) 245 = .ok (.iinc 4 1, 3) by decide +kernel) (pc' := 248) rfl rfl rfl rfl ?_
  refine X_goto (tgt := 169) (show decode (mB 155) 248 = .ok (.goto (-79), 3) by decide +kernel) rfl ?_
  exact k
set_option maxRecDepth 4000 in
theorem b_X14_judge_251 {xs : Nat → Int32} {L d : Nat} {S : Nat → Shp} {I : Nat → Nat → Int32} {J : Nat → Nat → Int64} {R : Nat → Nat → Nat} {c : Nat × Nat} {Q : Option (Option Value) → MH → Prop} {x1 x2 : Int32} {v3 v4 : Value}  (k : X xs L (d + 1) 155 102 [.ref 65, .int x1, .int (x2 + 1), v3, v4] [] (S, I, J, R, c) Q) : X xs L (d + 1) 155 251 [.ref 65, .int x1, .int x2, v3, v4] [] (S, I, J, R, c) Q := by
  refine X_iinc (q := 2) (v := x2 + 1) (ls' := [.ref 65, .int x1, .int (x2 + 1), v3, v4]) (show decode (mB 155) 251 = .ok (.iinc 2 1, 3) by decide +kernel) (pc' := 254) rfl rfl rfl rfl ?_
  refine X_goto (tgt := 102) (show decode (mB 155) 254 = .ok (.goto (-152), 3) by decide +kernel) rfl ?_
  exact k
set_option maxRecDepth 4000 in
theorem b_X14_judge_257 {xs : Nat → Int32} {L d : Nat} {S : Nat → Shp} {I : Nat → Nat → Int32} {J : Nat → Nat → Int64} {R : Nat → Nat → Nat} {c : Nat × Nat} {Q : Option (Option Value) → MH → Prop} {x1 x2 : Int32} {v3 v4 : Value}  (k : Q (some none) (S, I, J, R, c)) : X xs L (d + 1) 155 257 [.ref 65, .int x1, .int x2, v3, v4] [] (S, I, J, R, c) Q := by
  exact X_return (show decode (mB 155) 257 = .ok (.return_, 1) by decide +kernel) (by decide +kernel) k
set_option maxRecDepth 4000 in
theorem b_X14_all_0 {xs : Nat → Int32} {L d : Nat} {S : Nat → Shp} {I : Nat → Nat → Int32} {J : Nat → Nat → Int64} {R : Nat → Nat → Nat} {c : Nat × Nat} {Q : Option (Option Value) → MH → Prop} {q_65_13 : Nat} (hL : Lay S R) (hq_65_13 : R 65 13 = q_65_13) (kt : ¬ q_65_13 = 0 → X xs L d 156 11 [.ref 65] [] (S, I, J, R, c) Q) (kf : ¬ (¬ q_65_13 = 0) → X xs L d 156 7 [.ref 65] [] (S, I, J, R, c) Q) : X xs L d 156 0 [.ref 65] [] (S, I, J, R, c) Q := by
  refine X_aload_n (q := 0) (show decode (mB 156) 0 = .ok (.aload_n 0, 1) by decide +kernel) (pc' := 1) rfl rfl rfl ?_
  refine X_getR (ci := 13) (f := 13) (q := q_65_13) (show decode (mB 156) 1 = .ok (.getfield 233, 3) by decide +kernel) (pc' := 4) rfl (ls_65 hL) (by decide +kernel) rfl hq_65_13 ?_
  exact X_ifnonnull (tgt := 11) (show decode (mB 156) 4 = .ok (.ifnonnull 7, 3) by decide +kernel) rfl (pc' := 7) rfl kt (fun h => kf (fun z => z h))
set_option maxRecDepth 4000 in
theorem b_X14_all_7 {xs : Nat → Int32} {L d : Nat} {S : Nat → Shp} {I : Nat → Nat → Int32} {J : Nat → Nat → Int64} {R : Nat → Nat → Nat} {c : Nat × Nat} {Q : Option (Option Value) → MH → Prop}   (k : X xs L d 156 20 [.ref 65] [.int 0] (S, I, J, R, c) Q) : X xs L d 156 7 [.ref 65] [] (S, I, J, R, c) Q := by
  refine X_iconst (v := 0) (show decode (mB 156) 7 = .ok (.iconst 0, 1) by decide +kernel) (pc' := 8) rfl rfl ?_
  refine X_goto (tgt := 20) (show decode (mB 156) 8 = .ok (.goto 12, 3) by decide +kernel) rfl ?_
  exact k
set_option maxRecDepth 4000 in
theorem b_X14_all_11 {xs : Nat → Int32} {L d : Nat} {S : Nat → Shp} {I : Nat → Nat → Int32} {J : Nat → Nat → Int64} {R : Nat → Nat → Nat} {c : Nat × Nat} {Q : Option (Option Value) → MH → Prop} {q_65_13 : Nat} (hL : Lay S R) (hq_65_13 : R 65 13 = q_65_13) (h_q_65_13 : LyCs S R q_65_13) (k : X xs L d 156 20 [.ref 65] [.int ((1 : Int32) <<< ((I q_65_13 8) &&& 31))] (S, I, J, R, c) Q) : X xs L d 156 11 [.ref 65] [] (S, I, J, R, c) Q := by
  refine X_iconst (v := 1) (show decode (mB 156) 11 = .ok (.iconst 1, 1) by decide +kernel) (pc' := 12) rfl rfl ?_
  refine X_aload_n (q := 0) (show decode (mB 156) 12 = .ok (.aload_n 0, 1) by decide +kernel) (pc' := 13) rfl rfl rfl ?_
  refine X_getR (ci := 13) (f := 13) (q := q_65_13) (show decode (mB 156) 13 = .ok (.getfield 233, 3) by decide +kernel) (pc' := 16) rfl (ls_65 hL) (by decide +kernel) rfl hq_65_13 ?_
  refine X_getI (ci := 10) (f := 8) (x := I q_65_13 8) (show decode (mB 156) 16 = .ok (.getfield 195, 3) by decide +kernel) (pc' := 19) rfl h_q_65_13.s0 (by decide +kernel) rfl rfl ?_
  refine X_ishl (show decode (mB 156) 19 = .ok (.ishl, 1) by decide +kernel) (pc' := 20) rfl ?_
  exact k
set_option maxRecDepth 4000 in
theorem b_X14_all_20 {xs : Nat → Int32} {L d : Nat} {S : Nat → Shp} {I : Nat → Nat → Int32} {J : Nat → Nat → Int64} {R : Nat → Nat → Nat} {c : Nat × Nat} {Q : Option (Option Value) → MH → Prop} {sx0 : Int32}  (k : Q (some (some (.int sx0))) (S, I, J, R, c)) : X xs L d 156 20 [.ref 65] [.int sx0] (S, I, J, R, c) Q := by
  exact X_ireturn (ty := .int) (show decode (mB 156) 20 = .ok (.ireturn, 1) by decide +kernel) (by decide +kernel) rfl k
set_option maxRecDepth 4000 in
theorem b_X14_fails_0 {xs : Nat → Int32} {L d : Nat} {S : Nat → Shp} {I : Nat → Nat → Int32} {J : Nat → Nat → Int64} {R : Nat → Nat → Nat} {c : Nat × Nat} {Q : Option (Option Value) → MH → Prop} {q_65_13 : Nat} (hL : Lay S R) (hq_65_13 : R 65 13 = q_65_13) (kt : ¬ q_65_13 = 0 → X xs L (d + 1) 157 9 [.ref 65, .null, .null] [] (S, I, J, R, c) Q) (kf : ¬ (¬ q_65_13 = 0) → X xs L (d + 1) 157 7 [.ref 65, .null, .null] [] (S, I, J, R, c) Q) : X xs L (d + 1) 157 0 [.ref 65, .null, .null] [] (S, I, J, R, c) Q := by
  refine X_aload_n (q := 0) (show decode (mB 157) 0 = .ok (.aload_n 0, 1) by decide +kernel) (pc' := 1) rfl rfl rfl ?_
  refine X_getR (ci := 13) (f := 13) (q := q_65_13) (show decode (mB 157) 1 = .ok (.getfield 233, 3) by decide +kernel) (pc' := 4) rfl (ls_65 hL) (by decide +kernel) rfl hq_65_13 ?_
  exact X_ifnonnull (tgt := 9) (show decode (mB 157) 4 = .ok (.ifnonnull 5, 3) by decide +kernel) rfl (pc' := 7) rfl kt (fun h => kf (fun z => z h))
set_option maxRecDepth 4000 in
theorem b_X14_fails_7 {xs : Nat → Int32} {L d : Nat} {S : Nat → Shp} {I : Nat → Nat → Int32} {J : Nat → Nat → Int64} {R : Nat → Nat → Nat} {c : Nat × Nat} {Q : Option (Option Value) → MH → Prop}   (k : Q (some (some (.int (-1)))) (S, I, J, R, c)) : X xs L (d + 1) 157 7 [.ref 65, .null, .null] [] (S, I, J, R, c) Q := by
  refine X_iconst (v := (-1)) (show decode (mB 157) 7 = .ok (.iconst (-1), 1) by decide +kernel) (pc' := 8) rfl rfl ?_
  exact X_ireturn (ty := .int) (show decode (mB 157) 8 = .ok (.ireturn, 1) by decide +kernel) (by decide +kernel) rfl k
set_option maxRecDepth 4000 in
theorem b_X14_fails_9 {xs : Nat → Int32} {L d : Nat} {S : Nat → Shp} {I : Nat → Nat → Int32} {J : Nat → Nat → Int64} {R : Nat → Nat → Nat} {c : Nat × Nat} {Q : Option (Option Value) → MH → Prop}   (k : X xs L (d + 1) 157 13 [.ref 65, .int 0, .int 0] [] (S, I, J, R, c) Q) : X xs L (d + 1) 157 9 [.ref 65, .null, .null] [] (S, I, J, R, c) Q := by
  refine X_iconst (v := 0) (show decode (mB 157) 9 = .ok (.iconst 0, 1) by decide +kernel) (pc' := 10) rfl rfl ?_
  refine X_istore_n (q := 1) (ls' := [.ref 65, .int 0, .null]) (show decode (mB 157) 10 = .ok (.istore_n 1, 1) by decide +kernel) (pc' := 11) rfl rfl rfl ?_
  refine X_iconst (v := 0) (show decode (mB 157) 11 = .ok (.iconst 0, 1) by decide +kernel) (pc' := 12) rfl rfl ?_
  refine X_istore_n (q := 2) (ls' := [.ref 65, .int 0, .int 0]) (show decode (mB 157) 12 = .ok (.istore_n 2, 1) by decide +kernel) (pc' := 13) rfl rfl rfl ?_
  exact k
set_option maxRecDepth 4000 in
theorem b_X14_fails_13 {xs : Nat → Int32} {L d : Nat} {S : Nat → Shp} {I : Nat → Nat → Int32} {J : Nat → Nat → Int64} {R : Nat → Nat → Nat} {c : Nat × Nat} {Q : Option (Option Value) → MH → Prop} {x1 x2 : Int32} (hL : Lay S R)  (k : X xs L d 156 0 [.ref 65] [] (S, I, J, R, c) (Kc xs L (d + 1) 157 18 [.ref 65, .int x1, .int x2] [.int x2] Q)) : X xs L (d + 1) 157 13 [.ref 65, .int x1, .int x2] [] (S, I, J, R, c) Q := by
  refine X_iload_n (q := 2) (show decode (mB 157) 13 = .ok (.iload_n 2, 1) by decide +kernel) (pc' := 14) rfl rfl rfl ?_
  refine X_aload_n (q := 0) (show decode (mB 157) 14 = .ok (.aload_n 0, 1) by decide +kernel) (pc' := 15) rfl rfl rfl ?_
  exact X_callV (y := 156) (n := 0) (st := [.ref 65, .int x2]) (as := [.ref 65]) (rest := [.int x2]) (ls0 := [.ref 65]) (ci := 13) (show decode (mB 157) 15 = .ok (.invokevirtual 303, 3) by decide +kernel) (pc' := 18) rfl (by decide +kernel) (by decide +kernel) rfl (ls_65 hL) (by decide +kernel) rfl rfl rfl rfl rfl k
set_option maxRecDepth 4000 in
theorem b_X14_fails_18 {xs : Nat → Int32} {L d : Nat} {S : Nat → Shp} {I : Nat → Nat → Int32} {J : Nat → Nat → Int64} {R : Nat → Nat → Nat} {c : Nat × Nat} {Q : Option (Option Value) → MH → Prop} {x1 x2 sx0 sx1 : Int32}  (kt : sx1 ≤ sx0 → X xs L (d + 1) 157 44 [.ref 65, .int x1, .int x2] [] (S, I, J, R, c) Q) (kf : ¬ (sx1 ≤ sx0) → X xs L (d + 1) 157 21 [.ref 65, .int x1, .int x2] [] (S, I, J, R, c) Q) : X xs L (d + 1) 157 18 [.ref 65, .int x1, .int x2] [.int sx1, .int sx0] (S, I, J, R, c) Q := by
  exact X_icmp_ge (tgt := 44) (show decode (mB 157) 18 = .ok (.if_icmp .ge 26, 3) by decide +kernel) rfl (pc' := 21) rfl kt kf
set_option maxRecDepth 4000 in
theorem b_X14_fails_21 {xs : Nat → Int32} {L d : Nat} {S : Nat → Shp} {I : Nat → Nat → Int32} {J : Nat → Nat → Int64} {R : Nat → Nat → Nat} {c : Nat × Nat} {Q : Option (Option Value) → MH → Prop} {x1 x2 : Int32} (hL : Lay S R) (hb27 : inb x2 512 = true) (kt : (I 114 x2.toNatClampNeg) = 0 → X xs L (d + 1) 157 35 [.ref 65, .int x1, .int x2] [.int x1] (S, I, J, R, c) Q) (kf : ¬ ((I 114 x2.toNatClampNeg) = 0) → X xs L (d + 1) 157 31 [.ref 65, .int x1, .int x2] [.int x1] (S, I, J, R, c) Q) : X xs L (d + 1) 157 21 [.ref 65, .int x1, .int x2] [] (S, I, J, R, c) Q := by
  refine X_iload_n (q := 1) (show decode (mB 157) 21 = .ok (.iload_n 1, 1) by decide +kernel) (pc' := 22) rfl rfl rfl ?_
  refine X_aload_n (q := 0) (show decode (mB 157) 22 = .ok (.aload_n 0, 1) by decide +kernel) (pc' := 23) rfl rfl rfl ?_
  refine X_getR (ci := 13) (f := 25) (q := 114) (show decode (mB 157) 23 = .ok (.getfield 68, 3) by decide +kernel) (pc' := 26) rfl (ls_65 hL) (by decide +kernel) rfl (lr_65_25 hL) ?_
  refine X_iload_n (q := 2) (show decode (mB 157) 26 = .ok (.iload_n 2, 1) by decide +kernel) (pc' := 27) rfl rfl rfl ?_
  refine X_zaload (w := I 114 x2.toNatClampNeg) (show decode (mB 157) 27 = .ok (.baload, 1) by decide +kernel) (pc' := 28) rfl (ls_114 hL) hb27 rfl ?_
  exact X_if_eq (tgt := 35) (show decode (mB 157) 28 = .ok (.ifCond .eq 7, 3) by decide +kernel) rfl (pc' := 31) rfl kt kf
set_option maxRecDepth 4000 in
theorem b_X14_fails_31 {xs : Nat → Int32} {L d : Nat} {S : Nat → Shp} {I : Nat → Nat → Int32} {J : Nat → Nat → Int64} {R : Nat → Nat → Nat} {c : Nat × Nat} {Q : Option (Option Value) → MH → Prop} {x1 x2 sx0 : Int32}  (k : X xs L (d + 1) 157 36 [.ref 65, .int x1, .int x2] [.int 1, .int sx0] (S, I, J, R, c) Q) : X xs L (d + 1) 157 31 [.ref 65, .int x1, .int x2] [.int sx0] (S, I, J, R, c) Q := by
  refine X_iconst (v := 1) (show decode (mB 157) 31 = .ok (.iconst 1, 1) by decide +kernel) (pc' := 32) rfl rfl ?_
  refine X_goto (tgt := 36) (show decode (mB 157) 32 = .ok (.goto 4, 3) by decide +kernel) rfl ?_
  exact k
set_option maxRecDepth 4000 in
theorem b_X14_fails_35 {xs : Nat → Int32} {L d : Nat} {S : Nat → Shp} {I : Nat → Nat → Int32} {J : Nat → Nat → Int64} {R : Nat → Nat → Nat} {c : Nat × Nat} {Q : Option (Option Value) → MH → Prop} {x1 x2 sx0 : Int32}  (k : X xs L (d + 1) 157 36 [.ref 65, .int x1, .int x2] [.int 0, .int sx0] (S, I, J, R, c) Q) : X xs L (d + 1) 157 35 [.ref 65, .int x1, .int x2] [.int sx0] (S, I, J, R, c) Q := by
  refine X_iconst (v := 0) (show decode (mB 157) 35 = .ok (.iconst 0, 1) by decide +kernel) (pc' := 36) rfl rfl ?_
  exact k
set_option maxRecDepth 4000 in
theorem b_X14_fails_36 {xs : Nat → Int32} {L d : Nat} {S : Nat → Shp} {I : Nat → Nat → Int32} {J : Nat → Nat → Int64} {R : Nat → Nat → Nat} {c : Nat × Nat} {Q : Option (Option Value) → MH → Prop} {x1 x2 sx0 sx1 : Int32}  (k : X xs L (d + 1) 157 13 [.ref 65, .int (sx0 + sx1), .int (x2 + 1)] [] (S, I, J, R, c) Q) : X xs L (d + 1) 157 36 [.ref 65, .int x1, .int x2] [.int sx1, .int sx0] (S, I, J, R, c) Q := by
  refine X_iadd (show decode (mB 157) 36 = .ok (.iadd, 1) by decide +kernel) (pc' := 37) rfl ?_
  refine X_istore_n (q := 1) (ls' := [.ref 65, .int (sx0 + sx1), .int x2]) (show decode (mB 157) 37 = .ok (.istore_n 1, 1) by decide +kernel) (pc' := 38) rfl rfl rfl ?_
  refine X_iinc (q := 2) (v := x2 + 1) (ls' := [.ref 65, .int (sx0 + sx1), .int (x2 + 1)]) (show decode (mB 157) 38 = .ok (.iinc 2 1, 3) by decide +kernel) (pc' := 41) rfl rfl rfl rfl ?_
  refine X_goto (tgt := 13) (show decode (mB 157) 41 = .ok (.goto (-28), 3) by decide +kernel) rfl ?_
  exact k
set_option maxRecDepth 4000 in
theorem b_X14_fails_44 {xs : Nat → Int32} {L d : Nat} {S : Nat → Shp} {I : Nat → Nat → Int32} {J : Nat → Nat → Int64} {R : Nat → Nat → Nat} {c : Nat × Nat} {Q : Option (Option Value) → MH → Prop} {x1 x2 : Int32}  (k : Q (some (some (.int x1))) (S, I, J, R, c)) : X xs L (d + 1) 157 44 [.ref 65, .int x1, .int x2] [] (S, I, J, R, c) Q := by
  refine X_iload_n (q := 1) (show decode (mB 157) 44 = .ok (.iload_n 1, 1) by decide +kernel) (pc' := 45) rfl rfl rfl ?_
  exact X_ireturn (ty := .int) (show decode (mB 157) 45 = .ok (.ireturn, 1) by decide +kernel) (by decide +kernel) rfl k
set_option maxRecDepth 4000 in
theorem b_X14_excluded_0 {xs : Nat → Int32} {L d : Nat} {S : Nat → Shp} {I : Nat → Nat → Int32} {J : Nat → Nat → Int64} {R : Nat → Nat → Nat} {c : Nat × Nat} {Q : Option (Option Value) → MH → Prop} {q_65_13 : Nat} (hL : Lay S R) (hq_65_13 : R 65 13 = q_65_13) (kt : ¬ q_65_13 = 0 → X xs L (d + 1) 158 9 [.ref 65, .null, .null] [] (S, I, J, R, c) Q) (kf : ¬ (¬ q_65_13 = 0) → X xs L (d + 1) 158 7 [.ref 65, .null, .null] [] (S, I, J, R, c) Q) : X xs L (d + 1) 158 0 [.ref 65, .null, .null] [] (S, I, J, R, c) Q := by
  refine X_aload_n (q := 0) (show decode (mB 158) 0 = .ok (.aload_n 0, 1) by decide +kernel) (pc' := 1) rfl rfl rfl ?_
  refine X_getR (ci := 13) (f := 13) (q := q_65_13) (show decode (mB 158) 1 = .ok (.getfield 233, 3) by decide +kernel) (pc' := 4) rfl (ls_65 hL) (by decide +kernel) rfl hq_65_13 ?_
  exact X_ifnonnull (tgt := 9) (show decode (mB 158) 4 = .ok (.ifnonnull 5, 3) by decide +kernel) rfl (pc' := 7) rfl kt (fun h => kf (fun z => z h))
set_option maxRecDepth 4000 in
theorem b_X14_excluded_7 {xs : Nat → Int32} {L d : Nat} {S : Nat → Shp} {I : Nat → Nat → Int32} {J : Nat → Nat → Int64} {R : Nat → Nat → Nat} {c : Nat × Nat} {Q : Option (Option Value) → MH → Prop}   (k : Q (some (some (.int (-1)))) (S, I, J, R, c)) : X xs L (d + 1) 158 7 [.ref 65, .null, .null] [] (S, I, J, R, c) Q := by
  refine X_iconst (v := (-1)) (show decode (mB 158) 7 = .ok (.iconst (-1), 1) by decide +kernel) (pc' := 8) rfl rfl ?_
  exact X_ireturn (ty := .int) (show decode (mB 158) 8 = .ok (.ireturn, 1) by decide +kernel) (by decide +kernel) rfl k
set_option maxRecDepth 4000 in
theorem b_X14_excluded_9 {xs : Nat → Int32} {L d : Nat} {S : Nat → Shp} {I : Nat → Nat → Int32} {J : Nat → Nat → Int64} {R : Nat → Nat → Nat} {c : Nat × Nat} {Q : Option (Option Value) → MH → Prop}   (k : X xs L (d + 1) 158 13 [.ref 65, .int 0, .int 0] [] (S, I, J, R, c) Q) : X xs L (d + 1) 158 9 [.ref 65, .null, .null] [] (S, I, J, R, c) Q := by
  refine X_iconst (v := 0) (show decode (mB 158) 9 = .ok (.iconst 0, 1) by decide +kernel) (pc' := 10) rfl rfl ?_
  refine X_istore_n (q := 1) (ls' := [.ref 65, .int 0, .null]) (show decode (mB 158) 10 = .ok (.istore_n 1, 1) by decide +kernel) (pc' := 11) rfl rfl rfl ?_
  refine X_iconst (v := 0) (show decode (mB 158) 11 = .ok (.iconst 0, 1) by decide +kernel) (pc' := 12) rfl rfl ?_
  refine X_istore_n (q := 2) (ls' := [.ref 65, .int 0, .int 0]) (show decode (mB 158) 12 = .ok (.istore_n 2, 1) by decide +kernel) (pc' := 13) rfl rfl rfl ?_
  exact k
set_option maxRecDepth 4000 in
theorem b_X14_excluded_13 {xs : Nat → Int32} {L d : Nat} {S : Nat → Shp} {I : Nat → Nat → Int32} {J : Nat → Nat → Int64} {R : Nat → Nat → Nat} {c : Nat × Nat} {Q : Option (Option Value) → MH → Prop} {x1 x2 : Int32} (hL : Lay S R)  (k : X xs L d 156 0 [.ref 65] [] (S, I, J, R, c) (Kc xs L (d + 1) 158 18 [.ref 65, .int x1, .int x2] [.int x2] Q)) : X xs L (d + 1) 158 13 [.ref 65, .int x1, .int x2] [] (S, I, J, R, c) Q := by
  refine X_iload_n (q := 2) (show decode (mB 158) 13 = .ok (.iload_n 2, 1) by decide +kernel) (pc' := 14) rfl rfl rfl ?_
  refine X_aload_n (q := 0) (show decode (mB 158) 14 = .ok (.aload_n 0, 1) by decide +kernel) (pc' := 15) rfl rfl rfl ?_
  exact X_callV (y := 156) (n := 0) (st := [.ref 65, .int x2]) (as := [.ref 65]) (rest := [.int x2]) (ls0 := [.ref 65]) (ci := 13) (show decode (mB 158) 15 = .ok (.invokevirtual 303, 3) by decide +kernel) (pc' := 18) rfl (by decide +kernel) (by decide +kernel) rfl (ls_65 hL) (by decide +kernel) rfl rfl rfl rfl rfl k
set_option maxRecDepth 4000 in
theorem b_X14_excluded_18 {xs : Nat → Int32} {L d : Nat} {S : Nat → Shp} {I : Nat → Nat → Int32} {J : Nat → Nat → Int64} {R : Nat → Nat → Nat} {c : Nat × Nat} {Q : Option (Option Value) → MH → Prop} {x1 x2 sx0 sx1 : Int32}  (kt : sx1 ≤ sx0 → X xs L (d + 1) 158 44 [.ref 65, .int x1, .int x2] [] (S, I, J, R, c) Q) (kf : ¬ (sx1 ≤ sx0) → X xs L (d + 1) 158 21 [.ref 65, .int x1, .int x2] [] (S, I, J, R, c) Q) : X xs L (d + 1) 158 18 [.ref 65, .int x1, .int x2] [.int sx1, .int sx0] (S, I, J, R, c) Q := by
  exact X_icmp_ge (tgt := 44) (show decode (mB 158) 18 = .ok (.if_icmp .ge 26, 3) by decide +kernel) rfl (pc' := 21) rfl kt kf
set_option maxRecDepth 4000 in
theorem b_X14_excluded_21 {xs : Nat → Int32} {L d : Nat} {S : Nat → Shp} {I : Nat → Nat → Int32} {J : Nat → Nat → Int64} {R : Nat → Nat → Nat} {c : Nat × Nat} {Q : Option (Option Value) → MH → Prop} {x1 x2 : Int32} (hL : Lay S R) (hb27 : inb x2 512 = true) (kt : (I 113 x2.toNatClampNeg) = 0 → X xs L (d + 1) 158 35 [.ref 65, .int x1, .int x2] [.int x1] (S, I, J, R, c) Q) (kf : ¬ ((I 113 x2.toNatClampNeg) = 0) → X xs L (d + 1) 158 31 [.ref 65, .int x1, .int x2] [.int x1] (S, I, J, R, c) Q) : X xs L (d + 1) 158 21 [.ref 65, .int x1, .int x2] [] (S, I, J, R, c) Q := by
  refine X_iload_n (q := 1) (show decode (mB 158) 21 = .ok (.iload_n 1, 1) by decide +kernel) (pc' := 22) rfl rfl rfl ?_
  refine X_aload_n (q := 0) (show decode (mB 158) 22 = .ok (.aload_n 0, 1) by decide +kernel) (pc' := 23) rfl rfl rfl ?_
  refine X_getR (ci := 13) (f := 24) (q := 113) (show decode (mB 158) 23 = .ok (.getfield 64, 3) by decide +kernel) (pc' := 26) rfl (ls_65 hL) (by decide +kernel) rfl (lr_65_24 hL) ?_
  refine X_iload_n (q := 2) (show decode (mB 158) 26 = .ok (.iload_n 2, 1) by decide +kernel) (pc' := 27) rfl rfl rfl ?_
  refine X_zaload (w := I 113 x2.toNatClampNeg) (show decode (mB 158) 27 = .ok (.baload, 1) by decide +kernel) (pc' := 28) rfl (ls_113 hL) hb27 rfl ?_
  exact X_if_eq (tgt := 35) (show decode (mB 158) 28 = .ok (.ifCond .eq 7, 3) by decide +kernel) rfl (pc' := 31) rfl kt kf
set_option maxRecDepth 4000 in
theorem b_X14_excluded_31 {xs : Nat → Int32} {L d : Nat} {S : Nat → Shp} {I : Nat → Nat → Int32} {J : Nat → Nat → Int64} {R : Nat → Nat → Nat} {c : Nat × Nat} {Q : Option (Option Value) → MH → Prop} {x1 x2 sx0 : Int32}  (k : X xs L (d + 1) 158 36 [.ref 65, .int x1, .int x2] [.int 1, .int sx0] (S, I, J, R, c) Q) : X xs L (d + 1) 158 31 [.ref 65, .int x1, .int x2] [.int sx0] (S, I, J, R, c) Q := by
  refine X_iconst (v := 1) (show decode (mB 158) 31 = .ok (.iconst 1, 1) by decide +kernel) (pc' := 32) rfl rfl ?_
  refine X_goto (tgt := 36) (show decode (mB 158) 32 = .ok (.goto 4, 3) by decide +kernel) rfl ?_
  exact k
set_option maxRecDepth 4000 in
theorem b_X14_excluded_35 {xs : Nat → Int32} {L d : Nat} {S : Nat → Shp} {I : Nat → Nat → Int32} {J : Nat → Nat → Int64} {R : Nat → Nat → Nat} {c : Nat × Nat} {Q : Option (Option Value) → MH → Prop} {x1 x2 sx0 : Int32}  (k : X xs L (d + 1) 158 36 [.ref 65, .int x1, .int x2] [.int 0, .int sx0] (S, I, J, R, c) Q) : X xs L (d + 1) 158 35 [.ref 65, .int x1, .int x2] [.int sx0] (S, I, J, R, c) Q := by
  refine X_iconst (v := 0) (show decode (mB 158) 35 = .ok (.iconst 0, 1) by decide +kernel) (pc' := 36) rfl rfl ?_
  exact k
set_option maxRecDepth 4000 in
theorem b_X14_excluded_36 {xs : Nat → Int32} {L d : Nat} {S : Nat → Shp} {I : Nat → Nat → Int32} {J : Nat → Nat → Int64} {R : Nat → Nat → Nat} {c : Nat × Nat} {Q : Option (Option Value) → MH → Prop} {x1 x2 sx0 sx1 : Int32}  (k : X xs L (d + 1) 158 13 [.ref 65, .int (sx0 + sx1), .int (x2 + 1)] [] (S, I, J, R, c) Q) : X xs L (d + 1) 158 36 [.ref 65, .int x1, .int x2] [.int sx1, .int sx0] (S, I, J, R, c) Q := by
  refine X_iadd (show decode (mB 158) 36 = .ok (.iadd, 1) by decide +kernel) (pc' := 37) rfl ?_
  refine X_istore_n (q := 1) (ls' := [.ref 65, .int (sx0 + sx1), .int x2]) (show decode (mB 158) 37 = .ok (.istore_n 1, 1) by decide +kernel) (pc' := 38) rfl rfl rfl ?_
  refine X_iinc (q := 2) (v := x2 + 1) (ls' := [.ref 65, .int (sx0 + sx1), .int (x2 + 1)]) (show decode (mB 158) 38 = .ok (.iinc 2 1, 3) by decide +kernel) (pc' := 41) rfl rfl rfl rfl ?_
  refine X_goto (tgt := 13) (show decode (mB 158) 41 = .ok (.goto (-28), 3) by decide +kernel) rfl ?_
  exact k
set_option maxRecDepth 4000 in
theorem b_X14_excluded_44 {xs : Nat → Int32} {L d : Nat} {S : Nat → Shp} {I : Nat → Nat → Int32} {J : Nat → Nat → Int64} {R : Nat → Nat → Nat} {c : Nat × Nat} {Q : Option (Option Value) → MH → Prop} {x1 x2 : Int32}  (k : Q (some (some (.int x1))) (S, I, J, R, c)) : X xs L (d + 1) 158 44 [.ref 65, .int x1, .int x2] [] (S, I, J, R, c) Q := by
  refine X_iload_n (q := 1) (show decode (mB 158) 44 = .ok (.iload_n 1, 1) by decide +kernel) (pc' := 45) rfl rfl rfl ?_
  exact X_ireturn (ty := .int) (show decode (mB 158) 45 = .ok (.ireturn, 1) by decide +kernel) (by decide +kernel) rfl k
set_option maxRecDepth 4000 in
theorem b_X14_failing_0 {xs : Nat → Int32} {L d : Nat} {S : Nat → Shp} {I : Nat → Nat → Int32} {J : Nat → Nat → Int64} {R : Nat → Nat → Nat} {c : Nat × Nat} {Q : Option (Option Value) → MH → Prop} {x1 : Int32}  (k : X xs L (d + 1) 159 4 [.ref 65, .int x1, .int 0, .int 0] [] (S, I, J, R, c) Q) : X xs L (d + 1) 159 0 [.ref 65, .int x1, .null, .null] [] (S, I, J, R, c) Q := by
  refine X_iconst (v := 0) (show decode (mB 159) 0 = .ok (.iconst 0, 1) by decide +kernel) (pc' := 1) rfl rfl ?_
  refine X_istore_n (q := 2) (ls' := [.ref 65, .int x1, .int 0, .null]) (show decode (mB 159) 1 = .ok (.istore_n 2, 1) by decide +kernel) (pc' := 2) rfl rfl rfl ?_
  refine X_iconst (v := 0) (show decode (mB 159) 2 = .ok (.iconst 0, 1) by decide +kernel) (pc' := 3) rfl rfl ?_
  refine X_istore_n (q := 3) (ls' := [.ref 65, .int x1, .int 0, .int 0]) (show decode (mB 159) 3 = .ok (.istore_n 3, 1) by decide +kernel) (pc' := 4) rfl rfl rfl ?_
  exact k
set_option maxRecDepth 4000 in
theorem b_X14_failing_4 {xs : Nat → Int32} {L d : Nat} {S : Nat → Shp} {I : Nat → Nat → Int32} {J : Nat → Nat → Int64} {R : Nat → Nat → Nat} {c : Nat × Nat} {Q : Option (Option Value) → MH → Prop} {x1 x2 x3 : Int32} (hL : Lay S R)  (k : X xs L d 156 0 [.ref 65] [] (S, I, J, R, c) (Kc xs L (d + 1) 159 9 [.ref 65, .int x1, .int x2, .int x3] [.int x3] Q)) : X xs L (d + 1) 159 4 [.ref 65, .int x1, .int x2, .int x3] [] (S, I, J, R, c) Q := by
  refine X_iload_n (q := 3) (show decode (mB 159) 4 = .ok (.iload_n 3, 1) by decide +kernel) (pc' := 5) rfl rfl rfl ?_
  refine X_aload_n (q := 0) (show decode (mB 159) 5 = .ok (.aload_n 0, 1) by decide +kernel) (pc' := 6) rfl rfl rfl ?_
  exact X_callV (y := 156) (n := 0) (st := [.ref 65, .int x3]) (as := [.ref 65]) (rest := [.int x3]) (ls0 := [.ref 65]) (ci := 13) (show decode (mB 159) 6 = .ok (.invokevirtual 303, 3) by decide +kernel) (pc' := 9) rfl (by decide +kernel) (by decide +kernel) rfl (ls_65 hL) (by decide +kernel) rfl rfl rfl rfl rfl k
set_option maxRecDepth 4000 in
theorem b_X14_failing_9 {xs : Nat → Int32} {L d : Nat} {S : Nat → Shp} {I : Nat → Nat → Int32} {J : Nat → Nat → Int64} {R : Nat → Nat → Nat} {c : Nat × Nat} {Q : Option (Option Value) → MH → Prop} {x1 x2 x3 sx0 sx1 : Int32}  (kt : sx1 ≤ sx0 → X xs L (d + 1) 159 40 [.ref 65, .int x1, .int x2, .int x3] [] (S, I, J, R, c) Q) (kf : ¬ (sx1 ≤ sx0) → X xs L (d + 1) 159 12 [.ref 65, .int x1, .int x2, .int x3] [] (S, I, J, R, c) Q) : X xs L (d + 1) 159 9 [.ref 65, .int x1, .int x2, .int x3] [.int sx1, .int sx0] (S, I, J, R, c) Q := by
  exact X_icmp_ge (tgt := 40) (show decode (mB 159) 9 = .ok (.if_icmp .ge 31, 3) by decide +kernel) rfl (pc' := 12) rfl kt kf
set_option maxRecDepth 4000 in
theorem b_X14_failing_12 {xs : Nat → Int32} {L d : Nat} {S : Nat → Shp} {I : Nat → Nat → Int32} {J : Nat → Nat → Int64} {R : Nat → Nat → Nat} {c : Nat × Nat} {Q : Option (Option Value) → MH → Prop} {x1 x2 x3 : Int32} (hL : Lay S R) (hb17 : inb x3 512 = true) (kt : ¬ (I 114 x3.toNatClampNeg) = 0 → X xs L (d + 1) 159 24 [.ref 65, .int x1, .int x2, .int x3] [] (S, I, J, R, c) Q) (kf : ¬ (¬ (I 114 x3.toNatClampNeg) = 0) → X xs L (d + 1) 159 21 [.ref 65, .int x1, .int x2, .int x3] [] (S, I, J, R, c) Q) : X xs L (d + 1) 159 12 [.ref 65, .int x1, .int x2, .int x3] [] (S, I, J, R, c) Q := by
  refine X_aload_n (q := 0) (show decode (mB 159) 12 = .ok (.aload_n 0, 1) by decide +kernel) (pc' := 13) rfl rfl rfl ?_
  refine X_getR (ci := 13) (f := 25) (q := 114) (show decode (mB 159) 13 = .ok (.getfield 68, 3) by decide +kernel) (pc' := 16) rfl (ls_65 hL) (by decide +kernel) rfl (lr_65_25 hL) ?_
  refine X_iload_n (q := 3) (show decode (mB 159) 16 = .ok (.iload_n 3, 1) by decide +kernel) (pc' := 17) rfl rfl rfl ?_
  refine X_zaload (w := I 114 x3.toNatClampNeg) (show decode (mB 159) 17 = .ok (.baload, 1) by decide +kernel) (pc' := 18) rfl (ls_114 hL) hb17 rfl ?_
  exact X_if_ne (tgt := 24) (show decode (mB 159) 18 = .ok (.ifCond .ne 6, 3) by decide +kernel) rfl (pc' := 21) rfl kt kf
set_option maxRecDepth 4000 in
theorem b_X14_failing_21 {xs : Nat → Int32} {L d : Nat} {S : Nat → Shp} {I : Nat → Nat → Int32} {J : Nat → Nat → Int64} {R : Nat → Nat → Nat} {c : Nat × Nat} {Q : Option (Option Value) → MH → Prop} {x1 x2 x3 : Int32}  (k : X xs L (d + 1) 159 34 [.ref 65, .int x1, .int x2, .int x3] [] (S, I, J, R, c) Q) : X xs L (d + 1) 159 21 [.ref 65, .int x1, .int x2, .int x3] [] (S, I, J, R, c) Q := by
  refine X_goto (tgt := 34) (show decode (mB 159) 21 = .ok (.goto 13, 3) by decide +kernel) rfl ?_
  exact k
set_option maxRecDepth 4000 in
theorem b_X14_failing_24 {xs : Nat → Int32} {L d : Nat} {S : Nat → Shp} {I : Nat → Nat → Int32} {J : Nat → Nat → Int64} {R : Nat → Nat → Nat} {c : Nat × Nat} {Q : Option (Option Value) → MH → Prop} {x1 x2 x3 : Int32}  (kt : ¬ x2 = x1 → X xs L (d + 1) 159 31 [.ref 65, .int x1, .int x2, .int x3] [] (S, I, J, R, c) Q) (kf : ¬ (¬ x2 = x1) → X xs L (d + 1) 159 29 [.ref 65, .int x1, .int x2, .int x3] [] (S, I, J, R, c) Q) : X xs L (d + 1) 159 24 [.ref 65, .int x1, .int x2, .int x3] [] (S, I, J, R, c) Q := by
  refine X_iload_n (q := 2) (show decode (mB 159) 24 = .ok (.iload_n 2, 1) by decide +kernel) (pc' := 25) rfl rfl rfl ?_
  refine X_iload_n (q := 1) (show decode (mB 159) 25 = .ok (.iload_n 1, 1) by decide +kernel) (pc' := 26) rfl rfl rfl ?_
  exact X_icmp_ne (tgt := 31) (show decode (mB 159) 26 = .ok (.if_icmp .ne 5, 3) by decide +kernel) rfl (pc' := 29) rfl kt kf
set_option maxRecDepth 4000 in
theorem b_X14_failing_29 {xs : Nat → Int32} {L d : Nat} {S : Nat → Shp} {I : Nat → Nat → Int32} {J : Nat → Nat → Int64} {R : Nat → Nat → Nat} {c : Nat × Nat} {Q : Option (Option Value) → MH → Prop} {x1 x2 x3 : Int32}  (k : Q (some (some (.int x3))) (S, I, J, R, c)) : X xs L (d + 1) 159 29 [.ref 65, .int x1, .int x2, .int x3] [] (S, I, J, R, c) Q := by
  refine X_iload_n (q := 3) (show decode (mB 159) 29 = .ok (.iload_n 3, 1) by decide +kernel) (pc' := 30) rfl rfl rfl ?_
  exact X_ireturn (ty := .int) (show decode (mB 159) 30 = .ok (.ireturn, 1) by decide +kernel) (by decide +kernel) rfl k
set_option maxRecDepth 4000 in
theorem b_X14_failing_31 {xs : Nat → Int32} {L d : Nat} {S : Nat → Shp} {I : Nat → Nat → Int32} {J : Nat → Nat → Int64} {R : Nat → Nat → Nat} {c : Nat × Nat} {Q : Option (Option Value) → MH → Prop} {x1 x2 x3 : Int32}  (k : X xs L (d + 1) 159 34 [.ref 65, .int x1, .int (x2 + 1), .int x3] [] (S, I, J, R, c) Q) : X xs L (d + 1) 159 31 [.ref 65, .int x1, .int x2, .int x3] [] (S, I, J, R, c) Q := by
  refine X_iinc (q := 2) (v := x2 + 1) (ls' := [.ref 65, .int x1, .int (x2 + 1), .int x3]) (show decode (mB 159) 31 = .ok (.iinc 2 1, 3) by decide +kernel) (pc' := 34) rfl rfl rfl rfl ?_
  exact k
set_option maxRecDepth 4000 in
theorem b_X14_failing_34 {xs : Nat → Int32} {L d : Nat} {S : Nat → Shp} {I : Nat → Nat → Int32} {J : Nat → Nat → Int64} {R : Nat → Nat → Nat} {c : Nat × Nat} {Q : Option (Option Value) → MH → Prop} {x1 x2 x3 : Int32}  (k : X xs L (d + 1) 159 4 [.ref 65, .int x1, .int x2, .int (x3 + 1)] [] (S, I, J, R, c) Q) : X xs L (d + 1) 159 34 [.ref 65, .int x1, .int x2, .int x3] [] (S, I, J, R, c) Q := by
  refine X_iinc (q := 3) (v := x3 + 1) (ls' := [.ref 65, .int x1, .int x2, .int (x3 + 1)]) (show decode (mB 159) 34 = .ok (.iinc 3 1, 3) by decide +kernel) (pc' := 37) rfl rfl rfl rfl ?_
  refine X_goto (tgt := 4) (show decode (mB 159) 37 = .ok (.goto (-33), 3) by decide +kernel) rfl ?_
  exact k
set_option maxRecDepth 4000 in
theorem b_X14_failing_40 {xs : Nat → Int32} {L d : Nat} {S : Nat → Shp} {I : Nat → Nat → Int32} {J : Nat → Nat → Int64} {R : Nat → Nat → Nat} {c : Nat × Nat} {Q : Option (Option Value) → MH → Prop} {x1 x2 x3 : Int32}  (k : Q (some (some (.int (-2)))) (S, I, J, R, c)) : X xs L (d + 1) 159 40 [.ref 65, .int x1, .int x2, .int x3] [] (S, I, J, R, c) Q := by
  refine X_bipush (v := (-2)) (show decode (mB 159) 40 = .ok (.bipush (-2), 2) by decide +kernel) (pc' := 42) rfl (by decide +kernel) ?_
  exact X_ireturn (ty := .int) (show decode (mB 159) 42 = .ok (.ireturn, 1) by decide +kernel) (by decide +kernel) rfl k
set_option maxRecDepth 4000 in
theorem b_X14_shortfall_0 {xs : Nat → Int32} {L d : Nat} {S : Nat → Shp} {I : Nat → Nat → Int32} {J : Nat → Nat → Int64} {R : Nat → Nat → Nat} {c : Nat × Nat} {Q : Option (Option Value) → MH → Prop} {x1 x2 : Int32}  (kt : x2 < 0 → X xs L (d + 1) 160 9 [.ref 65, .int x1, .int x2] [] (S, I, J, R, c) Q) (kf : ¬ (x2 < 0) → X xs L (d + 1) 160 4 [.ref 65, .int x1, .int x2] [] (S, I, J, R, c) Q) : X xs L (d + 1) 160 0 [.ref 65, .int x1, .int x2] [] (S, I, J, R, c) Q := by
  refine X_iload_n (q := 2) (show decode (mB 160) 0 = .ok (.iload_n 2, 1) by decide +kernel) (pc' := 1) rfl rfl rfl ?_
  exact X_if_lt (tgt := 9) (show decode (mB 160) 1 = .ok (.ifCond .lt 8, 3) by decide +kernel) rfl (pc' := 4) rfl kt kf
set_option maxRecDepth 4000 in
theorem b_X14_shortfall_4 {xs : Nat → Int32} {L d : Nat} {S : Nat → Shp} {I : Nat → Nat → Int32} {J : Nat → Nat → Int64} {R : Nat → Nat → Nat} {c : Nat × Nat} {Q : Option (Option Value) → MH → Prop} {x1 x2 : Int32}  (kt : x2 ≤ 1 → X xs L (d + 1) 160 11 [.ref 65, .int x1, .int x2] [] (S, I, J, R, c) Q) (kf : ¬ (x2 ≤ 1) → X xs L (d + 1) 160 9 [.ref 65, .int x1, .int x2] [] (S, I, J, R, c) Q) : X xs L (d + 1) 160 4 [.ref 65, .int x1, .int x2] [] (S, I, J, R, c) Q := by
  refine X_iload_n (q := 2) (show decode (mB 160) 4 = .ok (.iload_n 2, 1) by decide +kernel) (pc' := 5) rfl rfl rfl ?_
  refine X_iconst (v := 1) (show decode (mB 160) 5 = .ok (.iconst 1, 1) by decide +kernel) (pc' := 6) rfl rfl ?_
  exact X_icmp_le (tgt := 11) (show decode (mB 160) 6 = .ok (.if_icmp .le 5, 3) by decide +kernel) rfl (pc' := 9) rfl kt kf
set_option maxRecDepth 4000 in
theorem b_X14_shortfall_9 {xs : Nat → Int32} {L d : Nat} {S : Nat → Shp} {I : Nat → Nat → Int32} {J : Nat → Nat → Int64} {R : Nat → Nat → Nat} {c : Nat × Nat} {Q : Option (Option Value) → MH → Prop} {x1 x2 : Int32}  (k : Q (some (some (.int (-1)))) (S, I, J, R, c)) : X xs L (d + 1) 160 9 [.ref 65, .int x1, .int x2] [] (S, I, J, R, c) Q := by
  refine X_iconst (v := (-1)) (show decode (mB 160) 9 = .ok (.iconst (-1), 1) by decide +kernel) (pc' := 10) rfl rfl ?_
  exact X_ireturn (ty := .int) (show decode (mB 160) 10 = .ok (.ireturn, 1) by decide +kernel) (by decide +kernel) rfl k
set_option maxRecDepth 4000 in
theorem b_X14_shortfall_11 {xs : Nat → Int32} {L d : Nat} {S : Nat → Shp} {I : Nat → Nat → Int32} {J : Nat → Nat → Int64} {R : Nat → Nat → Nat} {c : Nat × Nat} {Q : Option (Option Value) → MH → Prop} {x1 x2 : Int32}  (kt : x1 < 0 → X xs L (d + 1) 160 32 [.ref 65, .int x1, .int x2] [] (S, I, J, R, c) Q) (kf : ¬ (x1 < 0) → X xs L (d + 1) 160 15 [.ref 65, .int x1, .int x2] [] (S, I, J, R, c) Q) : X xs L (d + 1) 160 11 [.ref 65, .int x1, .int x2] [] (S, I, J, R, c) Q := by
  refine X_iload_n (q := 1) (show decode (mB 160) 11 = .ok (.iload_n 1, 1) by decide +kernel) (pc' := 12) rfl rfl rfl ?_
  exact X_if_lt (tgt := 32) (show decode (mB 160) 12 = .ok (.ifCond .lt 20, 3) by decide +kernel) rfl (pc' := 15) rfl kt kf
set_option maxRecDepth 4000 in
theorem b_X14_shortfall_15 {xs : Nat → Int32} {L d : Nat} {S : Nat → Shp} {I : Nat → Nat → Int32} {J : Nat → Nat → Int64} {R : Nat → Nat → Nat} {c : Nat × Nat} {Q : Option (Option Value) → MH → Prop} {x1 x2 : Int32} (hL : Lay S R)  (k : X xs L d 156 0 [.ref 65] [] (S, I, J, R, c) (Kc xs L (d + 1) 160 20 [.ref 65, .int x1, .int x2] [.int x1] Q)) : X xs L (d + 1) 160 15 [.ref 65, .int x1, .int x2] [] (S, I, J, R, c) Q := by
  refine X_iload_n (q := 1) (show decode (mB 160) 15 = .ok (.iload_n 1, 1) by decide +kernel) (pc' := 16) rfl rfl rfl ?_
  refine X_aload_n (q := 0) (show decode (mB 160) 16 = .ok (.aload_n 0, 1) by decide +kernel) (pc' := 17) rfl rfl rfl ?_
  exact X_callV (y := 156) (n := 0) (st := [.ref 65, .int x1]) (as := [.ref 65]) (rest := [.int x1]) (ls0 := [.ref 65]) (ci := 13) (show decode (mB 160) 17 = .ok (.invokevirtual 303, 3) by decide +kernel) (pc' := 20) rfl (by decide +kernel) (by decide +kernel) rfl (ls_65 hL) (by decide +kernel) rfl rfl rfl rfl rfl k
set_option maxRecDepth 4000 in
theorem b_X14_shortfall_20 {xs : Nat → Int32} {L d : Nat} {S : Nat → Shp} {I : Nat → Nat → Int32} {J : Nat → Nat → Int64} {R : Nat → Nat → Nat} {c : Nat × Nat} {Q : Option (Option Value) → MH → Prop} {x1 x2 sx0 sx1 : Int32}  (kt : sx1 ≤ sx0 → X xs L (d + 1) 160 32 [.ref 65, .int x1, .int x2] [] (S, I, J, R, c) Q) (kf : ¬ (sx1 ≤ sx0) → X xs L (d + 1) 160 23 [.ref 65, .int x1, .int x2] [] (S, I, J, R, c) Q) : X xs L (d + 1) 160 20 [.ref 65, .int x1, .int x2] [.int sx1, .int sx0] (S, I, J, R, c) Q := by
  exact X_icmp_ge (tgt := 32) (show decode (mB 160) 20 = .ok (.if_icmp .ge 12, 3) by decide +kernel) rfl (pc' := 23) rfl kt kf
set_option maxRecDepth 4000 in
theorem b_X14_shortfall_23 {xs : Nat → Int32} {L d : Nat} {S : Nat → Shp} {I : Nat → Nat → Int32} {J : Nat → Nat → Int64} {R : Nat → Nat → Nat} {c : Nat × Nat} {Q : Option (Option Value) → MH → Prop} {x1 x2 : Int32} (hL : Lay S R) (hb28 : inb x1 512 = true) (kt : ¬ (I 114 x1.toNatClampNeg) = 0 → X xs L (d + 1) 160 35 [.ref 65, .int x1, .int x2] [] (S, I, J, R, c) Q) (kf : ¬ (¬ (I 114 x1.toNatClampNeg) = 0) → X xs L (d + 1) 160 32 [.ref 65, .int x1, .int x2] [] (S, I, J, R, c) Q) : X xs L (d + 1) 160 23 [.ref 65, .int x1, .int x2] [] (S, I, J, R, c) Q := by
  refine X_aload_n (q := 0) (show decode (mB 160) 23 = .ok (.aload_n 0, 1) by decide +kernel) (pc' := 24) rfl rfl rfl ?_
  refine X_getR (ci := 13) (f := 25) (q := 114) (show decode (mB 160) 24 = .ok (.getfield 68, 3) by decide +kernel) (pc' := 27) rfl (ls_65 hL) (by decide +kernel) rfl (lr_65_25 hL) ?_
  refine X_iload_n (q := 1) (show decode (mB 160) 27 = .ok (.iload_n 1, 1) by decide +kernel) (pc' := 28) rfl rfl rfl ?_
  refine X_zaload (w := I 114 x1.toNatClampNeg) (show decode (mB 160) 28 = .ok (.baload, 1) by decide +kernel) (pc' := 29) rfl (ls_114 hL) hb28 rfl ?_
  exact X_if_ne (tgt := 35) (show decode (mB 160) 29 = .ok (.ifCond .ne 6, 3) by decide +kernel) rfl (pc' := 32) rfl kt kf
set_option maxRecDepth 4000 in
theorem b_X14_shortfall_32 {xs : Nat → Int32} {L d : Nat} {S : Nat → Shp} {I : Nat → Nat → Int32} {J : Nat → Nat → Int64} {R : Nat → Nat → Nat} {c : Nat × Nat} {Q : Option (Option Value) → MH → Prop} {x1 x2 : Int32}  (k : Q (some (some (.int (-2)))) (S, I, J, R, c)) : X xs L (d + 1) 160 32 [.ref 65, .int x1, .int x2] [] (S, I, J, R, c) Q := by
  refine X_bipush (v := (-2)) (show decode (mB 160) 32 = .ok (.bipush (-2), 2) by decide +kernel) (pc' := 34) rfl (by decide +kernel) ?_
  exact X_ireturn (ty := .int) (show decode (mB 160) 34 = .ok (.ireturn, 1) by decide +kernel) (by decide +kernel) rfl k
set_option maxRecDepth 4000 in
theorem b_X14_shortfall_35 {xs : Nat → Int32} {L d : Nat} {S : Nat → Shp} {I : Nat → Nat → Int32} {J : Nat → Nat → Int64} {R : Nat → Nat → Nat} {c : Nat × Nat} {Q : Option (Option Value) → MH → Prop} {x1 x2 : Int32}  (kt : ¬ x2 = 0 → X xs L (d + 1) 160 48 [.ref 65, .int x1, .int x2] [] (S, I, J, R, c) Q) (kf : ¬ (¬ x2 = 0) → X xs L (d + 1) 160 39 [.ref 65, .int x1, .int x2] [] (S, I, J, R, c) Q) : X xs L (d + 1) 160 35 [.ref 65, .int x1, .int x2] [] (S, I, J, R, c) Q := by
  refine X_iload_n (q := 2) (show decode (mB 160) 35 = .ok (.iload_n 2, 1) by decide +kernel) (pc' := 36) rfl rfl rfl ?_
  exact X_if_ne (tgt := 48) (show decode (mB 160) 36 = .ok (.ifCond .ne 12, 3) by decide +kernel) rfl (pc' := 39) rfl kt kf
set_option maxRecDepth 4000 in
theorem b_X14_shortfall_39 {xs : Nat → Int32} {L d : Nat} {S : Nat → Shp} {I : Nat → Nat → Int32} {J : Nat → Nat → Int64} {R : Nat → Nat → Nat} {c : Nat × Nat} {Q : Option (Option Value) → MH → Prop} {x1 x2 : Int32} (hL : Lay S R) (hb44 : inb x1 512 = true) (k : X xs L (d + 1) 160 54 [.ref 65, .int x1, .int x2] [.int (I 115 x1.toNatClampNeg)] (S, I, J, R, c) Q) : X xs L (d + 1) 160 39 [.ref 65, .int x1, .int x2] [] (S, I, J, R, c) Q := by
  refine X_aload_n (q := 0) (show decode (mB 160) 39 = .ok (.aload_n 0, 1) by decide +kernel) (pc' := 40) rfl rfl rfl ?_
  refine X_getR (ci := 13) (f := 26) (q := 115) (show decode (mB 160) 40 = .ok (.getfield 71, 3) by decide +kernel) (pc' := 43) rfl (ls_65 hL) (by decide +kernel) rfl (lr_65_26 hL) ?_
  refine X_iload_n (q := 1) (show decode (mB 160) 43 = .ok (.iload_n 1, 1) by decide +kernel) (pc' := 44) rfl rfl rfl ?_
  refine X_iaload (w := I 115 x1.toNatClampNeg) (show decode (mB 160) 44 = .ok (.iaload, 1) by decide +kernel) (pc' := 45) rfl (ls_115 hL) hb44 rfl ?_
  refine X_goto (tgt := 54) (show decode (mB 160) 45 = .ok (.goto 9, 3) by decide +kernel) rfl ?_
  exact k
set_option maxRecDepth 4000 in
theorem b_X14_shortfall_48 {xs : Nat → Int32} {L d : Nat} {S : Nat → Shp} {I : Nat → Nat → Int32} {J : Nat → Nat → Int64} {R : Nat → Nat → Nat} {c : Nat × Nat} {Q : Option (Option Value) → MH → Prop} {x1 x2 : Int32} (hL : Lay S R) (hb53 : inb x1 512 = true) (k : X xs L (d + 1) 160 54 [.ref 65, .int x1, .int x2] [.int (I 116 x1.toNatClampNeg)] (S, I, J, R, c) Q) : X xs L (d + 1) 160 48 [.ref 65, .int x1, .int x2] [] (S, I, J, R, c) Q := by
  refine X_aload_n (q := 0) (show decode (mB 160) 48 = .ok (.aload_n 0, 1) by decide +kernel) (pc' := 49) rfl rfl rfl ?_
  refine X_getR (ci := 13) (f := 27) (q := 116) (show decode (mB 160) 49 = .ok (.getfield 74, 3) by decide +kernel) (pc' := 52) rfl (ls_65 hL) (by decide +kernel) rfl (lr_65_27 hL) ?_
  refine X_iload_n (q := 1) (show decode (mB 160) 52 = .ok (.iload_n 1, 1) by decide +kernel) (pc' := 53) rfl rfl rfl ?_
  refine X_iaload (w := I 116 x1.toNatClampNeg) (show decode (mB 160) 53 = .ok (.iaload, 1) by decide +kernel) (pc' := 54) rfl (ls_116 hL) hb53 rfl ?_
  exact k
set_option maxRecDepth 4000 in
theorem b_X14_shortfall_54 {xs : Nat → Int32} {L d : Nat} {S : Nat → Shp} {I : Nat → Nat → Int32} {J : Nat → Nat → Int64} {R : Nat → Nat → Nat} {c : Nat × Nat} {Q : Option (Option Value) → MH → Prop} {x1 x2 sx0 : Int32}  (k : Q (some (some (.int sx0))) (S, I, J, R, c)) : X xs L (d + 1) 160 54 [.ref 65, .int x1, .int x2] [.int sx0] (S, I, J, R, c) Q := by
  exact X_ireturn (ty := .int) (show decode (mB 160) 54 = .ok (.ireturn, 1) by decide +kernel) (by decide +kernel) rfl k
set_option maxRecDepth 4000 in
theorem b_X14_isPlace_0 {xs : Nat → Int32} {L d : Nat} {S : Nat → Shp} {I : Nat → Nat → Int32} {J : Nat → Nat → Int64} {R : Nat → Nat → Nat} {c : Nat × Nat} {Q : Option (Option Value) → MH → Prop} {x1 x2 : Int32} {q_65_13 : Nat} (hL : Lay S R) (hq_65_13 : R 65 13 = q_65_13) (kt : q_65_13 = 0 → X xs L d 161 41 [.ref 65, .int x1, .int x2] [] (S, I, J, R, c) Q) (kf : ¬ (q_65_13 = 0) → X xs L d 161 7 [.ref 65, .int x1, .int x2] [] (S, I, J, R, c) Q) : X xs L d 161 0 [.ref 65, .int x1, .int x2] [] (S, I, J, R, c) Q := by
  refine X_aload_n (q := 0) (show decode (mB 161) 0 = .ok (.aload_n 0, 1) by decide +kernel) (pc' := 1) rfl rfl rfl ?_
  refine X_getR (ci := 13) (f := 13) (q := q_65_13) (show decode (mB 161) 1 = .ok (.getfield 233, 3) by decide +kernel) (pc' := 4) rfl (ls_65 hL) (by decide +kernel) rfl hq_65_13 ?_
  exact X_ifnull (tgt := 41) (show decode (mB 161) 4 = .ok (.ifnull 37, 3) by decide +kernel) rfl (pc' := 7) rfl kt (fun h => kf h)
set_option maxRecDepth 4000 in
theorem b_X14_isPlace_7 {xs : Nat → Int32} {L d : Nat} {S : Nat → Shp} {I : Nat → Nat → Int32} {J : Nat → Nat → Int64} {R : Nat → Nat → Nat} {c : Nat × Nat} {Q : Option (Option Value) → MH → Prop} {x1 x2 : Int32}  (kt : x1 < 0 → X xs L d 161 41 [.ref 65, .int x1, .int x2] [] (S, I, J, R, c) Q) (kf : ¬ (x1 < 0) → X xs L d 161 11 [.ref 65, .int x1, .int x2] [] (S, I, J, R, c) Q) : X xs L d 161 7 [.ref 65, .int x1, .int x2] [] (S, I, J, R, c) Q := by
  refine X_iload_n (q := 1) (show decode (mB 161) 7 = .ok (.iload_n 1, 1) by decide +kernel) (pc' := 8) rfl rfl rfl ?_
  exact X_if_lt (tgt := 41) (show decode (mB 161) 8 = .ok (.ifCond .lt 33, 3) by decide +kernel) rfl (pc' := 11) rfl kt kf
set_option maxRecDepth 4000 in
theorem b_X14_isPlace_11 {xs : Nat → Int32} {L d : Nat} {S : Nat → Shp} {I : Nat → Nat → Int32} {J : Nat → Nat → Int64} {R : Nat → Nat → Nat} {c : Nat × Nat} {Q : Option (Option Value) → MH → Prop} {x1 x2 : Int32} {q_65_11 : Nat} (hL : Lay S R) (hq_65_11 : R 65 11 = q_65_11) (h_q_65_11 : LyNo S R q_65_11) (kt : (I q_65_11 4) ≤ x1 → X xs L d 161 41 [.ref 65, .int x1, .int x2] [] (S, I, J, R, c) Q) (kf : ¬ ((I q_65_11 4) ≤ x1) → X xs L d 161 22 [.ref 65, .int x1, .int x2] [] (S, I, J, R, c) Q) : X xs L d 161 11 [.ref 65, .int x1, .int x2] [] (S, I, J, R, c) Q := by
  refine X_iload_n (q := 1) (show decode (mB 161) 11 = .ok (.iload_n 1, 1) by decide +kernel) (pc' := 12) rfl rfl rfl ?_
  refine X_aload_n (q := 0) (show decode (mB 161) 12 = .ok (.aload_n 0, 1) by decide +kernel) (pc' := 13) rfl rfl rfl ?_
  refine X_getR (ci := 13) (f := 11) (q := q_65_11) (show decode (mB 161) 13 = .ok (.getfield 40, 3) by decide +kernel) (pc' := 16) rfl (ls_65 hL) (by decide +kernel) rfl hq_65_11 ?_
  refine X_getI (ci := 11) (f := 4) (x := I q_65_11 4) (show decode (mB 161) 16 = .ok (.getfield 200, 3) by decide +kernel) (pc' := 19) rfl h_q_65_11.s0 (by decide +kernel) rfl rfl ?_
  exact X_icmp_ge (tgt := 41) (show decode (mB 161) 19 = .ok (.if_icmp .ge 22, 3) by decide +kernel) rfl (pc' := 22) rfl kt kf
set_option maxRecDepth 4000 in
theorem b_X14_isPlace_22 {xs : Nat → Int32} {L d : Nat} {S : Nat → Shp} {I : Nat → Nat → Int32} {J : Nat → Nat → Int64} {R : Nat → Nat → Nat} {c : Nat × Nat} {Q : Option (Option Value) → MH → Prop} {x1 x2 : Int32}  (kt : x2 < 0 → X xs L d 161 41 [.ref 65, .int x1, .int x2] [] (S, I, J, R, c) Q) (kf : ¬ (x2 < 0) → X xs L d 161 26 [.ref 65, .int x1, .int x2] [] (S, I, J, R, c) Q) : X xs L d 161 22 [.ref 65, .int x1, .int x2] [] (S, I, J, R, c) Q := by
  refine X_iload_n (q := 2) (show decode (mB 161) 22 = .ok (.iload_n 2, 1) by decide +kernel) (pc' := 23) rfl rfl rfl ?_
  exact X_if_lt (tgt := 41) (show decode (mB 161) 23 = .ok (.ifCond .lt 18, 3) by decide +kernel) rfl (pc' := 26) rfl kt kf
set_option maxRecDepth 4000 in
theorem b_X14_isPlace_26 {xs : Nat → Int32} {L d : Nat} {S : Nat → Shp} {I : Nat → Nat → Int32} {J : Nat → Nat → Int64} {R : Nat → Nat → Nat} {c : Nat × Nat} {Q : Option (Option Value) → MH → Prop} {x1 x2 : Int32} {q_65_13 : Nat} (hL : Lay S R) (hq_65_13 : R 65 13 = q_65_13) (h_q_65_13 : LyCs S R q_65_13) (kt : (I q_65_13 9) < x2 → X xs L d 161 41 [.ref 65, .int x1, .int x2] [] (S, I, J, R, c) Q) (kf : ¬ ((I q_65_13 9) < x2) → X xs L d 161 37 [.ref 65, .int x1, .int x2] [] (S, I, J, R, c) Q) : X xs L d 161 26 [.ref 65, .int x1, .int x2] [] (S, I, J, R, c) Q := by
  refine X_iload_n (q := 2) (show decode (mB 161) 26 = .ok (.iload_n 2, 1) by decide +kernel) (pc' := 27) rfl rfl rfl ?_
  refine X_aload_n (q := 0) (show decode (mB 161) 27 = .ok (.aload_n 0, 1) by decide +kernel) (pc' := 28) rfl rfl rfl ?_
  refine X_getR (ci := 13) (f := 13) (q := q_65_13) (show decode (mB 161) 28 = .ok (.getfield 233, 3) by decide +kernel) (pc' := 31) rfl (ls_65 hL) (by decide +kernel) rfl hq_65_13 ?_
  refine X_getI (ci := 10) (f := 9) (x := I q_65_13 9) (show decode (mB 161) 31 = .ok (.getfield 259, 3) by decide +kernel) (pc' := 34) rfl h_q_65_13.s0 (by decide +kernel) rfl rfl ?_
  exact X_icmp_gt (tgt := 41) (show decode (mB 161) 34 = .ok (.if_icmp .gt 7, 3) by decide +kernel) rfl (pc' := 37) rfl kt kf
set_option maxRecDepth 4000 in
theorem b_X14_isPlace_37 {xs : Nat → Int32} {L d : Nat} {S : Nat → Shp} {I : Nat → Nat → Int32} {J : Nat → Nat → Int64} {R : Nat → Nat → Nat} {c : Nat × Nat} {Q : Option (Option Value) → MH → Prop} {x1 x2 : Int32}  (k : X xs L d 161 42 [.ref 65, .int x1, .int x2] [.int 1] (S, I, J, R, c) Q) : X xs L d 161 37 [.ref 65, .int x1, .int x2] [] (S, I, J, R, c) Q := by
  refine X_iconst (v := 1) (show decode (mB 161) 37 = .ok (.iconst 1, 1) by decide +kernel) (pc' := 38) rfl rfl ?_
  refine X_goto (tgt := 42) (show decode (mB 161) 38 = .ok (.goto 4, 3) by decide +kernel) rfl ?_
  exact k
set_option maxRecDepth 4000 in
theorem b_X14_isPlace_41 {xs : Nat → Int32} {L d : Nat} {S : Nat → Shp} {I : Nat → Nat → Int32} {J : Nat → Nat → Int64} {R : Nat → Nat → Nat} {c : Nat × Nat} {Q : Option (Option Value) → MH → Prop} {x1 x2 : Int32}  (k : X xs L d 161 42 [.ref 65, .int x1, .int x2] [.int 0] (S, I, J, R, c) Q) : X xs L d 161 41 [.ref 65, .int x1, .int x2] [] (S, I, J, R, c) Q := by
  refine X_iconst (v := 0) (show decode (mB 161) 41 = .ok (.iconst 0, 1) by decide +kernel) (pc' := 42) rfl rfl ?_
  exact k
set_option maxRecDepth 4000 in
theorem b_X14_isPlace_42 {xs : Nat → Int32} {L d : Nat} {S : Nat → Shp} {I : Nat → Nat → Int32} {J : Nat → Nat → Int64} {R : Nat → Nat → Nat} {c : Nat × Nat} {Q : Option (Option Value) → MH → Prop} {x1 x2 sx0 : Int32} (hz42 : sx0 = 0 ∨ sx0 = 1) (k : Q (some (some (.int sx0))) (S, I, J, R, c)) : X xs L d 161 42 [.ref 65, .int x1, .int x2] [.int sx0] (S, I, J, R, c) Q := by
  exact X_ireturn (ty := .boolean) (show decode (mB 161) 42 = .ok (.ireturn, 1) by decide +kernel) (by decide +kernel) (nz hz42) k
set_option maxRecDepth 4000 in
theorem b_X14_value_0 {xs : Nat → Int32} {L d : Nat} {S : Nat → Shp} {I : Nat → Nat → Int32} {J : Nat → Nat → Int64} {R : Nat → Nat → Nat} {c : Nat × Nat} {Q : Option (Option Value) → MH → Prop} {x1 x2 x3 : Int32} (hL : Lay S R)  (k : X xs L d 161 0 [.ref 65, .int x1, .int x2] [] (S, I, J, R, c) (Kc xs L (d + 1) 162 6 [.ref 65, .int x1, .int x2, .int x3] [] Q)) : X xs L (d + 1) 162 0 [.ref 65, .int x1, .int x2, .int x3] [] (S, I, J, R, c) Q := by
  refine X_aload_n (q := 0) (show decode (mB 162) 0 = .ok (.aload_n 0, 1) by decide +kernel) (pc' := 1) rfl rfl rfl ?_
  refine X_iload_n (q := 1) (show decode (mB 162) 1 = .ok (.iload_n 1, 1) by decide +kernel) (pc' := 2) rfl rfl rfl ?_
  refine X_iload_n (q := 2) (show decode (mB 162) 2 = .ok (.iload_n 2, 1) by decide +kernel) (pc' := 3) rfl rfl rfl ?_
  exact X_callV (y := 161) (n := 2) (st := [.int x2, .int x1, .ref 65]) (as := [.ref 65, .int x1, .int x2]) (rest := []) (ls0 := [.ref 65, .int x1, .int x2]) (ci := 13) (show decode (mB 162) 3 = .ok (.invokevirtual 306, 3) by decide +kernel) (pc' := 6) rfl (by decide +kernel) (by decide +kernel) rfl (ls_65 hL) (by decide +kernel) rfl rfl rfl rfl rfl k
set_option maxRecDepth 4000 in
theorem b_X14_value_6 {xs : Nat → Int32} {L d : Nat} {S : Nat → Shp} {I : Nat → Nat → Int32} {J : Nat → Nat → Int64} {R : Nat → Nat → Nat} {c : Nat × Nat} {Q : Option (Option Value) → MH → Prop} {x1 x2 x3 sx0 : Int32}  (kt : sx0 = 0 → X xs L (d + 1) 162 21 [.ref 65, .int x1, .int x2, .int x3] [] (S, I, J, R, c) Q) (kf : ¬ (sx0 = 0) → X xs L (d + 1) 162 9 [.ref 65, .int x1, .int x2, .int x3] [] (S, I, J, R, c) Q) : X xs L (d + 1) 162 6 [.ref 65, .int x1, .int x2, .int x3] [.int sx0] (S, I, J, R, c) Q := by
  exact X_if_eq (tgt := 21) (show decode (mB 162) 6 = .ok (.ifCond .eq 15, 3) by decide +kernel) rfl (pc' := 9) rfl kt kf
set_option maxRecDepth 4000 in
theorem b_X14_value_9 {xs : Nat → Int32} {L d : Nat} {S : Nat → Shp} {I : Nat → Nat → Int32} {J : Nat → Nat → Int64} {R : Nat → Nat → Nat} {c : Nat × Nat} {Q : Option (Option Value) → MH → Prop} {x1 x2 x3 : Int32}  (kt : x3 < 0 → X xs L (d + 1) 162 21 [.ref 65, .int x1, .int x2, .int x3] [] (S, I, J, R, c) Q) (kf : ¬ (x3 < 0) → X xs L (d + 1) 162 13 [.ref 65, .int x1, .int x2, .int x3] [] (S, I, J, R, c) Q) : X xs L (d + 1) 162 9 [.ref 65, .int x1, .int x2, .int x3] [] (S, I, J, R, c) Q := by
  refine X_iload_n (q := 3) (show decode (mB 162) 9 = .ok (.iload_n 3, 1) by decide +kernel) (pc' := 10) rfl rfl rfl ?_
  exact X_if_lt (tgt := 21) (show decode (mB 162) 10 = .ok (.ifCond .lt 11, 3) by decide +kernel) rfl (pc' := 13) rfl kt kf
set_option maxRecDepth 4000 in
theorem b_X14_value_13 {xs : Nat → Int32} {L d : Nat} {S : Nat → Shp} {I : Nat → Nat → Int32} {J : Nat → Nat → Int64} {R : Nat → Nat → Nat} {c : Nat × Nat} {Q : Option (Option Value) → MH → Prop} {x1 x2 x3 : Int32} (hL : Lay S R)  (k : X xs L d 156 0 [.ref 65] [] (S, I, J, R, c) (Kc xs L (d + 1) 162 18 [.ref 65, .int x1, .int x2, .int x3] [.int x3] Q)) : X xs L (d + 1) 162 13 [.ref 65, .int x1, .int x2, .int x3] [] (S, I, J, R, c) Q := by
  refine X_iload_n (q := 3) (show decode (mB 162) 13 = .ok (.iload_n 3, 1) by decide +kernel) (pc' := 14) rfl rfl rfl ?_
  refine X_aload_n (q := 0) (show decode (mB 162) 14 = .ok (.aload_n 0, 1) by decide +kernel) (pc' := 15) rfl rfl rfl ?_
  exact X_callV (y := 156) (n := 0) (st := [.ref 65, .int x3]) (as := [.ref 65]) (rest := [.int x3]) (ls0 := [.ref 65]) (ci := 13) (show decode (mB 162) 15 = .ok (.invokevirtual 303, 3) by decide +kernel) (pc' := 18) rfl (by decide +kernel) (by decide +kernel) rfl (ls_65 hL) (by decide +kernel) rfl rfl rfl rfl rfl k
set_option maxRecDepth 4000 in
theorem b_X14_value_18 {xs : Nat → Int32} {L d : Nat} {S : Nat → Shp} {I : Nat → Nat → Int32} {J : Nat → Nat → Int64} {R : Nat → Nat → Nat} {c : Nat × Nat} {Q : Option (Option Value) → MH → Prop} {x1 x2 x3 sx0 sx1 : Int32}  (kt : sx0 < sx1 → X xs L (d + 1) 162 24 [.ref 65, .int x1, .int x2, .int x3] [] (S, I, J, R, c) Q) (kf : ¬ (sx0 < sx1) → X xs L (d + 1) 162 21 [.ref 65, .int x1, .int x2, .int x3] [] (S, I, J, R, c) Q) : X xs L (d + 1) 162 18 [.ref 65, .int x1, .int x2, .int x3] [.int sx1, .int sx0] (S, I, J, R, c) Q := by
  exact X_icmp_lt (tgt := 24) (show decode (mB 162) 18 = .ok (.if_icmp .lt 6, 3) by decide +kernel) rfl (pc' := 21) rfl kt kf
set_option maxRecDepth 4000 in
theorem b_X14_value_21 {xs : Nat → Int32} {L d : Nat} {S : Nat → Shp} {I : Nat → Nat → Int32} {J : Nat → Nat → Int64} {R : Nat → Nat → Nat} {c : Nat × Nat} {Q : Option (Option Value) → MH → Prop} {x1 x2 x3 : Int32}  (k : Q (some (some (.int (-2)))) (S, I, J, R, c)) : X xs L (d + 1) 162 21 [.ref 65, .int x1, .int x2, .int x3] [] (S, I, J, R, c) Q := by
  refine X_bipush (v := (-2)) (show decode (mB 162) 21 = .ok (.bipush (-2), 2) by decide +kernel) (pc' := 23) rfl (by decide +kernel) ?_
  exact X_ireturn (ty := .int) (show decode (mB 162) 23 = .ok (.ireturn, 1) by decide +kernel) (by decide +kernel) rfl k
set_option maxRecDepth 4000 in
theorem b_X14_value_24 {xs : Nat → Int32} {L d : Nat} {S : Nat → Shp} {I : Nat → Nat → Int32} {J : Nat → Nat → Int64} {R : Nat → Nat → Nat} {c : Nat × Nat} {Q : Option (Option Value) → MH → Prop} {x1 x2 x3 : Int32} (hL : Lay S R) (hb29 : inb x3 512 = true) (kt : (I 113 x3.toNatClampNeg) = 0 → X xs L (d + 1) 162 37 [.ref 65, .int x1, .int x2, .int x3] [] (S, I, J, R, c) Q) (kf : ¬ ((I 113 x3.toNatClampNeg) = 0) → X xs L (d + 1) 162 33 [.ref 65, .int x1, .int x2, .int x3] [] (S, I, J, R, c) Q) : X xs L (d + 1) 162 24 [.ref 65, .int x1, .int x2, .int x3] [] (S, I, J, R, c) Q := by
  refine X_aload_n (q := 0) (show decode (mB 162) 24 = .ok (.aload_n 0, 1) by decide +kernel) (pc' := 25) rfl rfl rfl ?_
  refine X_getR (ci := 13) (f := 24) (q := 113) (show decode (mB 162) 25 = .ok (.getfield 64, 3) by decide +kernel) (pc' := 28) rfl (ls_65 hL) (by decide +kernel) rfl (lr_65_24 hL) ?_
  refine X_iload_n (q := 3) (show decode (mB 162) 28 = .ok (.iload_n 3, 1) by decide +kernel) (pc' := 29) rfl rfl rfl ?_
  refine X_zaload (w := I 113 x3.toNatClampNeg) (show decode (mB 162) 29 = .ok (.baload, 1) by decide +kernel) (pc' := 30) rfl (ls_113 hL) hb29 rfl ?_
  exact X_if_eq (tgt := 37) (show decode (mB 162) 30 = .ok (.ifCond .eq 7, 3) by decide +kernel) rfl (pc' := 33) rfl kt kf
set_option maxRecDepth 4000 in
theorem b_X14_value_33 {xs : Nat → Int32} {L d : Nat} {S : Nat → Shp} {I : Nat → Nat → Int32} {J : Nat → Nat → Int64} {R : Nat → Nat → Nat} {c : Nat × Nat} {Q : Option (Option Value) → MH → Prop} {x1 x2 x3 : Int32}  (k : X xs L (d + 1) 162 49 [.ref 65, .int x1, .int x2, .int x3] [.int 3] (S, I, J, R, c) Q) : X xs L (d + 1) 162 33 [.ref 65, .int x1, .int x2, .int x3] [] (S, I, J, R, c) Q := by
  refine X_iconst (v := 3) (show decode (mB 162) 33 = .ok (.iconst 3, 1) by decide +kernel) (pc' := 34) rfl rfl ?_
  refine X_goto (tgt := 49) (show decode (mB 162) 34 = .ok (.goto 15, 3) by decide +kernel) rfl ?_
  exact k
set_option maxRecDepth 4000 in
theorem b_X14_value_37 {xs : Nat → Int32} {L d : Nat} {S : Nat → Shp} {I : Nat → Nat → Int32} {J : Nat → Nat → Int64} {R : Nat → Nat → Nat} {c : Nat × Nat} {Q : Option (Option Value) → MH → Prop} {x1 x2 x3 : Int32} (hL : Lay S R)  (k : X xs L d 148 0 [.ref 65, .int x3, .int x2, .int x1] [] (S, I, J, R, c) (Kc xs L (d + 1) 162 48 [.ref 65, .int x1, .int x2, .int x3] [.ref 112] Q)) : X xs L (d + 1) 162 37 [.ref 65, .int x1, .int x2, .int x3] [] (S, I, J, R, c) Q := by
  refine X_aload_n (q := 0) (show decode (mB 162) 37 = .ok (.aload_n 0, 1) by decide +kernel) (pc' := 38) rfl rfl rfl ?_
  refine X_getR (ci := 13) (f := 23) (q := 112) (show decode (mB 162) 38 = .ok (.getfield 61, 3) by decide +kernel) (pc' := 41) rfl (ls_65 hL) (by decide +kernel) rfl (lr_65_23 hL) ?_
  refine X_aload_n (q := 0) (show decode (mB 162) 41 = .ok (.aload_n 0, 1) by decide +kernel) (pc' := 42) rfl rfl rfl ?_
  refine X_iload_n (q := 3) (show decode (mB 162) 42 = .ok (.iload_n 3, 1) by decide +kernel) (pc' := 43) rfl rfl rfl ?_
  refine X_iload_n (q := 2) (show decode (mB 162) 43 = .ok (.iload_n 2, 1) by decide +kernel) (pc' := 44) rfl rfl rfl ?_
  refine X_iload_n (q := 1) (show decode (mB 162) 44 = .ok (.iload_n 1, 1) by decide +kernel) (pc' := 45) rfl rfl rfl ?_
  exact X_callV (y := 148) (n := 3) (st := [.int x1, .int x2, .int x3, .ref 65, .ref 112]) (as := [.ref 65, .int x3, .int x2, .int x1]) (rest := [.ref 112]) (ls0 := [.ref 65, .int x3, .int x2, .int x1]) (ci := 13) (show decode (mB 162) 45 = .ok (.invokevirtual 289, 3) by decide +kernel) (pc' := 48) rfl (by decide +kernel) (by decide +kernel) rfl (ls_65 hL) (by decide +kernel) rfl rfl rfl rfl rfl k
set_option maxRecDepth 4000 in
theorem b_X14_value_48 {xs : Nat → Int32} {L d : Nat} {S : Nat → Shp} {I : Nat → Nat → Int32} {J : Nat → Nat → Int64} {R : Nat → Nat → Nat} {c : Nat × Nat} {Q : Option (Option Value) → MH → Prop} {x1 x2 x3 sx1 : Int32} (hL : Lay S R) (hb48 : inb sx1 245760 = true) (k : X xs L (d + 1) 162 49 [.ref 65, .int x1, .int x2, .int x3] [.int (I 112 sx1.toNatClampNeg)] (S, I, J, R, c) Q) : X xs L (d + 1) 162 48 [.ref 65, .int x1, .int x2, .int x3] [.int sx1, .ref 112] (S, I, J, R, c) Q := by
  refine X_baload (w := I 112 sx1.toNatClampNeg) (show decode (mB 162) 48 = .ok (.baload, 1) by decide +kernel) (pc' := 49) rfl (ls_112 hL) hb48 rfl ?_
  exact k
set_option maxRecDepth 4000 in
theorem b_X14_value_49 {xs : Nat → Int32} {L d : Nat} {S : Nat → Shp} {I : Nat → Nat → Int32} {J : Nat → Nat → Int64} {R : Nat → Nat → Nat} {c : Nat × Nat} {Q : Option (Option Value) → MH → Prop} {x1 x2 x3 sx0 : Int32}  (k : Q (some (some (.int sx0))) (S, I, J, R, c)) : X xs L (d + 1) 162 49 [.ref 65, .int x1, .int x2, .int x3] [.int sx0] (S, I, J, R, c) Q := by
  exact X_ireturn (ty := .int) (show decode (mB 162) 49 = .ok (.ireturn, 1) by decide +kernel) (by decide +kernel) rfl k
set_option maxRecDepth 4000 in
theorem b_X14_matters_0 {xs : Nat → Int32} {L d : Nat} {S : Nat → Shp} {I : Nat → Nat → Int32} {J : Nat → Nat → Int64} {R : Nat → Nat → Nat} {c : Nat × Nat} {Q : Option (Option Value) → MH → Prop} {x1 x2 x3 : Int32} (hL : Lay S R)  (k : X xs L d 161 0 [.ref 65, .int x1, .int x2] [] (S, I, J, R, c) (Kc xs L (d + 1) 163 6 [.ref 65, .int x1, .int x2, .int x3, .null, .null] [] Q)) : X xs L (d + 1) 163 0 [.ref 65, .int x1, .int x2, .int x3, .null, .null] [] (S, I, J, R, c) Q := by
  refine X_aload_n (q := 0) (show decode (mB 163) 0 = .ok (.aload_n 0, 1) by decide +kernel) (pc' := 1) rfl rfl rfl ?_
  refine X_iload_n (q := 1) (show decode (mB 163) 1 = .ok (.iload_n 1, 1) by decide +kernel) (pc' := 2) rfl rfl rfl ?_
  refine X_iload_n (q := 2) (show decode (mB 163) 2 = .ok (.iload_n 2, 1) by decide +kernel) (pc' := 3) rfl rfl rfl ?_
  exact X_callV (y := 161) (n := 2) (st := [.int x2, .int x1, .ref 65]) (as := [.ref 65, .int x1, .int x2]) (rest := []) (ls0 := [.ref 65, .int x1, .int x2]) (ci := 13) (show decode (mB 163) 3 = .ok (.invokevirtual 306, 3) by decide +kernel) (pc' := 6) rfl (by decide +kernel) (by decide +kernel) rfl (ls_65 hL) (by decide +kernel) rfl rfl rfl rfl rfl k
set_option maxRecDepth 4000 in
theorem b_X14_matters_6 {xs : Nat → Int32} {L d : Nat} {S : Nat → Shp} {I : Nat → Nat → Int32} {J : Nat → Nat → Int64} {R : Nat → Nat → Nat} {c : Nat × Nat} {Q : Option (Option Value) → MH → Prop} {x1 x2 x3 sx0 : Int32}  (kt : sx0 = 0 → X xs L (d + 1) 163 24 [.ref 65, .int x1, .int x2, .int x3, .null, .null] [] (S, I, J, R, c) Q) (kf : ¬ (sx0 = 0) → X xs L (d + 1) 163 9 [.ref 65, .int x1, .int x2, .int x3, .null, .null] [] (S, I, J, R, c) Q) : X xs L (d + 1) 163 6 [.ref 65, .int x1, .int x2, .int x3, .null, .null] [.int sx0] (S, I, J, R, c) Q := by
  exact X_if_eq (tgt := 24) (show decode (mB 163) 6 = .ok (.ifCond .eq 18, 3) by decide +kernel) rfl (pc' := 9) rfl kt kf
set_option maxRecDepth 4000 in
theorem b_X14_matters_9 {xs : Nat → Int32} {L d : Nat} {S : Nat → Shp} {I : Nat → Nat → Int32} {J : Nat → Nat → Int64} {R : Nat → Nat → Nat} {c : Nat × Nat} {Q : Option (Option Value) → MH → Prop} {x1 x2 x3 : Int32}  (kt : x3 < 0 → X xs L (d + 1) 163 24 [.ref 65, .int x1, .int x2, .int x3, .null, .null] [] (S, I, J, R, c) Q) (kf : ¬ (x3 < 0) → X xs L (d + 1) 163 13 [.ref 65, .int x1, .int x2, .int x3, .null, .null] [] (S, I, J, R, c) Q) : X xs L (d + 1) 163 9 [.ref 65, .int x1, .int x2, .int x3, .null, .null] [] (S, I, J, R, c) Q := by
  refine X_iload_n (q := 3) (show decode (mB 163) 9 = .ok (.iload_n 3, 1) by decide +kernel) (pc' := 10) rfl rfl rfl ?_
  exact X_if_lt (tgt := 24) (show decode (mB 163) 10 = .ok (.ifCond .lt 14, 3) by decide +kernel) rfl (pc' := 13) rfl kt kf
set_option maxRecDepth 4000 in
theorem b_X14_matters_13 {xs : Nat → Int32} {L d : Nat} {S : Nat → Shp} {I : Nat → Nat → Int32} {J : Nat → Nat → Int64} {R : Nat → Nat → Nat} {c : Nat × Nat} {Q : Option (Option Value) → MH → Prop} {x1 x2 x3 : Int32} {q_65_13 : Nat} (hL : Lay S R) (hq_65_13 : R 65 13 = q_65_13) (h_q_65_13 : LyCs S R q_65_13) (kt : x3 < (I q_65_13 8) → X xs L (d + 1) 163 27 [.ref 65, .int x1, .int x2, .int x3, .null, .null] [] (S, I, J, R, c) Q) (kf : ¬ (x3 < (I q_65_13 8)) → X xs L (d + 1) 163 24 [.ref 65, .int x1, .int x2, .int x3, .null, .null] [] (S, I, J, R, c) Q) : X xs L (d + 1) 163 13 [.ref 65, .int x1, .int x2, .int x3, .null, .null] [] (S, I, J, R, c) Q := by
  refine X_iload_n (q := 3) (show decode (mB 163) 13 = .ok (.iload_n 3, 1) by decide +kernel) (pc' := 14) rfl rfl rfl ?_
  refine X_aload_n (q := 0) (show decode (mB 163) 14 = .ok (.aload_n 0, 1) by decide +kernel) (pc' := 15) rfl rfl rfl ?_
  refine X_getR (ci := 13) (f := 13) (q := q_65_13) (show decode (mB 163) 15 = .ok (.getfield 233, 3) by decide +kernel) (pc' := 18) rfl (ls_65 hL) (by decide +kernel) rfl hq_65_13 ?_
  refine X_getI (ci := 10) (f := 8) (x := I q_65_13 8) (show decode (mB 163) 18 = .ok (.getfield 195, 3) by decide +kernel) (pc' := 21) rfl h_q_65_13.s0 (by decide +kernel) rfl rfl ?_
  exact X_icmp_lt (tgt := 27) (show decode (mB 163) 21 = .ok (.if_icmp .lt 6, 3) by decide +kernel) rfl (pc' := 24) rfl kt kf
set_option maxRecDepth 4000 in
theorem b_X14_matters_24 {xs : Nat → Int32} {L d : Nat} {S : Nat → Shp} {I : Nat → Nat → Int32} {J : Nat → Nat → Int64} {R : Nat → Nat → Nat} {c : Nat × Nat} {Q : Option (Option Value) → MH → Prop} {x1 x2 x3 : Int32}  (k : Q (some (some (.int (-2)))) (S, I, J, R, c)) : X xs L (d + 1) 163 24 [.ref 65, .int x1, .int x2, .int x3, .null, .null] [] (S, I, J, R, c) Q := by
  refine X_bipush (v := (-2)) (show decode (mB 163) 24 = .ok (.bipush (-2), 2) by decide +kernel) (pc' := 26) rfl (by decide +kernel) ?_
  exact X_ireturn (ty := .int) (show decode (mB 163) 26 = .ok (.ireturn, 1) by decide +kernel) (by decide +kernel) rfl k
set_option maxRecDepth 4000 in
theorem b_X14_matters_27 {xs : Nat → Int32} {L d : Nat} {S : Nat → Shp} {I : Nat → Nat → Int32} {J : Nat → Nat → Int64} {R : Nat → Nat → Nat} {c : Nat × Nat} {Q : Option (Option Value) → MH → Prop} {x1 x2 x3 : Int32} {q_65_13 : Nat} (hL : Lay S R) (hq_65_13 : R 65 13 = q_65_13) (h_q_65_13 : LyCs S R q_65_13) (k : X xs L (d + 1) 163 45 [.ref 65, .int x1, .int x2, .int x3, .int ((1 : Int32) <<< ((((I q_65_13 8) - 1) - x3) &&& 31)), .int 0] [] (S, I, J, R, c) Q) : X xs L (d + 1) 163 27 [.ref 65, .int x1, .int x2, .int x3, .null, .null] [] (S, I, J, R, c) Q := by
  refine X_iconst (v := 1) (show decode (mB 163) 27 = .ok (.iconst 1, 1) by decide +kernel) (pc' := 28) rfl rfl ?_
  refine X_aload_n (q := 0) (show decode (mB 163) 28 = .ok (.aload_n 0, 1) by decide +kernel) (pc' := 29) rfl rfl rfl ?_
  refine X_getR (ci := 13) (f := 13) (q := q_65_13) (show decode (mB 163) 29 = .ok (.getfield 233, 3) by decide +kernel) (pc' := 32) rfl (ls_65 hL) (by decide +kernel) rfl hq_65_13 ?_
  refine X_getI (ci := 10) (f := 8) (x := I q_65_13 8) (show decode (mB 163) 32 = .ok (.getfield 195, 3) by decide +kernel) (pc' := 35) rfl h_q_65_13.s0 (by decide +kernel) rfl rfl ?_
  refine X_iconst (v := 1) (show decode (mB 163) 35 = .ok (.iconst 1, 1) by decide +kernel) (pc' := 36) rfl rfl ?_
  refine X_isub (show decode (mB 163) 36 = .ok (.isub, 1) by decide +kernel) (pc' := 37) rfl ?_
  refine X_iload_n (q := 3) (show decode (mB 163) 37 = .ok (.iload_n 3, 1) by decide +kernel) (pc' := 38) rfl rfl rfl ?_
  refine X_isub (show decode (mB 163) 38 = .ok (.isub, 1) by decide +kernel) (pc' := 39) rfl ?_
  refine X_ishl (show decode (mB 163) 39 = .ok (.ishl, 1) by decide +kernel) (pc' := 40) rfl ?_
  refine X_istore (q := 4) (ls' := [.ref 65, .int x1, .int x2, .int x3, .int ((1 : Int32) <<< ((((I q_65_13 8) - 1) - x3) &&& 31)), .null]) (show decode (mB 163) 40 = .ok (.istore 4, 2) by decide +kernel) (pc' := 42) rfl rfl ?_
  refine X_iconst (v := 0) (show decode (mB 163) 42 = .ok (.iconst 0, 1) by decide +kernel) (pc' := 43) rfl rfl ?_
  refine X_istore (q := 5) (ls' := [.ref 65, .int x1, .int x2, .int x3, .int ((1 : Int32) <<< ((((I q_65_13 8) - 1) - x3) &&& 31)), .int 0]) (show decode (mB 163) 43 = .ok (.istore 5, 2) by decide +kernel) (pc' := 45) rfl rfl ?_
  exact k
set_option maxRecDepth 4000 in
theorem b_X14_matters_45 {xs : Nat → Int32} {L d : Nat} {S : Nat → Shp} {I : Nat → Nat → Int32} {J : Nat → Nat → Int64} {R : Nat → Nat → Nat} {c : Nat × Nat} {Q : Option (Option Value) → MH → Prop} {x1 x2 x3 x4 x5 : Int32} (hL : Lay S R)  (k : X xs L d 156 0 [.ref 65] [] (S, I, J, R, c) (Kc xs L (d + 1) 163 51 [.ref 65, .int x1, .int x2, .int x3, .int x4, .int x5] [.int x5] Q)) : X xs L (d + 1) 163 45 [.ref 65, .int x1, .int x2, .int x3, .int x4, .int x5] [] (S, I, J, R, c) Q := by
  refine X_iload (q := 5) (show decode (mB 163) 45 = .ok (.iload 5, 2) by decide +kernel) (pc' := 47) rfl rfl ?_
  refine X_aload_n (q := 0) (show decode (mB 163) 47 = .ok (.aload_n 0, 1) by decide +kernel) (pc' := 48) rfl rfl rfl ?_
  exact X_callV (y := 156) (n := 0) (st := [.ref 65, .int x5]) (as := [.ref 65]) (rest := [.int x5]) (ls0 := [.ref 65]) (ci := 13) (show decode (mB 163) 48 = .ok (.invokevirtual 303, 3) by decide +kernel) (pc' := 51) rfl (by decide +kernel) (by decide +kernel) rfl (ls_65 hL) (by decide +kernel) rfl rfl rfl rfl rfl k
set_option maxRecDepth 4000 in
theorem b_X14_matters_51 {xs : Nat → Int32} {L d : Nat} {S : Nat → Shp} {I : Nat → Nat → Int32} {J : Nat → Nat → Int64} {R : Nat → Nat → Nat} {c : Nat × Nat} {Q : Option (Option Value) → MH → Prop} {x1 x2 x3 x4 x5 sx0 sx1 : Int32}  (kt : sx1 ≤ sx0 → X xs L (d + 1) 163 128 [.ref 65, .int x1, .int x2, .int x3, .int x4, .int x5] [] (S, I, J, R, c) Q) (kf : ¬ (sx1 ≤ sx0) → X xs L (d + 1) 163 54 [.ref 65, .int x1, .int x2, .int x3, .int x4, .int x5] [] (S, I, J, R, c) Q) : X xs L (d + 1) 163 51 [.ref 65, .int x1, .int x2, .int x3, .int x4, .int x5] [.int sx1, .int sx0] (S, I, J, R, c) Q := by
  exact X_icmp_ge (tgt := 128) (show decode (mB 163) 51 = .ok (.if_icmp .ge 77, 3) by decide +kernel) rfl (pc' := 54) rfl kt kf
set_option maxRecDepth 4000 in
theorem b_X14_matters_54 {xs : Nat → Int32} {L d : Nat} {S : Nat → Shp} {I : Nat → Nat → Int32} {J : Nat → Nat → Int64} {R : Nat → Nat → Nat} {c : Nat × Nat} {Q : Option (Option Value) → MH → Prop} {x1 x2 x3 x4 x5 : Int32}  (kt : ¬ (x5 &&& x4) = 0 → X xs L (d + 1) 163 122 [.ref 65, .int x1, .int x2, .int x3, .int x4, .int x5] [] (S, I, J, R, c) Q) (kf : ¬ (¬ (x5 &&& x4) = 0) → X xs L (d + 1) 163 62 [.ref 65, .int x1, .int x2, .int x3, .int x4, .int x5] [] (S, I, J, R, c) Q) : X xs L (d + 1) 163 54 [.ref 65, .int x1, .int x2, .int x3, .int x4, .int x5] [] (S, I, J, R, c) Q := by
  refine X_iload (q := 5) (show decode (mB 163) 54 = .ok (.iload 5, 2) by decide +kernel) (pc' := 56) rfl rfl ?_
  refine X_iload (q := 4) (show decode (mB 163) 56 = .ok (.iload 4, 2) by decide +kernel) (pc' := 58) rfl rfl ?_
  refine X_iand (show decode (mB 163) 58 = .ok (.iand, 1) by decide +kernel) (pc' := 59) rfl ?_
  exact X_if_ne (tgt := 122) (show decode (mB 163) 59 = .ok (.ifCond .ne 63, 3) by decide +kernel) rfl (pc' := 62) rfl kt kf
set_option maxRecDepth 4000 in
theorem b_X14_matters_62 {xs : Nat → Int32} {L d : Nat} {S : Nat → Shp} {I : Nat → Nat → Int32} {J : Nat → Nat → Int64} {R : Nat → Nat → Nat} {c : Nat × Nat} {Q : Option (Option Value) → MH → Prop} {x1 x2 x3 x4 x5 : Int32} (hL : Lay S R) (hb68 : inb x5 512 = true) (kt : ¬ (I 113 x5.toNatClampNeg) = 0 → X xs L (d + 1) 163 122 [.ref 65, .int x1, .int x2, .int x3, .int x4, .int x5] [] (S, I, J, R, c) Q) (kf : ¬ (¬ (I 113 x5.toNatClampNeg) = 0) → X xs L (d + 1) 163 72 [.ref 65, .int x1, .int x2, .int x3, .int x4, .int x5] [] (S, I, J, R, c) Q) : X xs L (d + 1) 163 62 [.ref 65, .int x1, .int x2, .int x3, .int x4, .int x5] [] (S, I, J, R, c) Q := by
  refine X_aload_n (q := 0) (show decode (mB 163) 62 = .ok (.aload_n 0, 1) by decide +kernel) (pc' := 63) rfl rfl rfl ?_
  refine X_getR (ci := 13) (f := 24) (q := 113) (show decode (mB 163) 63 = .ok (.getfield 64, 3) by decide +kernel) (pc' := 66) rfl (ls_65 hL) (by decide +kernel) rfl (lr_65_24 hL) ?_
  refine X_iload (q := 5) (show decode (mB 163) 66 = .ok (.iload 5, 2) by decide +kernel) (pc' := 68) rfl rfl ?_
  refine X_zaload (w := I 113 x5.toNatClampNeg) (show decode (mB 163) 68 = .ok (.baload, 1) by decide +kernel) (pc' := 69) rfl (ls_113 hL) hb68 rfl ?_
  exact X_if_ne (tgt := 122) (show decode (mB 163) 69 = .ok (.ifCond .ne 53, 3) by decide +kernel) rfl (pc' := 72) rfl kt kf
set_option maxRecDepth 4000 in
theorem b_X14_matters_72 {xs : Nat → Int32} {L d : Nat} {S : Nat → Shp} {I : Nat → Nat → Int32} {J : Nat → Nat → Int64} {R : Nat → Nat → Nat} {c : Nat × Nat} {Q : Option (Option Value) → MH → Prop} {x1 x2 x3 x4 x5 : Int32} (hL : Lay S R) (hb81 : inb (x5 ||| x4) 512 = true) (kt : (I 113 (x5 ||| x4).toNatClampNeg) = 0 → X xs L (d + 1) 163 88 [.ref 65, .int x1, .int x2, .int x3, .int x4, .int x5] [] (S, I, J, R, c) Q) (kf : ¬ ((I 113 (x5 ||| x4).toNatClampNeg) = 0) → X xs L (d + 1) 163 85 [.ref 65, .int x1, .int x2, .int x3, .int x4, .int x5] [] (S, I, J, R, c) Q) : X xs L (d + 1) 163 72 [.ref 65, .int x1, .int x2, .int x3, .int x4, .int x5] [] (S, I, J, R, c) Q := by
  refine X_aload_n (q := 0) (show decode (mB 163) 72 = .ok (.aload_n 0, 1) by decide +kernel) (pc' := 73) rfl rfl rfl ?_
  refine X_getR (ci := 13) (f := 24) (q := 113) (show decode (mB 163) 73 = .ok (.getfield 64, 3) by decide +kernel) (pc' := 76) rfl (ls_65 hL) (by decide +kernel) rfl (lr_65_24 hL) ?_
  refine X_iload (q := 5) (show decode (mB 163) 76 = .ok (.iload 5, 2) by decide +kernel) (pc' := 78) rfl rfl ?_
  refine X_iload (q := 4) (show decode (mB 163) 78 = .ok (.iload 4, 2) by decide +kernel) (pc' := 80) rfl rfl ?_
  refine X_ior (show decode (mB 163) 80 = .ok (.ior, 1) by decide +kernel) (pc' := 81) rfl ?_
  refine X_zaload (w := I 113 (x5 ||| x4).toNatClampNeg) (show decode (mB 163) 81 = .ok (.baload, 1) by decide +kernel) (pc' := 82) rfl (ls_113 hL) hb81 rfl ?_
  exact X_if_eq (tgt := 88) (show decode (mB 163) 82 = .ok (.ifCond .eq 6, 3) by decide +kernel) rfl (pc' := 85) rfl kt kf
set_option maxRecDepth 4000 in
theorem b_X14_matters_85 {xs : Nat → Int32} {L d : Nat} {S : Nat → Shp} {I : Nat → Nat → Int32} {J : Nat → Nat → Int64} {R : Nat → Nat → Nat} {c : Nat × Nat} {Q : Option (Option Value) → MH → Prop} {x1 x2 x3 x4 x5 : Int32}  (k : X xs L (d + 1) 163 122 [.ref 65, .int x1, .int x2, .int x3, .int x4, .int x5] [] (S, I, J, R, c) Q) : X xs L (d + 1) 163 85 [.ref 65, .int x1, .int x2, .int x3, .int x4, .int x5] [] (S, I, J, R, c) Q := by
  refine X_goto (tgt := 122) (show decode (mB 163) 85 = .ok (.goto 37, 3) by decide +kernel) rfl ?_
  exact k
set_option maxRecDepth 4000 in
theorem b_X14_matters_88 {xs : Nat → Int32} {L d : Nat} {S : Nat → Shp} {I : Nat → Nat → Int32} {J : Nat → Nat → Int64} {R : Nat → Nat → Nat} {c : Nat × Nat} {Q : Option (Option Value) → MH → Prop} {x1 x2 x3 x4 x5 : Int32} (hL : Lay S R)  (k : X xs L d 148 0 [.ref 65, .int x5, .int x2, .int x1] [] (S, I, J, R, c) (Kc xs L (d + 1) 163 100 [.ref 65, .int x1, .int x2, .int x3, .int x4, .int x5] [.ref 112] Q)) : X xs L (d + 1) 163 88 [.ref 65, .int x1, .int x2, .int x3, .int x4, .int x5] [] (S, I, J, R, c) Q := by
  refine X_aload_n (q := 0) (show decode (mB 163) 88 = .ok (.aload_n 0, 1) by decide +kernel) (pc' := 89) rfl rfl rfl ?_
  refine X_getR (ci := 13) (f := 23) (q := 112) (show decode (mB 163) 89 = .ok (.getfield 61, 3) by decide +kernel) (pc' := 92) rfl (ls_65 hL) (by decide +kernel) rfl (lr_65_23 hL) ?_
  refine X_aload_n (q := 0) (show decode (mB 163) 92 = .ok (.aload_n 0, 1) by decide +kernel) (pc' := 93) rfl rfl rfl ?_
  refine X_iload (q := 5) (show decode (mB 163) 93 = .ok (.iload 5, 2) by decide +kernel) (pc' := 95) rfl rfl ?_
  refine X_iload_n (q := 2) (show decode (mB 163) 95 = .ok (.iload_n 2, 1) by decide +kernel) (pc' := 96) rfl rfl rfl ?_
  refine X_iload_n (q := 1) (show decode (mB 163) 96 = .ok (.iload_n 1, 1) by decide +kernel) (pc' := 97) rfl rfl rfl ?_
  exact X_callV (y := 148) (n := 3) (st := [.int x1, .int x2, .int x5, .ref 65, .ref 112]) (as := [.ref 65, .int x5, .int x2, .int x1]) (rest := [.ref 112]) (ls0 := [.ref 65, .int x5, .int x2, .int x1]) (ci := 13) (show decode (mB 163) 97 = .ok (.invokevirtual 289, 3) by decide +kernel) (pc' := 100) rfl (by decide +kernel) (by decide +kernel) rfl (ls_65 hL) (by decide +kernel) rfl rfl rfl rfl rfl k
set_option maxRecDepth 4000 in
theorem b_X14_matters_100 {xs : Nat → Int32} {L d : Nat} {S : Nat → Shp} {I : Nat → Nat → Int32} {J : Nat → Nat → Int64} {R : Nat → Nat → Nat} {c : Nat × Nat} {Q : Option (Option Value) → MH → Prop} {x1 x2 x3 x4 x5 sx1 : Int32} (hL : Lay S R) (hb100 : inb sx1 245760 = true) (k : X xs L d 148 0 [.ref 65, .int (x5 ||| x4), .int x2, .int x1] [] (S, I, J, R, c) (Kc xs L (d + 1) 163 116 [.ref 65, .int x1, .int x2, .int x3, .int x4, .int x5] [.ref 112, .int (I 112 sx1.toNatClampNeg)] Q)) : X xs L (d + 1) 163 100 [.ref 65, .int x1, .int x2, .int x3, .int x4, .int x5] [.int sx1, .ref 112] (S, I, J, R, c) Q := by
  refine X_baload (w := I 112 sx1.toNatClampNeg) (show decode (mB 163) 100 = .ok (.baload, 1) by decide +kernel) (pc' := 101) rfl (ls_112 hL) hb100 rfl ?_
  refine X_aload_n (q := 0) (show decode (mB 163) 101 = .ok (.aload_n 0, 1) by decide +kernel) (pc' := 102) rfl rfl rfl ?_
  refine X_getR (ci := 13) (f := 23) (q := 112) (show decode (mB 163) 102 = .ok (.getfield 61, 3) by decide +kernel) (pc' := 105) rfl (ls_65 hL) (by decide +kernel) rfl (lr_65_23 hL) ?_
  refine X_aload_n (q := 0) (show decode (mB 163) 105 = .ok (.aload_n 0, 1) by decide +kernel) (pc' := 106) rfl rfl rfl ?_
  refine X_iload (q := 5) (show decode (mB 163) 106 = .ok (.iload 5, 2) by decide +kernel) (pc' := 108) rfl rfl ?_
  refine X_iload (q := 4) (show decode (mB 163) 108 = .ok (.iload 4, 2) by decide +kernel) (pc' := 110) rfl rfl ?_
  refine X_ior (show decode (mB 163) 110 = .ok (.ior, 1) by decide +kernel) (pc' := 111) rfl ?_
  refine X_iload_n (q := 2) (show decode (mB 163) 111 = .ok (.iload_n 2, 1) by decide +kernel) (pc' := 112) rfl rfl rfl ?_
  refine X_iload_n (q := 1) (show decode (mB 163) 112 = .ok (.iload_n 1, 1) by decide +kernel) (pc' := 113) rfl rfl rfl ?_
  exact X_callV (y := 148) (n := 3) (st := [.int x1, .int x2, .int (x5 ||| x4), .ref 65, .ref 112, .int (I 112 sx1.toNatClampNeg)]) (as := [.ref 65, .int (x5 ||| x4), .int x2, .int x1]) (rest := [.ref 112, .int (I 112 sx1.toNatClampNeg)]) (ls0 := [.ref 65, .int (x5 ||| x4), .int x2, .int x1]) (ci := 13) (show decode (mB 163) 113 = .ok (.invokevirtual 289, 3) by decide +kernel) (pc' := 116) rfl (by decide +kernel) (by decide +kernel) rfl (ls_65 hL) (by decide +kernel) rfl rfl rfl rfl rfl k
set_option maxRecDepth 4000 in
theorem b_X14_matters_116 {xs : Nat → Int32} {L d : Nat} {S : Nat → Shp} {I : Nat → Nat → Int32} {J : Nat → Nat → Int64} {R : Nat → Nat → Nat} {c : Nat × Nat} {Q : Option (Option Value) → MH → Prop} {x1 x2 x3 x4 x5 sx0 sx2 : Int32} (hL : Lay S R) (hb116 : inb sx2 245760 = true) (kt : sx0 = (I 112 sx2.toNatClampNeg) → X xs L (d + 1) 163 122 [.ref 65, .int x1, .int x2, .int x3, .int x4, .int x5] [] (S, I, J, R, c) Q) (kf : ¬ (sx0 = (I 112 sx2.toNatClampNeg)) → X xs L (d + 1) 163 120 [.ref 65, .int x1, .int x2, .int x3, .int x4, .int x5] [] (S, I, J, R, c) Q) : X xs L (d + 1) 163 116 [.ref 65, .int x1, .int x2, .int x3, .int x4, .int x5] [.int sx2, .ref 112, .int sx0] (S, I, J, R, c) Q := by
  refine X_baload (w := I 112 sx2.toNatClampNeg) (show decode (mB 163) 116 = .ok (.baload, 1) by decide +kernel) (pc' := 117) rfl (ls_112 hL) hb116 rfl ?_
  exact X_icmp_eq (tgt := 122) (show decode (mB 163) 117 = .ok (.if_icmp .eq 5, 3) by decide +kernel) rfl (pc' := 120) rfl kt kf
set_option maxRecDepth 4000 in
theorem b_X14_matters_120 {xs : Nat → Int32} {L d : Nat} {S : Nat → Shp} {I : Nat → Nat → Int32} {J : Nat → Nat → Int64} {R : Nat → Nat → Nat} {c : Nat × Nat} {Q : Option (Option Value) → MH → Prop} {x1 x2 x3 x4 x5 : Int32}  (k : Q (some (some (.int 1))) (S, I, J, R, c)) : X xs L (d + 1) 163 120 [.ref 65, .int x1, .int x2, .int x3, .int x4, .int x5] [] (S, I, J, R, c) Q := by
  refine X_iconst (v := 1) (show decode (mB 163) 120 = .ok (.iconst 1, 1) by decide +kernel) (pc' := 121) rfl rfl ?_
  exact X_ireturn (ty := .int) (show decode (mB 163) 121 = .ok (.ireturn, 1) by decide +kernel) (by decide +kernel) rfl k
set_option maxRecDepth 4000 in
theorem b_X14_matters_122 {xs : Nat → Int32} {L d : Nat} {S : Nat → Shp} {I : Nat → Nat → Int32} {J : Nat → Nat → Int64} {R : Nat → Nat → Nat} {c : Nat × Nat} {Q : Option (Option Value) → MH → Prop} {x1 x2 x3 x4 x5 : Int32}  (k : X xs L (d + 1) 163 45 [.ref 65, .int x1, .int x2, .int x3, .int x4, .int (x5 + 1)] [] (S, I, J, R, c) Q) : X xs L (d + 1) 163 122 [.ref 65, .int x1, .int x2, .int x3, .int x4, .int x5] [] (S, I, J, R, c) Q := by
  refine X_iinc (q := 5) (v := x5 + 1) (ls' := [.ref 65, .int x1, .int x2, .int x3, .int x4, .int (x5 + 1)]) (show decode (mB 163) 122 = .ok (.iinc 5 1, 3) by decide +kernel) (pc' := 125) rfl rfl rfl rfl ?_
  refine X_goto (tgt := 45) (show decode (mB 163) 125 = .ok (.goto (-80), 3) by decide +kernel) rfl ?_
  exact k
set_option maxRecDepth 4000 in
theorem b_X14_matters_128 {xs : Nat → Int32} {L d : Nat} {S : Nat → Shp} {I : Nat → Nat → Int32} {J : Nat → Nat → Int64} {R : Nat → Nat → Nat} {c : Nat × Nat} {Q : Option (Option Value) → MH → Prop} {x1 x2 x3 x4 x5 : Int32}  (k : Q (some (some (.int 0))) (S, I, J, R, c)) : X xs L (d + 1) 163 128 [.ref 65, .int x1, .int x2, .int x3, .int x4, .int x5] [] (S, I, J, R, c) Q := by
  refine X_iconst (v := 0) (show decode (mB 163) 128 = .ok (.iconst 0, 1) by decide +kernel) (pc' := 129) rfl rfl ?_
  exact X_ireturn (ty := .int) (show decode (mB 163) 129 = .ok (.ireturn, 1) by decide +kernel) (by decide +kernel) rfl k
set_option maxRecDepth 4000 in
theorem b_X14_cone_0 {xs : Nat → Int32} {L d : Nat} {S : Nat → Shp} {I : Nat → Nat → Int32} {J : Nat → Nat → Int64} {R : Nat → Nat → Nat} {c : Nat × Nat} {Q : Option (Option Value) → MH → Prop} {x1 : Int32} (hL : Lay S R)  (kt : (I 65 22) = 0 → X xs L (d + 1) 164 22 [.ref 65, .int x1, .null, .null] [] (S, I, J, R, c) Q) (kf : ¬ ((I 65 22) = 0) → X xs L (d + 1) 164 7 [.ref 65, .int x1, .null, .null] [] (S, I, J, R, c) Q) : X xs L (d + 1) 164 0 [.ref 65, .int x1, .null, .null] [] (S, I, J, R, c) Q := by
  refine X_aload_n (q := 0) (show decode (mB 164) 0 = .ok (.aload_n 0, 1) by decide +kernel) (pc' := 1) rfl rfl rfl ?_
  refine X_getI (ci := 13) (f := 22) (x := I 65 22) (show decode (mB 164) 1 = .ok (.getfield 236, 3) by decide +kernel) (pc' := 4) rfl (ls_65 hL) (by decide +kernel) rfl rfl ?_
  exact X_if_eq (tgt := 22) (show decode (mB 164) 4 = .ok (.ifCond .eq 18, 3) by decide +kernel) rfl (pc' := 7) rfl kt kf
set_option maxRecDepth 4000 in
theorem b_X14_cone_7 {xs : Nat → Int32} {L d : Nat} {S : Nat → Shp} {I : Nat → Nat → Int32} {J : Nat → Nat → Int64} {R : Nat → Nat → Nat} {c : Nat × Nat} {Q : Option (Option Value) → MH → Prop} {x1 : Int32}  (kt : x1 < 0 → X xs L (d + 1) 164 22 [.ref 65, .int x1, .null, .null] [] (S, I, J, R, c) Q) (kf : ¬ (x1 < 0) → X xs L (d + 1) 164 11 [.ref 65, .int x1, .null, .null] [] (S, I, J, R, c) Q) : X xs L (d + 1) 164 7 [.ref 65, .int x1, .null, .null] [] (S, I, J, R, c) Q := by
  refine X_iload_n (q := 1) (show decode (mB 164) 7 = .ok (.iload_n 1, 1) by decide +kernel) (pc' := 8) rfl rfl rfl ?_
  exact X_if_lt (tgt := 22) (show decode (mB 164) 8 = .ok (.ifCond .lt 14, 3) by decide +kernel) rfl (pc' := 11) rfl kt kf
set_option maxRecDepth 4000 in
theorem b_X14_cone_11 {xs : Nat → Int32} {L d : Nat} {S : Nat → Shp} {I : Nat → Nat → Int32} {J : Nat → Nat → Int64} {R : Nat → Nat → Nat} {c : Nat × Nat} {Q : Option (Option Value) → MH → Prop} {x1 : Int32} {q_65_11 : Nat} (hL : Lay S R) (hq_65_11 : R 65 11 = q_65_11) (h_q_65_11 : LyNo S R q_65_11) (kt : x1 < (I q_65_11 4) → X xs L (d + 1) 164 25 [.ref 65, .int x1, .null, .null] [] (S, I, J, R, c) Q) (kf : ¬ (x1 < (I q_65_11 4)) → X xs L (d + 1) 164 22 [.ref 65, .int x1, .null, .null] [] (S, I, J, R, c) Q) : X xs L (d + 1) 164 11 [.ref 65, .int x1, .null, .null] [] (S, I, J, R, c) Q := by
  refine X_iload_n (q := 1) (show decode (mB 164) 11 = .ok (.iload_n 1, 1) by decide +kernel) (pc' := 12) rfl rfl rfl ?_
  refine X_aload_n (q := 0) (show decode (mB 164) 12 = .ok (.aload_n 0, 1) by decide +kernel) (pc' := 13) rfl rfl rfl ?_
  refine X_getR (ci := 13) (f := 11) (q := q_65_11) (show decode (mB 164) 13 = .ok (.getfield 40, 3) by decide +kernel) (pc' := 16) rfl (ls_65 hL) (by decide +kernel) rfl hq_65_11 ?_
  refine X_getI (ci := 11) (f := 4) (x := I q_65_11 4) (show decode (mB 164) 16 = .ok (.getfield 200, 3) by decide +kernel) (pc' := 19) rfl h_q_65_11.s0 (by decide +kernel) rfl rfl ?_
  exact X_icmp_lt (tgt := 25) (show decode (mB 164) 19 = .ok (.if_icmp .lt 6, 3) by decide +kernel) rfl (pc' := 22) rfl kt kf
set_option maxRecDepth 4000 in
theorem b_X14_cone_22 {xs : Nat → Int32} {L d : Nat} {S : Nat → Shp} {I : Nat → Nat → Int32} {J : Nat → Nat → Int64} {R : Nat → Nat → Nat} {c : Nat × Nat} {Q : Option (Option Value) → MH → Prop} {x1 : Int32}  (k : Q (some (some (.int (-2)))) (S, I, J, R, c)) : X xs L (d + 1) 164 22 [.ref 65, .int x1, .null, .null] [] (S, I, J, R, c) Q := by
  refine X_bipush (v := (-2)) (show decode (mB 164) 22 = .ok (.bipush (-2), 2) by decide +kernel) (pc' := 24) rfl (by decide +kernel) ?_
  exact X_ireturn (ty := .int) (show decode (mB 164) 24 = .ok (.ireturn, 1) by decide +kernel) (by decide +kernel) rfl k
set_option maxRecDepth 4000 in
theorem b_X14_cone_25 {xs : Nat → Int32} {L d : Nat} {S : Nat → Shp} {I : Nat → Nat → Int32} {J : Nat → Nat → Int64} {R : Nat → Nat → Nat} {c : Nat × Nat} {Q : Option (Option Value) → MH → Prop} {x1 : Int32} {q_65_9 q_65_11 : Nat} (hL : Lay S R) (hq_65_9 : R 65 9 = q_65_9) (hq_65_11 : R 65 11 = q_65_11) (k : X xs L d 141 0 [.ref 65, .ref q_65_11, .int x1, .int 0, .null, .null, .null, .null, .null] [] (S, I, J, (u2 R 65 17 q_65_9), c) (Kc xs L (d + 1) 164 43 [.ref 65, .int x1, .null, .null] [] Q)) : X xs L (d + 1) 164 25 [.ref 65, .int x1, .null, .null] [] (S, I, J, R, c) Q := by
  refine X_aload_n (q := 0) (show decode (mB 164) 25 = .ok (.aload_n 0, 1) by decide +kernel) (pc' := 26) rfl rfl rfl ?_
  refine X_aload_n (q := 0) (show decode (mB 164) 26 = .ok (.aload_n 0, 1) by decide +kernel) (pc' := 27) rfl rfl rfl ?_
  refine X_getR (ci := 13) (f := 9) (q := q_65_9) (show decode (mB 164) 27 = .ok (.getfield 30, 3) by decide +kernel) (pc' := 30) rfl (ls_65 hL) (by decide +kernel) rfl hq_65_9 ?_
  refine X_putR (ci := 13) (f := 17) (show decode (mB 164) 30 = .ok (.putfield 138, 3) by decide +kernel) (pc' := 33) rfl (ls_65 hL) (by decide +kernel) (by decide +kernel) rfl ?_
  refine X_aload_n (q := 0) (show decode (mB 164) 33 = .ok (.aload_n 0, 1) by decide +kernel) (pc' := 34) rfl rfl rfl ?_
  refine X_aload_n (q := 0) (show decode (mB 164) 34 = .ok (.aload_n 0, 1) by decide +kernel) (pc' := 35) rfl rfl rfl ?_
  refine X_getR (ci := 13) (f := 11) (q := q_65_11) (show decode (mB 164) 35 = .ok (.getfield 40, 3) by decide +kernel) (pc' := 38) rfl (ls_65 hL) (by decide +kernel) rfl (by simp [u2, u1]; exact hq_65_11) ?_
  refine X_iload_n (q := 1) (show decode (mB 164) 38 = .ok (.iload_n 1, 1) by decide +kernel) (pc' := 39) rfl rfl rfl ?_
  refine X_iconst (v := 0) (show decode (mB 164) 39 = .ok (.iconst 0, 1) by decide +kernel) (pc' := 40) rfl rfl ?_
  exact X_callV (y := 141) (n := 3) (st := [.int 0, .int x1, .ref q_65_11, .ref 65]) (as := [.ref 65, .ref q_65_11, .int x1, .int 0]) (rest := []) (ls0 := [.ref 65, .ref q_65_11, .int x1, .int 0, .null, .null, .null, .null, .null]) (ci := 13) (show decode (mB 164) 40 = .ok (.invokevirtual 220, 3) by decide +kernel) (pc' := 43) rfl (by decide +kernel) (by decide +kernel) rfl (ls_65 hL) (by decide +kernel) rfl rfl rfl rfl rfl k
set_option maxRecDepth 4000 in
theorem b_X14_cone_43 {xs : Nat → Int32} {L d : Nat} {S : Nat → Shp} {I : Nat → Nat → Int32} {J : Nat → Nat → Int64} {R : Nat → Nat → Nat} {c : Nat × Nat} {Q : Option (Option Value) → MH → Prop} {x1 : Int32}  (k : X xs L (d + 1) 164 47 [.ref 65, .int x1, .int 0, .int 0] [] (S, I, J, R, c) Q) : X xs L (d + 1) 164 43 [.ref 65, .int x1, .null, .null] [] (S, I, J, R, c) Q := by
  refine X_iconst (v := 0) (show decode (mB 164) 43 = .ok (.iconst 0, 1) by decide +kernel) (pc' := 44) rfl rfl ?_
  refine X_istore_n (q := 2) (ls' := [.ref 65, .int x1, .int 0, .null]) (show decode (mB 164) 44 = .ok (.istore_n 2, 1) by decide +kernel) (pc' := 45) rfl rfl rfl ?_
  refine X_iconst (v := 0) (show decode (mB 164) 45 = .ok (.iconst 0, 1) by decide +kernel) (pc' := 46) rfl rfl ?_
  refine X_istore_n (q := 3) (ls' := [.ref 65, .int x1, .int 0, .int 0]) (show decode (mB 164) 46 = .ok (.istore_n 3, 1) by decide +kernel) (pc' := 47) rfl rfl rfl ?_
  exact k
set_option maxRecDepth 4000 in
theorem b_X14_cone_47 {xs : Nat → Int32} {L d : Nat} {S : Nat → Shp} {I : Nat → Nat → Int32} {J : Nat → Nat → Int64} {R : Nat → Nat → Nat} {c : Nat × Nat} {Q : Option (Option Value) → MH → Prop} {x1 x2 x3 : Int32} {q_65_11 : Nat} (hL : Lay S R) (hq_65_11 : R 65 11 = q_65_11) (h_q_65_11 : LyNo S R q_65_11) (kt : (I q_65_11 4) ≤ x3 → X xs L (d + 1) 164 81 [.ref 65, .int x1, .int x2, .int x3] [] (S, I, J, R, c) Q) (kf : ¬ ((I q_65_11 4) ≤ x3) → X xs L (d + 1) 164 58 [.ref 65, .int x1, .int x2, .int x3] [] (S, I, J, R, c) Q) : X xs L (d + 1) 164 47 [.ref 65, .int x1, .int x2, .int x3] [] (S, I, J, R, c) Q := by
  refine X_iload_n (q := 3) (show decode (mB 164) 47 = .ok (.iload_n 3, 1) by decide +kernel) (pc' := 48) rfl rfl rfl ?_
  refine X_aload_n (q := 0) (show decode (mB 164) 48 = .ok (.aload_n 0, 1) by decide +kernel) (pc' := 49) rfl rfl rfl ?_
  refine X_getR (ci := 13) (f := 11) (q := q_65_11) (show decode (mB 164) 49 = .ok (.getfield 40, 3) by decide +kernel) (pc' := 52) rfl (ls_65 hL) (by decide +kernel) rfl hq_65_11 ?_
  refine X_getI (ci := 11) (f := 4) (x := I q_65_11 4) (show decode (mB 164) 52 = .ok (.getfield 200, 3) by decide +kernel) (pc' := 55) rfl h_q_65_11.s0 (by decide +kernel) rfl rfl ?_
  exact X_icmp_ge (tgt := 81) (show decode (mB 164) 55 = .ok (.if_icmp .ge 26, 3) by decide +kernel) rfl (pc' := 58) rfl kt kf
set_option maxRecDepth 4000 in
theorem b_X14_cone_58 {xs : Nat → Int32} {L d : Nat} {S : Nat → Shp} {I : Nat → Nat → Int32} {J : Nat → Nat → Int64} {R : Nat → Nat → Nat} {c : Nat × Nat} {Q : Option (Option Value) → MH → Prop} {x1 x2 x3 : Int32} (hL : Lay S R) (hb64 : inb x3 40 = true) (kt : (I 118 x3.toNatClampNeg) = 0 → X xs L (d + 1) 164 72 [.ref 65, .int x1, .int x2, .int x3] [.int x2] (S, I, J, R, c) Q) (kf : ¬ ((I 118 x3.toNatClampNeg) = 0) → X xs L (d + 1) 164 68 [.ref 65, .int x1, .int x2, .int x3] [.int x2] (S, I, J, R, c) Q) : X xs L (d + 1) 164 58 [.ref 65, .int x1, .int x2, .int x3] [] (S, I, J, R, c) Q := by
  refine X_iload_n (q := 2) (show decode (mB 164) 58 = .ok (.iload_n 2, 1) by decide +kernel) (pc' := 59) rfl rfl rfl ?_
  refine X_aload_n (q := 0) (show decode (mB 164) 59 = .ok (.aload_n 0, 1) by decide +kernel) (pc' := 60) rfl rfl rfl ?_
  refine X_getR (ci := 13) (f := 30) (q := 118) (show decode (mB 164) 60 = .ok (.getfield 80, 3) by decide +kernel) (pc' := 63) rfl (ls_65 hL) (by decide +kernel) rfl (lr_65_30 hL) ?_
  refine X_iload_n (q := 3) (show decode (mB 164) 63 = .ok (.iload_n 3, 1) by decide +kernel) (pc' := 64) rfl rfl rfl ?_
  refine X_zaload (w := I 118 x3.toNatClampNeg) (show decode (mB 164) 64 = .ok (.baload, 1) by decide +kernel) (pc' := 65) rfl (ls_118 hL) hb64 rfl ?_
  exact X_if_eq (tgt := 72) (show decode (mB 164) 65 = .ok (.ifCond .eq 7, 3) by decide +kernel) rfl (pc' := 68) rfl kt kf
set_option maxRecDepth 4000 in
theorem b_X14_cone_68 {xs : Nat → Int32} {L d : Nat} {S : Nat → Shp} {I : Nat → Nat → Int32} {J : Nat → Nat → Int64} {R : Nat → Nat → Nat} {c : Nat × Nat} {Q : Option (Option Value) → MH → Prop} {x1 x2 x3 sx0 : Int32}  (k : X xs L (d + 1) 164 73 [.ref 65, .int x1, .int x2, .int x3] [.int 1, .int sx0] (S, I, J, R, c) Q) : X xs L (d + 1) 164 68 [.ref 65, .int x1, .int x2, .int x3] [.int sx0] (S, I, J, R, c) Q := by
  refine X_iconst (v := 1) (show decode (mB 164) 68 = .ok (.iconst 1, 1) by decide +kernel) (pc' := 69) rfl rfl ?_
  refine X_goto (tgt := 73) (show decode (mB 164) 69 = .ok (.goto 4, 3) by decide +kernel) rfl ?_
  exact k
set_option maxRecDepth 4000 in
theorem b_X14_cone_72 {xs : Nat → Int32} {L d : Nat} {S : Nat → Shp} {I : Nat → Nat → Int32} {J : Nat → Nat → Int64} {R : Nat → Nat → Nat} {c : Nat × Nat} {Q : Option (Option Value) → MH → Prop} {x1 x2 x3 sx0 : Int32}  (k : X xs L (d + 1) 164 73 [.ref 65, .int x1, .int x2, .int x3] [.int 0, .int sx0] (S, I, J, R, c) Q) : X xs L (d + 1) 164 72 [.ref 65, .int x1, .int x2, .int x3] [.int sx0] (S, I, J, R, c) Q := by
  refine X_iconst (v := 0) (show decode (mB 164) 72 = .ok (.iconst 0, 1) by decide +kernel) (pc' := 73) rfl rfl ?_
  exact k
set_option maxRecDepth 4000 in
theorem b_X14_cone_73 {xs : Nat → Int32} {L d : Nat} {S : Nat → Shp} {I : Nat → Nat → Int32} {J : Nat → Nat → Int64} {R : Nat → Nat → Nat} {c : Nat × Nat} {Q : Option (Option Value) → MH → Prop} {x1 x2 x3 sx0 sx1 : Int32}  (k : X xs L (d + 1) 164 47 [.ref 65, .int x1, .int (sx0 + sx1), .int (x3 + 1)] [] (S, I, J, R, c) Q) : X xs L (d + 1) 164 73 [.ref 65, .int x1, .int x2, .int x3] [.int sx1, .int sx0] (S, I, J, R, c) Q := by
  refine X_iadd (show decode (mB 164) 73 = .ok (.iadd, 1) by decide +kernel) (pc' := 74) rfl ?_
  refine X_istore_n (q := 2) (ls' := [.ref 65, .int x1, .int (sx0 + sx1), .int x3]) (show decode (mB 164) 74 = .ok (.istore_n 2, 1) by decide +kernel) (pc' := 75) rfl rfl rfl ?_
  refine X_iinc (q := 3) (v := x3 + 1) (ls' := [.ref 65, .int x1, .int (sx0 + sx1), .int (x3 + 1)]) (show decode (mB 164) 75 = .ok (.iinc 3 1, 3) by decide +kernel) (pc' := 78) rfl rfl rfl rfl ?_
  refine X_goto (tgt := 47) (show decode (mB 164) 78 = .ok (.goto (-31), 3) by decide +kernel) rfl ?_
  exact k
set_option maxRecDepth 4000 in
theorem b_X14_cone_81 {xs : Nat → Int32} {L d : Nat} {S : Nat → Shp} {I : Nat → Nat → Int32} {J : Nat → Nat → Int64} {R : Nat → Nat → Nat} {c : Nat × Nat} {Q : Option (Option Value) → MH → Prop} {x1 x2 x3 : Int32}  (k : Q (some (some (.int x2))) (S, I, J, R, c)) : X xs L (d + 1) 164 81 [.ref 65, .int x1, .int x2, .int x3] [] (S, I, J, R, c) Q := by
  refine X_iload_n (q := 2) (show decode (mB 164) 81 = .ok (.iload_n 2, 1) by decide +kernel) (pc' := 82) rfl rfl rfl ?_
  exact X_ireturn (ty := .int) (show decode (mB 164) 82 = .ok (.ireturn, 1) by decide +kernel) (by decide +kernel) rfl k
set_option maxRecDepth 4000 in
theorem b_X14_kinds_0 {xs : Nat → Int32} {L d : Nat} {S : Nat → Shp} {I : Nat → Nat → Int32} {J : Nat → Nat → Int64} {R : Nat → Nat → Nat} {c : Nat × Nat} {Q : Option (Option Value) → MH → Prop} {x1 : Int32}  (k : X xs L d 165 4 [.ref 65, .int x1, .int 0, .int 0] [] (S, I, J, R, c) Q) : X xs L d 165 0 [.ref 65, .int x1, .null, .null] [] (S, I, J, R, c) Q := by
  refine X_iconst (v := 0) (show decode (mB 165) 0 = .ok (.iconst 0, 1) by decide +kernel) (pc' := 1) rfl rfl ?_
  refine X_istore_n (q := 2) (ls' := [.ref 65, .int x1, .int 0, .null]) (show decode (mB 165) 1 = .ok (.istore_n 2, 1) by decide +kernel) (pc' := 2) rfl rfl rfl ?_
  refine X_iconst (v := 0) (show decode (mB 165) 2 = .ok (.iconst 0, 1) by decide +kernel) (pc' := 3) rfl rfl ?_
  refine X_istore_n (q := 3) (ls' := [.ref 65, .int x1, .int 0, .int 0]) (show decode (mB 165) 3 = .ok (.istore_n 3, 1) by decide +kernel) (pc' := 4) rfl rfl rfl ?_
  exact k
set_option maxRecDepth 4000 in
theorem b_X14_kinds_4 {xs : Nat → Int32} {L d : Nat} {S : Nat → Shp} {I : Nat → Nat → Int32} {J : Nat → Nat → Int64} {R : Nat → Nat → Nat} {c : Nat × Nat} {Q : Option (Option Value) → MH → Prop} {x1 x2 x3 : Int32} (hL : Lay S R)  (kt : (I 65 22) = 0 → X xs L d 165 49 [.ref 65, .int x1, .int x2, .int x3] [] (S, I, J, R, c) Q) (kf : ¬ ((I 65 22) = 0) → X xs L d 165 11 [.ref 65, .int x1, .int x2, .int x3] [] (S, I, J, R, c) Q) : X xs L d 165 4 [.ref 65, .int x1, .int x2, .int x3] [] (S, I, J, R, c) Q := by
  refine X_aload_n (q := 0) (show decode (mB 165) 4 = .ok (.aload_n 0, 1) by decide +kernel) (pc' := 5) rfl rfl rfl ?_
  refine X_getI (ci := 13) (f := 22) (x := I 65 22) (show decode (mB 165) 5 = .ok (.getfield 236, 3) by decide +kernel) (pc' := 8) rfl (ls_65 hL) (by decide +kernel) rfl rfl ?_
  exact X_if_eq (tgt := 49) (show decode (mB 165) 8 = .ok (.ifCond .eq 41, 3) by decide +kernel) rfl (pc' := 11) rfl kt kf
set_option maxRecDepth 4000 in
theorem b_X14_kinds_11 {xs : Nat → Int32} {L d : Nat} {S : Nat → Shp} {I : Nat → Nat → Int32} {J : Nat → Nat → Int64} {R : Nat → Nat → Nat} {c : Nat × Nat} {Q : Option (Option Value) → MH → Prop} {x1 x2 x3 : Int32} {q_65_11 : Nat} (hL : Lay S R) (hq_65_11 : R 65 11 = q_65_11) (h_q_65_11 : LyNo S R q_65_11) (kt : (I q_65_11 4) ≤ x3 → X xs L d 165 49 [.ref 65, .int x1, .int x2, .int x3] [] (S, I, J, R, c) Q) (kf : ¬ ((I q_65_11 4) ≤ x3) → X xs L d 165 22 [.ref 65, .int x1, .int x2, .int x3] [] (S, I, J, R, c) Q) : X xs L d 165 11 [.ref 65, .int x1, .int x2, .int x3] [] (S, I, J, R, c) Q := by
  refine X_iload_n (q := 3) (show decode (mB 165) 11 = .ok (.iload_n 3, 1) by decide +kernel) (pc' := 12) rfl rfl rfl ?_
  refine X_aload_n (q := 0) (show decode (mB 165) 12 = .ok (.aload_n 0, 1) by decide +kernel) (pc' := 13) rfl rfl rfl ?_
  refine X_getR (ci := 13) (f := 11) (q := q_65_11) (show decode (mB 165) 13 = .ok (.getfield 40, 3) by decide +kernel) (pc' := 16) rfl (ls_65 hL) (by decide +kernel) rfl hq_65_11 ?_
  refine X_getI (ci := 11) (f := 4) (x := I q_65_11 4) (show decode (mB 165) 16 = .ok (.getfield 200, 3) by decide +kernel) (pc' := 19) rfl h_q_65_11.s0 (by decide +kernel) rfl rfl ?_
  exact X_icmp_ge (tgt := 49) (show decode (mB 165) 19 = .ok (.if_icmp .ge 30, 3) by decide +kernel) rfl (pc' := 22) rfl kt kf
set_option maxRecDepth 4000 in
theorem b_X14_kinds_22 {xs : Nat → Int32} {L d : Nat} {S : Nat → Shp} {I : Nat → Nat → Int32} {J : Nat → Nat → Int64} {R : Nat → Nat → Nat} {c : Nat × Nat} {Q : Option (Option Value) → MH → Prop} {x1 x2 x3 : Int32} {q_65_11 : Nat} (hL : Lay S R) (hq_65_11 : R 65 11 = q_65_11) (h_q_65_11 : LyNo S R q_65_11) (hb31 : inb x3 40 = true) (kt : ¬ (I (q_65_11 + 2) x3.toNatClampNeg) = x1 → X xs L d 165 40 [.ref 65, .int x1, .int x2, .int x3] [.int x2] (S, I, J, R, c) Q) (kf : ¬ (¬ (I (q_65_11 + 2) x3.toNatClampNeg) = x1) → X xs L d 165 36 [.ref 65, .int x1, .int x2, .int x3] [.int x2] (S, I, J, R, c) Q) : X xs L d 165 22 [.ref 65, .int x1, .int x2, .int x3] [] (S, I, J, R, c) Q := by
  refine X_iload_n (q := 2) (show decode (mB 165) 22 = .ok (.iload_n 2, 1) by decide +kernel) (pc' := 23) rfl rfl rfl ?_
  refine X_aload_n (q := 0) (show decode (mB 165) 23 = .ok (.aload_n 0, 1) by decide +kernel) (pc' := 24) rfl rfl rfl ?_
  refine X_getR (ci := 13) (f := 11) (q := q_65_11) (show decode (mB 165) 24 = .ok (.getfield 40, 3) by decide +kernel) (pc' := 27) rfl (ls_65 hL) (by decide +kernel) rfl hq_65_11 ?_
  refine X_getR (ci := 11) (f := 1) (q := (q_65_11 + 2)) (show decode (mB 165) 27 = .ok (.getfield 209, 3) by decide +kernel) (pc' := 30) rfl h_q_65_11.s0 (by decide +kernel) rfl h_q_65_11.r0_1 ?_
  refine X_iload_n (q := 3) (show decode (mB 165) 30 = .ok (.iload_n 3, 1) by decide +kernel) (pc' := 31) rfl rfl rfl ?_
  refine X_iaload (w := I (q_65_11 + 2) x3.toNatClampNeg) (show decode (mB 165) 31 = .ok (.iaload, 1) by decide +kernel) (pc' := 32) rfl h_q_65_11.s2 hb31 rfl ?_
  refine X_iload_n (q := 1) (show decode (mB 165) 32 = .ok (.iload_n 1, 1) by decide +kernel) (pc' := 33) rfl rfl rfl ?_
  exact X_icmp_ne (tgt := 40) (show decode (mB 165) 33 = .ok (.if_icmp .ne 7, 3) by decide +kernel) rfl (pc' := 36) rfl kt kf
set_option maxRecDepth 4000 in
theorem b_X14_kinds_36 {xs : Nat → Int32} {L d : Nat} {S : Nat → Shp} {I : Nat → Nat → Int32} {J : Nat → Nat → Int64} {R : Nat → Nat → Nat} {c : Nat × Nat} {Q : Option (Option Value) → MH → Prop} {x1 x2 x3 sx0 : Int32}  (k : X xs L d 165 41 [.ref 65, .int x1, .int x2, .int x3] [.int 1, .int sx0] (S, I, J, R, c) Q) : X xs L d 165 36 [.ref 65, .int x1, .int x2, .int x3] [.int sx0] (S, I, J, R, c) Q := by
  refine X_iconst (v := 1) (show decode (mB 165) 36 = .ok (.iconst 1, 1) by decide +kernel) (pc' := 37) rfl rfl ?_
  refine X_goto (tgt := 41) (show decode (mB 165) 37 = .ok (.goto 4, 3) by decide +kernel) rfl ?_
  exact k
set_option maxRecDepth 4000 in
theorem b_X14_kinds_40 {xs : Nat → Int32} {L d : Nat} {S : Nat → Shp} {I : Nat → Nat → Int32} {J : Nat → Nat → Int64} {R : Nat → Nat → Nat} {c : Nat × Nat} {Q : Option (Option Value) → MH → Prop} {x1 x2 x3 sx0 : Int32}  (k : X xs L d 165 41 [.ref 65, .int x1, .int x2, .int x3] [.int 0, .int sx0] (S, I, J, R, c) Q) : X xs L d 165 40 [.ref 65, .int x1, .int x2, .int x3] [.int sx0] (S, I, J, R, c) Q := by
  refine X_iconst (v := 0) (show decode (mB 165) 40 = .ok (.iconst 0, 1) by decide +kernel) (pc' := 41) rfl rfl ?_
  exact k
set_option maxRecDepth 4000 in
theorem b_X14_kinds_41 {xs : Nat → Int32} {L d : Nat} {S : Nat → Shp} {I : Nat → Nat → Int32} {J : Nat → Nat → Int64} {R : Nat → Nat → Nat} {c : Nat × Nat} {Q : Option (Option Value) → MH → Prop} {x1 x2 x3 sx0 sx1 : Int32}  (k : X xs L d 165 4 [.ref 65, .int x1, .int (sx0 + sx1), .int (x3 + 1)] [] (S, I, J, R, c) Q) : X xs L d 165 41 [.ref 65, .int x1, .int x2, .int x3] [.int sx1, .int sx0] (S, I, J, R, c) Q := by
  refine X_iadd (show decode (mB 165) 41 = .ok (.iadd, 1) by decide +kernel) (pc' := 42) rfl ?_
  refine X_istore_n (q := 2) (ls' := [.ref 65, .int x1, .int (sx0 + sx1), .int x3]) (show decode (mB 165) 42 = .ok (.istore_n 2, 1) by decide +kernel) (pc' := 43) rfl rfl rfl ?_
  refine X_iinc (q := 3) (v := x3 + 1) (ls' := [.ref 65, .int x1, .int (sx0 + sx1), .int (x3 + 1)]) (show decode (mB 165) 43 = .ok (.iinc 3 1, 3) by decide +kernel) (pc' := 46) rfl rfl rfl rfl ?_
  refine X_goto (tgt := 4) (show decode (mB 165) 46 = .ok (.goto (-42), 3) by decide +kernel) rfl ?_
  exact k
set_option maxRecDepth 4000 in
theorem b_X14_kinds_49 {xs : Nat → Int32} {L d : Nat} {S : Nat → Shp} {I : Nat → Nat → Int32} {J : Nat → Nat → Int64} {R : Nat → Nat → Nat} {c : Nat × Nat} {Q : Option (Option Value) → MH → Prop} {x1 x2 x3 : Int32}  (k : Q (some (some (.int x2))) (S, I, J, R, c)) : X xs L d 165 49 [.ref 65, .int x1, .int x2, .int x3] [] (S, I, J, R, c) Q := by
  refine X_iload_n (q := 2) (show decode (mB 165) 49 = .ok (.iload_n 2, 1) by decide +kernel) (pc' := 50) rfl rfl rfl ?_
  exact X_ireturn (ty := .int) (show decode (mB 165) 50 = .ok (.ireturn, 1) by decide +kernel) (by decide +kernel) rfl k
set_option maxRecDepth 4000 in
theorem b_X14_count_0 {xs : Nat → Int32} {L d : Nat} {S : Nat → Shp} {I : Nat → Nat → Int32} {J : Nat → Nat → Int64} {R : Nat → Nat → Nat} {c : Nat × Nat} {Q : Option (Option Value) → MH → Prop} {x1 : Int32} {tgt : Nat}  (hsw : xnB 1 (.tableswitch 163 0 7 #[47, 66, 73, 80, 87, 106, 125, 144]) (.int x1 :: []) = some (tgt, [])) (k : X xs L (d + 1) 166 tgt [.ref 65, .int x1] [] (S, I, J, R, c) Q) : X xs L (d + 1) 166 0 [.ref 65, .int x1] [] (S, I, J, R, c) Q := by
  refine X_iload_n (q := 1) (show decode (mB 166) 0 = .ok (.iload_n 1, 1) by decide +kernel) (pc' := 1) rfl rfl rfl ?_
  exact X_sw (show decode (mB 166) 1 = .ok (.tableswitch 163 0 7 #[47, 66, 73, 80, 87, 106, 125, 144], 47) by decide +kernel) rfl rfl hsw k
set_option maxRecDepth 4000 in
theorem b_X14_count_48 {xs : Nat → Int32} {L d : Nat} {S : Nat → Shp} {I : Nat → Nat → Int32} {J : Nat → Nat → Int64} {R : Nat → Nat → Nat} {c : Nat × Nat} {Q : Option (Option Value) → MH → Prop} {x1 : Int32} (hL : Lay S R)  (kt : (I 65 22) = 0 → X xs L (d + 1) 166 65 [.ref 65, .int x1] [] (S, I, J, R, c) Q) (kf : ¬ ((I 65 22) = 0) → X xs L (d + 1) 166 55 [.ref 65, .int x1] [] (S, I, J, R, c) Q) : X xs L (d + 1) 166 48 [.ref 65, .int x1] [] (S, I, J, R, c) Q := by
  refine X_aload_n (q := 0) (show decode (mB 166) 48 = .ok (.aload_n 0, 1) by decide +kernel) (pc' := 49) rfl rfl rfl ?_
  refine X_getI (ci := 13) (f := 22) (x := I 65 22) (show decode (mB 166) 49 = .ok (.getfield 236, 3) by decide +kernel) (pc' := 52) rfl (ls_65 hL) (by decide +kernel) rfl rfl ?_
  exact X_if_eq (tgt := 65) (show decode (mB 166) 52 = .ok (.ifCond .eq 13, 3) by decide +kernel) rfl (pc' := 55) rfl kt kf
set_option maxRecDepth 4000 in
theorem b_X14_count_55 {xs : Nat → Int32} {L d : Nat} {S : Nat → Shp} {I : Nat → Nat → Int32} {J : Nat → Nat → Int64} {R : Nat → Nat → Nat} {c : Nat × Nat} {Q : Option (Option Value) → MH → Prop} {x1 : Int32} {q_65_11 : Nat} (hL : Lay S R) (hq_65_11 : R 65 11 = q_65_11) (h_q_65_11 : LyNo S R q_65_11) (k : X xs L (d + 1) 166 66 [.ref 65, .int x1] [.int (I q_65_11 4)] (S, I, J, R, c) Q) : X xs L (d + 1) 166 55 [.ref 65, .int x1] [] (S, I, J, R, c) Q := by
  refine X_aload_n (q := 0) (show decode (mB 166) 55 = .ok (.aload_n 0, 1) by decide +kernel) (pc' := 56) rfl rfl rfl ?_
  refine X_getR (ci := 13) (f := 11) (q := q_65_11) (show decode (mB 166) 56 = .ok (.getfield 40, 3) by decide +kernel) (pc' := 59) rfl (ls_65 hL) (by decide +kernel) rfl hq_65_11 ?_
  refine X_getI (ci := 11) (f := 4) (x := I q_65_11 4) (show decode (mB 166) 59 = .ok (.getfield 200, 3) by decide +kernel) (pc' := 62) rfl h_q_65_11.s0 (by decide +kernel) rfl rfl ?_
  refine X_goto (tgt := 66) (show decode (mB 166) 62 = .ok (.goto 4, 3) by decide +kernel) rfl ?_
  exact k
set_option maxRecDepth 4000 in
theorem b_X14_count_65 {xs : Nat → Int32} {L d : Nat} {S : Nat → Shp} {I : Nat → Nat → Int32} {J : Nat → Nat → Int64} {R : Nat → Nat → Nat} {c : Nat × Nat} {Q : Option (Option Value) → MH → Prop} {x1 : Int32}  (k : X xs L (d + 1) 166 66 [.ref 65, .int x1] [.int 0] (S, I, J, R, c) Q) : X xs L (d + 1) 166 65 [.ref 65, .int x1] [] (S, I, J, R, c) Q := by
  refine X_iconst (v := 0) (show decode (mB 166) 65 = .ok (.iconst 0, 1) by decide +kernel) (pc' := 66) rfl rfl ?_
  exact k
set_option maxRecDepth 4000 in
theorem b_X14_count_66 {xs : Nat → Int32} {L d : Nat} {S : Nat → Shp} {I : Nat → Nat → Int32} {J : Nat → Nat → Int64} {R : Nat → Nat → Nat} {c : Nat × Nat} {Q : Option (Option Value) → MH → Prop} {x1 sx0 : Int32}  (k : Q (some (some (.int sx0))) (S, I, J, R, c)) : X xs L (d + 1) 166 66 [.ref 65, .int x1] [.int sx0] (S, I, J, R, c) Q := by
  exact X_ireturn (ty := .int) (show decode (mB 166) 66 = .ok (.ireturn, 1) by decide +kernel) (by decide +kernel) rfl k
set_option maxRecDepth 4000 in
theorem b_X14_count_67 {xs : Nat → Int32} {L d : Nat} {S : Nat → Shp} {I : Nat → Nat → Int32} {J : Nat → Nat → Int64} {R : Nat → Nat → Nat} {c : Nat × Nat} {Q : Option (Option Value) → MH → Prop} {x1 : Int32} (hL : Lay S R)  (k : X xs L d 165 0 [.ref 65, .int 10, .null, .null] [] (S, I, J, R, c) (Kc xs L (d + 1) 166 73 [.ref 65, .int x1] [] Q)) : X xs L (d + 1) 166 67 [.ref 65, .int x1] [] (S, I, J, R, c) Q := by
  refine X_aload_n (q := 0) (show decode (mB 166) 67 = .ok (.aload_n 0, 1) by decide +kernel) (pc' := 68) rfl rfl rfl ?_
  refine X_bipush (v := 10) (show decode (mB 166) 68 = .ok (.bipush 10, 2) by decide +kernel) (pc' := 70) rfl (by decide +kernel) ?_
  exact X_callV (y := 165) (n := 1) (st := [.int 10, .ref 65]) (as := [.ref 65, .int 10]) (rest := []) (ls0 := [.ref 65, .int 10, .null, .null]) (ci := 13) (show decode (mB 166) 70 = .ok (.invokevirtual 309, 3) by decide +kernel) (pc' := 73) rfl (by decide +kernel) (by decide +kernel) rfl (ls_65 hL) (by decide +kernel) rfl rfl rfl rfl rfl k
set_option maxRecDepth 4000 in
theorem b_X14_count_73 {xs : Nat → Int32} {L d : Nat} {S : Nat → Shp} {I : Nat → Nat → Int32} {J : Nat → Nat → Int64} {R : Nat → Nat → Nat} {c : Nat × Nat} {Q : Option (Option Value) → MH → Prop} {x1 sx0 : Int32}  (k : Q (some (some (.int sx0))) (S, I, J, R, c)) : X xs L (d + 1) 166 73 [.ref 65, .int x1] [.int sx0] (S, I, J, R, c) Q := by
  exact X_ireturn (ty := .int) (show decode (mB 166) 73 = .ok (.ireturn, 1) by decide +kernel) (by decide +kernel) rfl k
set_option maxRecDepth 4000 in
theorem b_X14_count_74 {xs : Nat → Int32} {L d : Nat} {S : Nat → Shp} {I : Nat → Nat → Int32} {J : Nat → Nat → Int64} {R : Nat → Nat → Nat} {c : Nat × Nat} {Q : Option (Option Value) → MH → Prop} {x1 : Int32} (hL : Lay S R)  (k : X xs L d 165 0 [.ref 65, .int 11, .null, .null] [] (S, I, J, R, c) (Kc xs L (d + 1) 166 80 [.ref 65, .int x1] [] Q)) : X xs L (d + 1) 166 74 [.ref 65, .int x1] [] (S, I, J, R, c) Q := by
  refine X_aload_n (q := 0) (show decode (mB 166) 74 = .ok (.aload_n 0, 1) by decide +kernel) (pc' := 75) rfl rfl rfl ?_
  refine X_bipush (v := 11) (show decode (mB 166) 75 = .ok (.bipush 11, 2) by decide +kernel) (pc' := 77) rfl (by decide +kernel) ?_
  exact X_callV (y := 165) (n := 1) (st := [.int 11, .ref 65]) (as := [.ref 65, .int 11]) (rest := []) (ls0 := [.ref 65, .int 11, .null, .null]) (ci := 13) (show decode (mB 166) 77 = .ok (.invokevirtual 309, 3) by decide +kernel) (pc' := 80) rfl (by decide +kernel) (by decide +kernel) rfl (ls_65 hL) (by decide +kernel) rfl rfl rfl rfl rfl k
set_option maxRecDepth 4000 in
theorem b_X14_count_80 {xs : Nat → Int32} {L d : Nat} {S : Nat → Shp} {I : Nat → Nat → Int32} {J : Nat → Nat → Int64} {R : Nat → Nat → Nat} {c : Nat × Nat} {Q : Option (Option Value) → MH → Prop} {x1 sx0 : Int32}  (k : Q (some (some (.int sx0))) (S, I, J, R, c)) : X xs L (d + 1) 166 80 [.ref 65, .int x1] [.int sx0] (S, I, J, R, c) Q := by
  exact X_ireturn (ty := .int) (show decode (mB 166) 80 = .ok (.ireturn, 1) by decide +kernel) (by decide +kernel) rfl k
set_option maxRecDepth 4000 in
theorem b_X14_count_81 {xs : Nat → Int32} {L d : Nat} {S : Nat → Shp} {I : Nat → Nat → Int32} {J : Nat → Nat → Int64} {R : Nat → Nat → Nat} {c : Nat × Nat} {Q : Option (Option Value) → MH → Prop} {x1 : Int32} (hL : Lay S R)  (k : X xs L d 165 0 [.ref 65, .int 12, .null, .null] [] (S, I, J, R, c) (Kc xs L (d + 1) 166 87 [.ref 65, .int x1] [] Q)) : X xs L (d + 1) 166 81 [.ref 65, .int x1] [] (S, I, J, R, c) Q := by
  refine X_aload_n (q := 0) (show decode (mB 166) 81 = .ok (.aload_n 0, 1) by decide +kernel) (pc' := 82) rfl rfl rfl ?_
  refine X_bipush (v := 12) (show decode (mB 166) 82 = .ok (.bipush 12, 2) by decide +kernel) (pc' := 84) rfl (by decide +kernel) ?_
  exact X_callV (y := 165) (n := 1) (st := [.int 12, .ref 65]) (as := [.ref 65, .int 12]) (rest := []) (ls0 := [.ref 65, .int 12, .null, .null]) (ci := 13) (show decode (mB 166) 84 = .ok (.invokevirtual 309, 3) by decide +kernel) (pc' := 87) rfl (by decide +kernel) (by decide +kernel) rfl (ls_65 hL) (by decide +kernel) rfl rfl rfl rfl rfl k
set_option maxRecDepth 4000 in
theorem b_X14_count_87 {xs : Nat → Int32} {L d : Nat} {S : Nat → Shp} {I : Nat → Nat → Int32} {J : Nat → Nat → Int64} {R : Nat → Nat → Nat} {c : Nat × Nat} {Q : Option (Option Value) → MH → Prop} {x1 sx0 : Int32}  (k : Q (some (some (.int sx0))) (S, I, J, R, c)) : X xs L (d + 1) 166 87 [.ref 65, .int x1] [.int sx0] (S, I, J, R, c) Q := by
  exact X_ireturn (ty := .int) (show decode (mB 166) 87 = .ok (.ireturn, 1) by decide +kernel) (by decide +kernel) rfl k
set_option maxRecDepth 4000 in
theorem b_X14_count_88 {xs : Nat → Int32} {L d : Nat} {S : Nat → Shp} {I : Nat → Nat → Int32} {J : Nat → Nat → Int64} {R : Nat → Nat → Nat} {c : Nat × Nat} {Q : Option (Option Value) → MH → Prop} {x1 : Int32} {q_65_13 : Nat} (hL : Lay S R) (hq_65_13 : R 65 13 = q_65_13) (kt : ¬ q_65_13 = 0 → X xs L (d + 1) 166 99 [.ref 65, .int x1] [] (S, I, J, R, c) Q) (kf : ¬ (¬ q_65_13 = 0) → X xs L (d + 1) 166 95 [.ref 65, .int x1] [] (S, I, J, R, c) Q) : X xs L (d + 1) 166 88 [.ref 65, .int x1] [] (S, I, J, R, c) Q := by
  refine X_aload_n (q := 0) (show decode (mB 166) 88 = .ok (.aload_n 0, 1) by decide +kernel) (pc' := 89) rfl rfl rfl ?_
  refine X_getR (ci := 13) (f := 13) (q := q_65_13) (show decode (mB 166) 89 = .ok (.getfield 233, 3) by decide +kernel) (pc' := 92) rfl (ls_65 hL) (by decide +kernel) rfl hq_65_13 ?_
  exact X_ifnonnull (tgt := 99) (show decode (mB 166) 92 = .ok (.ifnonnull 7, 3) by decide +kernel) rfl (pc' := 95) rfl kt (fun h => kf (fun z => z h))
set_option maxRecDepth 4000 in
theorem b_X14_count_95 {xs : Nat → Int32} {L d : Nat} {S : Nat → Shp} {I : Nat → Nat → Int32} {J : Nat → Nat → Int64} {R : Nat → Nat → Nat} {c : Nat × Nat} {Q : Option (Option Value) → MH → Prop} {x1 : Int32}  (k : X xs L (d + 1) 166 106 [.ref 65, .int x1] [.int 0] (S, I, J, R, c) Q) : X xs L (d + 1) 166 95 [.ref 65, .int x1] [] (S, I, J, R, c) Q := by
  refine X_iconst (v := 0) (show decode (mB 166) 95 = .ok (.iconst 0, 1) by decide +kernel) (pc' := 96) rfl rfl ?_
  refine X_goto (tgt := 106) (show decode (mB 166) 96 = .ok (.goto 10, 3) by decide +kernel) rfl ?_
  exact k
set_option maxRecDepth 4000 in
theorem b_X14_count_99 {xs : Nat → Int32} {L d : Nat} {S : Nat → Shp} {I : Nat → Nat → Int32} {J : Nat → Nat → Int64} {R : Nat → Nat → Nat} {c : Nat × Nat} {Q : Option (Option Value) → MH → Prop} {x1 : Int32} {q_65_13 : Nat} (hL : Lay S R) (hq_65_13 : R 65 13 = q_65_13) (h_q_65_13 : LyCs S R q_65_13) (k : X xs L (d + 1) 166 106 [.ref 65, .int x1] [.int (I q_65_13 8)] (S, I, J, R, c) Q) : X xs L (d + 1) 166 99 [.ref 65, .int x1] [] (S, I, J, R, c) Q := by
  refine X_aload_n (q := 0) (show decode (mB 166) 99 = .ok (.aload_n 0, 1) by decide +kernel) (pc' := 100) rfl rfl rfl ?_
  refine X_getR (ci := 13) (f := 13) (q := q_65_13) (show decode (mB 166) 100 = .ok (.getfield 233, 3) by decide +kernel) (pc' := 103) rfl (ls_65 hL) (by decide +kernel) rfl hq_65_13 ?_
  refine X_getI (ci := 10) (f := 8) (x := I q_65_13 8) (show decode (mB 166) 103 = .ok (.getfield 195, 3) by decide +kernel) (pc' := 106) rfl h_q_65_13.s0 (by decide +kernel) rfl rfl ?_
  exact k
set_option maxRecDepth 4000 in
theorem b_X14_count_106 {xs : Nat → Int32} {L d : Nat} {S : Nat → Shp} {I : Nat → Nat → Int32} {J : Nat → Nat → Int64} {R : Nat → Nat → Nat} {c : Nat × Nat} {Q : Option (Option Value) → MH → Prop} {x1 sx0 : Int32}  (k : Q (some (some (.int sx0))) (S, I, J, R, c)) : X xs L (d + 1) 166 106 [.ref 65, .int x1] [.int sx0] (S, I, J, R, c) Q := by
  exact X_ireturn (ty := .int) (show decode (mB 166) 106 = .ok (.ireturn, 1) by decide +kernel) (by decide +kernel) rfl k
set_option maxRecDepth 4000 in
theorem b_X14_count_107 {xs : Nat → Int32} {L d : Nat} {S : Nat → Shp} {I : Nat → Nat → Int32} {J : Nat → Nat → Int64} {R : Nat → Nat → Nat} {c : Nat × Nat} {Q : Option (Option Value) → MH → Prop} {x1 : Int32} {q_65_13 : Nat} (hL : Lay S R) (hq_65_13 : R 65 13 = q_65_13) (kt : ¬ q_65_13 = 0 → X xs L (d + 1) 166 118 [.ref 65, .int x1] [] (S, I, J, R, c) Q) (kf : ¬ (¬ q_65_13 = 0) → X xs L (d + 1) 166 114 [.ref 65, .int x1] [] (S, I, J, R, c) Q) : X xs L (d + 1) 166 107 [.ref 65, .int x1] [] (S, I, J, R, c) Q := by
  refine X_aload_n (q := 0) (show decode (mB 166) 107 = .ok (.aload_n 0, 1) by decide +kernel) (pc' := 108) rfl rfl rfl ?_
  refine X_getR (ci := 13) (f := 13) (q := q_65_13) (show decode (mB 166) 108 = .ok (.getfield 233, 3) by decide +kernel) (pc' := 111) rfl (ls_65 hL) (by decide +kernel) rfl hq_65_13 ?_
  exact X_ifnonnull (tgt := 118) (show decode (mB 166) 111 = .ok (.ifnonnull 7, 3) by decide +kernel) rfl (pc' := 114) rfl kt (fun h => kf (fun z => z h))
set_option maxRecDepth 4000 in
theorem b_X14_count_114 {xs : Nat → Int32} {L d : Nat} {S : Nat → Shp} {I : Nat → Nat → Int32} {J : Nat → Nat → Int64} {R : Nat → Nat → Nat} {c : Nat × Nat} {Q : Option (Option Value) → MH → Prop} {x1 : Int32}  (k : X xs L (d + 1) 166 125 [.ref 65, .int x1] [.int 0] (S, I, J, R, c) Q) : X xs L (d + 1) 166 114 [.ref 65, .int x1] [] (S, I, J, R, c) Q := by
  refine X_iconst (v := 0) (show decode (mB 166) 114 = .ok (.iconst 0, 1) by decide +kernel) (pc' := 115) rfl rfl ?_
  refine X_goto (tgt := 125) (show decode (mB 166) 115 = .ok (.goto 10, 3) by decide +kernel) rfl ?_
  exact k
set_option maxRecDepth 4000 in
theorem b_X14_count_118 {xs : Nat → Int32} {L d : Nat} {S : Nat → Shp} {I : Nat → Nat → Int32} {J : Nat → Nat → Int64} {R : Nat → Nat → Nat} {c : Nat × Nat} {Q : Option (Option Value) → MH → Prop} {x1 : Int32} {q_65_13 : Nat} (hL : Lay S R) (hq_65_13 : R 65 13 = q_65_13) (h_q_65_13 : LyCs S R q_65_13) (k : X xs L (d + 1) 166 125 [.ref 65, .int x1] [.int (I q_65_13 6)] (S, I, J, R, c) Q) : X xs L (d + 1) 166 118 [.ref 65, .int x1] [] (S, I, J, R, c) Q := by
  refine X_aload_n (q := 0) (show decode (mB 166) 118 = .ok (.aload_n 0, 1) by decide +kernel) (pc' := 119) rfl rfl rfl ?_
  refine X_getR (ci := 13) (f := 13) (q := q_65_13) (show decode (mB 166) 119 = .ok (.getfield 233, 3) by decide +kernel) (pc' := 122) rfl (ls_65 hL) (by decide +kernel) rfl hq_65_13 ?_
  refine X_getI (ci := 10) (f := 6) (x := I q_65_13 6) (show decode (mB 166) 122 = .ok (.getfield 268, 3) by decide +kernel) (pc' := 125) rfl h_q_65_13.s0 (by decide +kernel) rfl rfl ?_
  exact k
set_option maxRecDepth 4000 in
theorem b_X14_count_125 {xs : Nat → Int32} {L d : Nat} {S : Nat → Shp} {I : Nat → Nat → Int32} {J : Nat → Nat → Int64} {R : Nat → Nat → Nat} {c : Nat × Nat} {Q : Option (Option Value) → MH → Prop} {x1 sx0 : Int32}  (k : Q (some (some (.int sx0))) (S, I, J, R, c)) : X xs L (d + 1) 166 125 [.ref 65, .int x1] [.int sx0] (S, I, J, R, c) Q := by
  exact X_ireturn (ty := .int) (show decode (mB 166) 125 = .ok (.ireturn, 1) by decide +kernel) (by decide +kernel) rfl k
set_option maxRecDepth 4000 in
theorem b_X14_count_126 {xs : Nat → Int32} {L d : Nat} {S : Nat → Shp} {I : Nat → Nat → Int32} {J : Nat → Nat → Int64} {R : Nat → Nat → Nat} {c : Nat × Nat} {Q : Option (Option Value) → MH → Prop} {x1 : Int32} {q_65_13 : Nat} (hL : Lay S R) (hq_65_13 : R 65 13 = q_65_13) (kt : ¬ q_65_13 = 0 → X xs L (d + 1) 166 137 [.ref 65, .int x1] [] (S, I, J, R, c) Q) (kf : ¬ (¬ q_65_13 = 0) → X xs L (d + 1) 166 133 [.ref 65, .int x1] [] (S, I, J, R, c) Q) : X xs L (d + 1) 166 126 [.ref 65, .int x1] [] (S, I, J, R, c) Q := by
  refine X_aload_n (q := 0) (show decode (mB 166) 126 = .ok (.aload_n 0, 1) by decide +kernel) (pc' := 127) rfl rfl rfl ?_
  refine X_getR (ci := 13) (f := 13) (q := q_65_13) (show decode (mB 166) 127 = .ok (.getfield 233, 3) by decide +kernel) (pc' := 130) rfl (ls_65 hL) (by decide +kernel) rfl hq_65_13 ?_
  exact X_ifnonnull (tgt := 137) (show decode (mB 166) 130 = .ok (.ifnonnull 7, 3) by decide +kernel) rfl (pc' := 133) rfl kt (fun h => kf (fun z => z h))
set_option maxRecDepth 4000 in
theorem b_X14_count_133 {xs : Nat → Int32} {L d : Nat} {S : Nat → Shp} {I : Nat → Nat → Int32} {J : Nat → Nat → Int64} {R : Nat → Nat → Nat} {c : Nat × Nat} {Q : Option (Option Value) → MH → Prop} {x1 : Int32}  (k : X xs L (d + 1) 166 144 [.ref 65, .int x1] [.int 0] (S, I, J, R, c) Q) : X xs L (d + 1) 166 133 [.ref 65, .int x1] [] (S, I, J, R, c) Q := by
  refine X_iconst (v := 0) (show decode (mB 166) 133 = .ok (.iconst 0, 1) by decide +kernel) (pc' := 134) rfl rfl ?_
  refine X_goto (tgt := 144) (show decode (mB 166) 134 = .ok (.goto 10, 3) by decide +kernel) rfl ?_
  exact k
set_option maxRecDepth 4000 in
theorem b_X14_count_137 {xs : Nat → Int32} {L d : Nat} {S : Nat → Shp} {I : Nat → Nat → Int32} {J : Nat → Nat → Int64} {R : Nat → Nat → Nat} {c : Nat × Nat} {Q : Option (Option Value) → MH → Prop} {x1 : Int32} {q_65_13 : Nat} (hL : Lay S R) (hq_65_13 : R 65 13 = q_65_13) (h_q_65_13 : LyCs S R q_65_13) (k : X xs L (d + 1) 166 144 [.ref 65, .int x1] [.int (I q_65_13 7)] (S, I, J, R, c) Q) : X xs L (d + 1) 166 137 [.ref 65, .int x1] [] (S, I, J, R, c) Q := by
  refine X_aload_n (q := 0) (show decode (mB 166) 137 = .ok (.aload_n 0, 1) by decide +kernel) (pc' := 138) rfl rfl rfl ?_
  refine X_getR (ci := 13) (f := 13) (q := q_65_13) (show decode (mB 166) 138 = .ok (.getfield 233, 3) by decide +kernel) (pc' := 141) rfl (ls_65 hL) (by decide +kernel) rfl hq_65_13 ?_
  refine X_getI (ci := 10) (f := 7) (x := I q_65_13 7) (show decode (mB 166) 141 = .ok (.getfield 271, 3) by decide +kernel) (pc' := 144) rfl h_q_65_13.s0 (by decide +kernel) rfl rfl ?_
  exact k
set_option maxRecDepth 4000 in
theorem b_X14_count_144 {xs : Nat → Int32} {L d : Nat} {S : Nat → Shp} {I : Nat → Nat → Int32} {J : Nat → Nat → Int64} {R : Nat → Nat → Nat} {c : Nat × Nat} {Q : Option (Option Value) → MH → Prop} {x1 sx0 : Int32}  (k : Q (some (some (.int sx0))) (S, I, J, R, c)) : X xs L (d + 1) 166 144 [.ref 65, .int x1] [.int sx0] (S, I, J, R, c) Q := by
  exact X_ireturn (ty := .int) (show decode (mB 166) 144 = .ok (.ireturn, 1) by decide +kernel) (by decide +kernel) rfl k
set_option maxRecDepth 4000 in
theorem b_X14_count_145 {xs : Nat → Int32} {L d : Nat} {S : Nat → Shp} {I : Nat → Nat → Int32} {J : Nat → Nat → Int64} {R : Nat → Nat → Nat} {c : Nat × Nat} {Q : Option (Option Value) → MH → Prop} {x1 : Int32} {q_65_13 : Nat} (hL : Lay S R) (hq_65_13 : R 65 13 = q_65_13) (kt : ¬ q_65_13 = 0 → X xs L (d + 1) 166 156 [.ref 65, .int x1] [] (S, I, J, R, c) Q) (kf : ¬ (¬ q_65_13 = 0) → X xs L (d + 1) 166 152 [.ref 65, .int x1] [] (S, I, J, R, c) Q) : X xs L (d + 1) 166 145 [.ref 65, .int x1] [] (S, I, J, R, c) Q := by
  refine X_aload_n (q := 0) (show decode (mB 166) 145 = .ok (.aload_n 0, 1) by decide +kernel) (pc' := 146) rfl rfl rfl ?_
  refine X_getR (ci := 13) (f := 13) (q := q_65_13) (show decode (mB 166) 146 = .ok (.getfield 233, 3) by decide +kernel) (pc' := 149) rfl (ls_65 hL) (by decide +kernel) rfl hq_65_13 ?_
  exact X_ifnonnull (tgt := 156) (show decode (mB 166) 149 = .ok (.ifnonnull 7, 3) by decide +kernel) rfl (pc' := 152) rfl kt (fun h => kf (fun z => z h))
set_option maxRecDepth 4000 in
theorem b_X14_count_152 {xs : Nat → Int32} {L d : Nat} {S : Nat → Shp} {I : Nat → Nat → Int32} {J : Nat → Nat → Int64} {R : Nat → Nat → Nat} {c : Nat × Nat} {Q : Option (Option Value) → MH → Prop} {x1 : Int32}  (k : X xs L (d + 1) 166 163 [.ref 65, .int x1] [.int 0] (S, I, J, R, c) Q) : X xs L (d + 1) 166 152 [.ref 65, .int x1] [] (S, I, J, R, c) Q := by
  refine X_iconst (v := 0) (show decode (mB 166) 152 = .ok (.iconst 0, 1) by decide +kernel) (pc' := 153) rfl rfl ?_
  refine X_goto (tgt := 163) (show decode (mB 166) 153 = .ok (.goto 10, 3) by decide +kernel) rfl ?_
  exact k
set_option maxRecDepth 4000 in
theorem b_X14_count_156 {xs : Nat → Int32} {L d : Nat} {S : Nat → Shp} {I : Nat → Nat → Int32} {J : Nat → Nat → Int64} {R : Nat → Nat → Nat} {c : Nat × Nat} {Q : Option (Option Value) → MH → Prop} {x1 : Int32} {q_65_13 : Nat} (hL : Lay S R) (hq_65_13 : R 65 13 = q_65_13) (h_q_65_13 : LyCs S R q_65_13) (k : X xs L (d + 1) 166 163 [.ref 65, .int x1] [.int (I q_65_13 9)] (S, I, J, R, c) Q) : X xs L (d + 1) 166 156 [.ref 65, .int x1] [] (S, I, J, R, c) Q := by
  refine X_aload_n (q := 0) (show decode (mB 166) 156 = .ok (.aload_n 0, 1) by decide +kernel) (pc' := 157) rfl rfl rfl ?_
  refine X_getR (ci := 13) (f := 13) (q := q_65_13) (show decode (mB 166) 157 = .ok (.getfield 233, 3) by decide +kernel) (pc' := 160) rfl (ls_65 hL) (by decide +kernel) rfl hq_65_13 ?_
  refine X_getI (ci := 10) (f := 9) (x := I q_65_13 9) (show decode (mB 166) 160 = .ok (.getfield 259, 3) by decide +kernel) (pc' := 163) rfl h_q_65_13.s0 (by decide +kernel) rfl rfl ?_
  exact k
set_option maxRecDepth 4000 in
theorem b_X14_count_163 {xs : Nat → Int32} {L d : Nat} {S : Nat → Shp} {I : Nat → Nat → Int32} {J : Nat → Nat → Int64} {R : Nat → Nat → Nat} {c : Nat × Nat} {Q : Option (Option Value) → MH → Prop} {x1 sx0 : Int32}  (k : Q (some (some (.int sx0))) (S, I, J, R, c)) : X xs L (d + 1) 166 163 [.ref 65, .int x1] [.int sx0] (S, I, J, R, c) Q := by
  exact X_ireturn (ty := .int) (show decode (mB 166) 163 = .ok (.ireturn, 1) by decide +kernel) (by decide +kernel) rfl k
set_option maxRecDepth 4000 in
theorem b_X14_count_164 {xs : Nat → Int32} {L d : Nat} {S : Nat → Shp} {I : Nat → Nat → Int32} {J : Nat → Nat → Int64} {R : Nat → Nat → Nat} {c : Nat × Nat} {Q : Option (Option Value) → MH → Prop} {x1 : Int32}  (k : Q (some (some (.int (-1)))) (S, I, J, R, c)) : X xs L (d + 1) 166 164 [.ref 65, .int x1] [] (S, I, J, R, c) Q := by
  refine X_iconst (v := (-1)) (show decode (mB 166) 164 = .ok (.iconst (-1), 1) by decide +kernel) (pc' := 165) rfl rfl ?_
  exact X_ireturn (ty := .int) (show decode (mB 166) 165 = .ok (.ireturn, 1) by decide +kernel) (by decide +kernel) rfl k
