/-! ===== P1: blocks (by wip/whole/gen/blocks.py) ===== -/
set_option maxRecDepth 4000 in
theorem b_X1_hasNode_0 {xs : Nat → Int32} {L d : Nat} {S : Nat → Shp} {I : Nat → Nat → Int32} {J : Nat → Nat → Int64} {R : Nat → Nat → Nat} {c : Nat × Nat} {Q : Option (Option Value) → MH → Prop} {r0 : Nat} {x1 : Int32}  (kt : x1 < 0 → X xs L d 27 16 [.ref r0, .int x1] [] (S, I, J, R, c) Q) (kf : ¬ (x1 < 0) → X xs L d 27 4 [.ref r0, .int x1] [] (S, I, J, R, c) Q) : X xs L d 27 0 [.ref r0, .int x1] [] (S, I, J, R, c) Q := by
  refine X_iload_n (q := 1) (show decode (mB 27) 0 = .ok (.iload_n 1, 1) by decide +kernel) (pc' := 1) rfl rfl rfl ?_
  exact X_if_lt (tgt := 16) (show decode (mB 27) 1 = .ok (.ifCond .lt 15, 3) by decide +kernel) rfl (pc' := 4) rfl kt kf
set_option maxRecDepth 4000 in
theorem b_X1_hasNode_4 {xs : Nat → Int32} {L d : Nat} {S : Nat → Shp} {I : Nat → Nat → Int32} {J : Nat → Nat → Int64} {R : Nat → Nat → Nat} {c : Nat × Nat} {Q : Option (Option Value) → MH → Prop} {r0 : Nat} {x1 : Int32} (h_r0 : LyCi S R r0) (kt : (I r0 0) ≤ x1 → X xs L d 27 16 [.ref r0, .int x1] [] (S, I, J, R, c) Q) (kf : ¬ ((I r0 0) ≤ x1) → X xs L d 27 12 [.ref r0, .int x1] [] (S, I, J, R, c) Q) : X xs L d 27 4 [.ref r0, .int x1] [] (S, I, J, R, c) Q := by
  refine X_iload_n (q := 1) (show decode (mB 27) 4 = .ok (.iload_n 1, 1) by decide +kernel) (pc' := 5) rfl rfl rfl ?_
  refine X_aload_n (q := 0) (show decode (mB 27) 5 = .ok (.aload_n 0, 1) by decide +kernel) (pc' := 6) rfl rfl rfl ?_
  refine X_getI (ci := 1) (f := 0) (x := I r0 0) (show decode (mB 27) 6 = .ok (.getfield 41, 3) by decide +kernel) (pc' := 9) rfl h_r0.s0 (by decide +kernel) rfl rfl ?_
  exact X_icmp_ge (tgt := 16) (show decode (mB 27) 9 = .ok (.if_icmp .ge 7, 3) by decide +kernel) rfl (pc' := 12) rfl kt kf
set_option maxRecDepth 4000 in
theorem b_X1_hasNode_12 {xs : Nat → Int32} {L d : Nat} {S : Nat → Shp} {I : Nat → Nat → Int32} {J : Nat → Nat → Int64} {R : Nat → Nat → Nat} {c : Nat × Nat} {Q : Option (Option Value) → MH → Prop} {r0 : Nat} {x1 : Int32}  (k : X xs L d 27 17 [.ref r0, .int x1] [.int 1] (S, I, J, R, c) Q) : X xs L d 27 12 [.ref r0, .int x1] [] (S, I, J, R, c) Q := by
  refine X_iconst (v := 1) (show decode (mB 27) 12 = .ok (.iconst 1, 1) by decide +kernel) (pc' := 13) rfl rfl ?_
  refine X_goto (tgt := 17) (show decode (mB 27) 13 = .ok (.goto 4, 3) by decide +kernel) rfl ?_
  exact k
set_option maxRecDepth 4000 in
theorem b_X1_hasNode_16 {xs : Nat → Int32} {L d : Nat} {S : Nat → Shp} {I : Nat → Nat → Int32} {J : Nat → Nat → Int64} {R : Nat → Nat → Nat} {c : Nat × Nat} {Q : Option (Option Value) → MH → Prop} {r0 : Nat} {x1 : Int32}  (k : X xs L d 27 17 [.ref r0, .int x1] [.int 0] (S, I, J, R, c) Q) : X xs L d 27 16 [.ref r0, .int x1] [] (S, I, J, R, c) Q := by
  refine X_iconst (v := 0) (show decode (mB 27) 16 = .ok (.iconst 0, 1) by decide +kernel) (pc' := 17) rfl rfl ?_
  exact k
set_option maxRecDepth 4000 in
theorem b_X1_hasNode_17 {xs : Nat → Int32} {L d : Nat} {S : Nat → Shp} {I : Nat → Nat → Int32} {J : Nat → Nat → Int64} {R : Nat → Nat → Nat} {c : Nat × Nat} {Q : Option (Option Value) → MH → Prop} {r0 : Nat} {x1 sx0 : Int32} (hz17 : sx0 = 0 ∨ sx0 = 1) (k : Q (some (some (.int sx0))) (S, I, J, R, c)) : X xs L d 27 17 [.ref r0, .int x1] [.int sx0] (S, I, J, R, c) Q := by
  exact X_ireturn (ty := .boolean) (show decode (mB 27) 17 = .ok (.ireturn, 1) by decide +kernel) (by decide +kernel) (nz hz17) k
set_option maxRecDepth 4000 in
theorem b_X1_find_0 {xs : Nat → Int32} {L d : Nat} {S : Nat → Shp} {I : Nat → Nat → Int32} {J : Nat → Nat → Int64} {R : Nat → Nat → Nat} {c : Nat × Nat} {Q : Option (Option Value) → MH → Prop} {r0 : Nat} {y1 : Int64}  (k : X xs L d 28 2 [.ref r0, .long y1, .null, .int 0] [] (S, I, J, R, c) Q) : X xs L d 28 0 [.ref r0, .long y1, .null, .null] [] (S, I, J, R, c) Q := by
  refine X_iconst (v := 0) (show decode (mB 28) 0 = .ok (.iconst 0, 1) by decide +kernel) (pc' := 1) rfl rfl ?_
  refine X_istore_n (q := 3) (ls' := [.ref r0, .long y1, .null, .int 0]) (show decode (mB 28) 1 = .ok (.istore_n 3, 1) by decide +kernel) (pc' := 2) rfl rfl rfl ?_
  exact k
set_option maxRecDepth 4000 in
theorem b_X1_find_2 {xs : Nat → Int32} {L d : Nat} {S : Nat → Shp} {I : Nat → Nat → Int32} {J : Nat → Nat → Int64} {R : Nat → Nat → Nat} {c : Nat × Nat} {Q : Option (Option Value) → MH → Prop} {r0 : Nat} {y1 : Int64} {x3 : Int32} (h_r0 : LyCi S R r0) (kt : (I r0 0) ≤ x3 → X xs L d 28 29 [.ref r0, .long y1, .null, .int x3] [] (S, I, J, R, c) Q) (kf : ¬ ((I r0 0) ≤ x3) → X xs L d 28 10 [.ref r0, .long y1, .null, .int x3] [] (S, I, J, R, c) Q) : X xs L d 28 2 [.ref r0, .long y1, .null, .int x3] [] (S, I, J, R, c) Q := by
  refine X_iload_n (q := 3) (show decode (mB 28) 2 = .ok (.iload_n 3, 1) by decide +kernel) (pc' := 3) rfl rfl rfl ?_
  refine X_aload_n (q := 0) (show decode (mB 28) 3 = .ok (.aload_n 0, 1) by decide +kernel) (pc' := 4) rfl rfl rfl ?_
  refine X_getI (ci := 1) (f := 0) (x := I r0 0) (show decode (mB 28) 4 = .ok (.getfield 41, 3) by decide +kernel) (pc' := 7) rfl h_r0.s0 (by decide +kernel) rfl rfl ?_
  exact X_icmp_ge (tgt := 29) (show decode (mB 28) 7 = .ok (.if_icmp .ge 22, 3) by decide +kernel) rfl (pc' := 10) rfl kt kf
set_option maxRecDepth 4000 in
theorem b_X1_find_10 {xs : Nat → Int32} {L d : Nat} {S : Nat → Shp} {I : Nat → Nat → Int32} {J : Nat → Nat → Int64} {R : Nat → Nat → Nat} {c : Nat × Nat} {Q : Option (Option Value) → MH → Prop} {r0 : Nat} {y1 : Int64} {x3 : Int32} (h_r0 : LyCi S R r0) (hb15 : inb x3 40 = true) (kt : ¬ (lg_cmp (J (r0 + 1) x3.toNatClampNeg) y1) = 0 → X xs L d 28 23 [.ref r0, .long y1, .null, .int x3] [] (S, I, J, R, c) Q) (kf : ¬ (¬ (lg_cmp (J (r0 + 1) x3.toNatClampNeg) y1) = 0) → X xs L d 28 21 [.ref r0, .long y1, .null, .int x3] [] (S, I, J, R, c) Q) : X xs L d 28 10 [.ref r0, .long y1, .null, .int x3] [] (S, I, J, R, c) Q := by
  refine X_aload_n (q := 0) (show decode (mB 28) 10 = .ok (.aload_n 0, 1) by decide +kernel) (pc' := 11) rfl rfl rfl ?_
  refine X_getR (ci := 1) (f := 1) (q := (r0 + 1)) (show decode (mB 28) 11 = .ok (.getfield 11, 3) by decide +kernel) (pc' := 14) rfl h_r0.s0 (by decide +kernel) rfl h_r0.r0_1 ?_
  refine X_iload_n (q := 3) (show decode (mB 28) 14 = .ok (.iload_n 3, 1) by decide +kernel) (pc' := 15) rfl rfl rfl ?_
  refine X_laload (w := J (r0 + 1) x3.toNatClampNeg) (show decode (mB 28) 15 = .ok (.laload, 1) by decide +kernel) (pc' := 16) rfl h_r0.s1 hb15 rfl ?_
  refine X_lload_n (q := 1) (show decode (mB 28) 16 = .ok (.lload_n 1, 1) by decide +kernel) (pc' := 17) rfl rfl rfl ?_
  refine X_lcmp (show decode (mB 28) 17 = .ok (.lcmp, 1) by decide +kernel) (pc' := 18) rfl ?_
  exact X_if_ne (tgt := 23) (show decode (mB 28) 18 = .ok (.ifCond .ne 5, 3) by decide +kernel) rfl (pc' := 21) rfl kt kf
set_option maxRecDepth 4000 in
theorem b_X1_find_21 {xs : Nat → Int32} {L d : Nat} {S : Nat → Shp} {I : Nat → Nat → Int32} {J : Nat → Nat → Int64} {R : Nat → Nat → Nat} {c : Nat × Nat} {Q : Option (Option Value) → MH → Prop} {r0 : Nat} {y1 : Int64} {x3 : Int32}  (k : Q (some (some (.int x3))) (S, I, J, R, c)) : X xs L d 28 21 [.ref r0, .long y1, .null, .int x3] [] (S, I, J, R, c) Q := by
  refine X_iload_n (q := 3) (show decode (mB 28) 21 = .ok (.iload_n 3, 1) by decide +kernel) (pc' := 22) rfl rfl rfl ?_
  exact X_ireturn (ty := .int) (show decode (mB 28) 22 = .ok (.ireturn, 1) by decide +kernel) (by decide +kernel) rfl k
set_option maxRecDepth 4000 in
theorem b_X1_find_23 {xs : Nat → Int32} {L d : Nat} {S : Nat → Shp} {I : Nat → Nat → Int32} {J : Nat → Nat → Int64} {R : Nat → Nat → Nat} {c : Nat × Nat} {Q : Option (Option Value) → MH → Prop} {r0 : Nat} {y1 : Int64} {x3 : Int32}  (k : X xs L d 28 2 [.ref r0, .long y1, .null, .int (x3 + 1)] [] (S, I, J, R, c) Q) : X xs L d 28 23 [.ref r0, .long y1, .null, .int x3] [] (S, I, J, R, c) Q := by
  refine X_iinc (q := 3) (v := x3 + 1) (ls' := [.ref r0, .long y1, .null, .int (x3 + 1)]) (show decode (mB 28) 23 = .ok (.iinc 3 1, 3) by decide +kernel) (pc' := 26) rfl rfl rfl rfl ?_
  refine X_goto (tgt := 2) (show decode (mB 28) 26 = .ok (.goto (-24), 3) by decide +kernel) rfl ?_
  exact k
set_option maxRecDepth 4000 in
theorem b_X1_find_29 {xs : Nat → Int32} {L d : Nat} {S : Nat → Shp} {I : Nat → Nat → Int32} {J : Nat → Nat → Int64} {R : Nat → Nat → Nat} {c : Nat × Nat} {Q : Option (Option Value) → MH → Prop} {r0 : Nat} {y1 : Int64} {x3 : Int32}  (k : Q (some (some (.int (-2)))) (S, I, J, R, c)) : X xs L d 28 29 [.ref r0, .long y1, .null, .int x3] [] (S, I, J, R, c) Q := by
  refine X_bipush (v := (-2)) (show decode (mB 28) 29 = .ok (.bipush (-2), 2) by decide +kernel) (pc' := 31) rfl (by decide +kernel) ?_
  exact X_ireturn (ty := .int) (show decode (mB 28) 31 = .ok (.ireturn, 1) by decide +kernel) (by decide +kernel) rfl k
set_option maxRecDepth 4000 in
theorem b_X1_howMany_0 {xs : Nat → Int32} {L d : Nat} {S : Nat → Shp} {I : Nat → Nat → Int32} {J : Nat → Nat → Int64} {R : Nat → Nat → Nat} {c : Nat × Nat} {Q : Option (Option Value) → MH → Prop} {r0 : Nat} {x1 : Int32}  (k : X xs L d 29 4 [.ref r0, .int x1, .int 0, .int 0] [] (S, I, J, R, c) Q) : X xs L d 29 0 [.ref r0, .int x1, .null, .null] [] (S, I, J, R, c) Q := by
  refine X_iconst (v := 0) (show decode (mB 29) 0 = .ok (.iconst 0, 1) by decide +kernel) (pc' := 1) rfl rfl ?_
  refine X_istore_n (q := 2) (ls' := [.ref r0, .int x1, .int 0, .null]) (show decode (mB 29) 1 = .ok (.istore_n 2, 1) by decide +kernel) (pc' := 2) rfl rfl rfl ?_
  refine X_iconst (v := 0) (show decode (mB 29) 2 = .ok (.iconst 0, 1) by decide +kernel) (pc' := 3) rfl rfl ?_
  refine X_istore_n (q := 3) (ls' := [.ref r0, .int x1, .int 0, .int 0]) (show decode (mB 29) 3 = .ok (.istore_n 3, 1) by decide +kernel) (pc' := 4) rfl rfl rfl ?_
  exact k
set_option maxRecDepth 4000 in
theorem b_X1_howMany_4 {xs : Nat → Int32} {L d : Nat} {S : Nat → Shp} {I : Nat → Nat → Int32} {J : Nat → Nat → Int64} {R : Nat → Nat → Nat} {c : Nat × Nat} {Q : Option (Option Value) → MH → Prop} {r0 : Nat} {x1 x2 x3 : Int32} (h_r0 : LyCi S R r0) (kt : (I r0 0) ≤ x3 → X xs L d 29 31 [.ref r0, .int x1, .int x2, .int x3] [] (S, I, J, R, c) Q) (kf : ¬ ((I r0 0) ≤ x3) → X xs L d 29 12 [.ref r0, .int x1, .int x2, .int x3] [] (S, I, J, R, c) Q) : X xs L d 29 4 [.ref r0, .int x1, .int x2, .int x3] [] (S, I, J, R, c) Q := by
  refine X_iload_n (q := 3) (show decode (mB 29) 4 = .ok (.iload_n 3, 1) by decide +kernel) (pc' := 5) rfl rfl rfl ?_
  refine X_aload_n (q := 0) (show decode (mB 29) 5 = .ok (.aload_n 0, 1) by decide +kernel) (pc' := 6) rfl rfl rfl ?_
  refine X_getI (ci := 1) (f := 0) (x := I r0 0) (show decode (mB 29) 6 = .ok (.getfield 41, 3) by decide +kernel) (pc' := 9) rfl h_r0.s0 (by decide +kernel) rfl rfl ?_
  exact X_icmp_ge (tgt := 31) (show decode (mB 29) 9 = .ok (.if_icmp .ge 22, 3) by decide +kernel) rfl (pc' := 12) rfl kt kf
set_option maxRecDepth 4000 in
theorem b_X1_howMany_12 {xs : Nat → Int32} {L d : Nat} {S : Nat → Shp} {I : Nat → Nat → Int32} {J : Nat → Nat → Int64} {R : Nat → Nat → Nat} {c : Nat × Nat} {Q : Option (Option Value) → MH → Prop} {r0 : Nat} {x1 x2 x3 : Int32} (h_r0 : LyCi S R r0) (hb17 : inb x3 40 = true) (kt : ¬ (I (r0 + 2) x3.toNatClampNeg) = x1 → X xs L d 29 25 [.ref r0, .int x1, .int x2, .int x3] [] (S, I, J, R, c) Q) (kf : ¬ (¬ (I (r0 + 2) x3.toNatClampNeg) = x1) → X xs L d 29 22 [.ref r0, .int x1, .int x2, .int x3] [] (S, I, J, R, c) Q) : X xs L d 29 12 [.ref r0, .int x1, .int x2, .int x3] [] (S, I, J, R, c) Q := by
  refine X_aload_n (q := 0) (show decode (mB 29) 12 = .ok (.aload_n 0, 1) by decide +kernel) (pc' := 13) rfl rfl rfl ?_
  refine X_getR (ci := 1) (f := 2) (q := (r0 + 2)) (show decode (mB 29) 13 = .ok (.getfield 15, 3) by decide +kernel) (pc' := 16) rfl h_r0.s0 (by decide +kernel) rfl h_r0.r0_2 ?_
  refine X_iload_n (q := 3) (show decode (mB 29) 16 = .ok (.iload_n 3, 1) by decide +kernel) (pc' := 17) rfl rfl rfl ?_
  refine X_iaload (w := I (r0 + 2) x3.toNatClampNeg) (show decode (mB 29) 17 = .ok (.iaload, 1) by decide +kernel) (pc' := 18) rfl h_r0.s2 hb17 rfl ?_
  refine X_iload_n (q := 1) (show decode (mB 29) 18 = .ok (.iload_n 1, 1) by decide +kernel) (pc' := 19) rfl rfl rfl ?_
  exact X_icmp_ne (tgt := 25) (show decode (mB 29) 19 = .ok (.if_icmp .ne 6, 3) by decide +kernel) rfl (pc' := 22) rfl kt kf
set_option maxRecDepth 4000 in
theorem b_X1_howMany_22 {xs : Nat → Int32} {L d : Nat} {S : Nat → Shp} {I : Nat → Nat → Int32} {J : Nat → Nat → Int64} {R : Nat → Nat → Nat} {c : Nat × Nat} {Q : Option (Option Value) → MH → Prop} {r0 : Nat} {x1 x2 x3 : Int32}  (k : X xs L d 29 25 [.ref r0, .int x1, .int (x2 + 1), .int x3] [] (S, I, J, R, c) Q) : X xs L d 29 22 [.ref r0, .int x1, .int x2, .int x3] [] (S, I, J, R, c) Q := by
  refine X_iinc (q := 2) (v := x2 + 1) (ls' := [.ref r0, .int x1, .int (x2 + 1), .int x3]) (show decode (mB 29) 22 = .ok (.iinc 2 1, 3) by decide +kernel) (pc' := 25) rfl rfl rfl rfl ?_
  exact k
set_option maxRecDepth 4000 in
theorem b_X1_howMany_25 {xs : Nat → Int32} {L d : Nat} {S : Nat → Shp} {I : Nat → Nat → Int32} {J : Nat → Nat → Int64} {R : Nat → Nat → Nat} {c : Nat × Nat} {Q : Option (Option Value) → MH → Prop} {r0 : Nat} {x1 x2 x3 : Int32}  (k : X xs L d 29 4 [.ref r0, .int x1, .int x2, .int (x3 + 1)] [] (S, I, J, R, c) Q) : X xs L d 29 25 [.ref r0, .int x1, .int x2, .int x3] [] (S, I, J, R, c) Q := by
  refine X_iinc (q := 3) (v := x3 + 1) (ls' := [.ref r0, .int x1, .int x2, .int (x3 + 1)]) (show decode (mB 29) 25 = .ok (.iinc 3 1, 3) by decide +kernel) (pc' := 28) rfl rfl rfl rfl ?_
  refine X_goto (tgt := 4) (show decode (mB 29) 28 = .ok (.goto (-24), 3) by decide +kernel) rfl ?_
  exact k
set_option maxRecDepth 4000 in
theorem b_X1_howMany_31 {xs : Nat → Int32} {L d : Nat} {S : Nat → Shp} {I : Nat → Nat → Int32} {J : Nat → Nat → Int64} {R : Nat → Nat → Nat} {c : Nat × Nat} {Q : Option (Option Value) → MH → Prop} {r0 : Nat} {x1 x2 x3 : Int32}  (k : Q (some (some (.int x2))) (S, I, J, R, c)) : X xs L d 29 31 [.ref r0, .int x1, .int x2, .int x3] [] (S, I, J, R, c) Q := by
  refine X_iload_n (q := 2) (show decode (mB 29) 31 = .ok (.iload_n 2, 1) by decide +kernel) (pc' := 32) rfl rfl rfl ?_
  exact X_ireturn (ty := .int) (show decode (mB 29) 32 = .ok (.ireturn, 1) by decide +kernel) (by decide +kernel) rfl k
set_option maxRecDepth 4000 in
theorem b_X1_declare_0 {xs : Nat → Int32} {L d : Nat} {S : Nat → Shp} {I : Nat → Nat → Int32} {J : Nat → Nat → Int64} {R : Nat → Nat → Nat} {c : Nat × Nat} {Q : Option (Option Value) → MH → Prop} {r0 : Nat} {y1 : Int64} {x3 : Int32} (h_r0 : LyCi S R r0) (kt : 40 ≤ (I r0 0) → X xs L (d + 1) 30 19 [.ref r0, .long y1, .null, .int x3] [] (S, I, J, R, c) Q) (kf : ¬ (40 ≤ (I r0 0)) → X xs L (d + 1) 30 9 [.ref r0, .long y1, .null, .int x3] [] (S, I, J, R, c) Q) : X xs L (d + 1) 30 0 [.ref r0, .long y1, .null, .int x3] [] (S, I, J, R, c) Q := by
  refine X_aload_n (q := 0) (show decode (mB 30) 0 = .ok (.aload_n 0, 1) by decide +kernel) (pc' := 1) rfl rfl rfl ?_
  refine X_getI (ci := 1) (f := 0) (x := I r0 0) (show decode (mB 30) 1 = .ok (.getfield 41, 3) by decide +kernel) (pc' := 4) rfl h_r0.s0 (by decide +kernel) rfl rfl ?_
  refine X_bipush (v := 40) (show decode (mB 30) 4 = .ok (.bipush 40, 2) by decide +kernel) (pc' := 6) rfl (by decide +kernel) ?_
  exact X_icmp_ge (tgt := 19) (show decode (mB 30) 6 = .ok (.if_icmp .ge 13, 3) by decide +kernel) rfl (pc' := 9) rfl kt kf
set_option maxRecDepth 4000 in
theorem b_X1_declare_9 {xs : Nat → Int32} {L d : Nat} {S : Nat → Shp} {I : Nat → Nat → Int32} {J : Nat → Nat → Int64} {R : Nat → Nat → Nat} {c : Nat × Nat} {Q : Option (Option Value) → MH → Prop} {r0 : Nat} {y1 : Int64} {x3 : Int32} (h_r0 : LyCi S R r0) (k : X xs L d 28 0 [.ref r0, .long y1, .null, .null] [] (S, I, J, R, c) (Kc xs L (d + 1) 30 14 [.ref r0, .long y1, .null, .int x3] [] Q)) : X xs L (d + 1) 30 9 [.ref r0, .long y1, .null, .int x3] [] (S, I, J, R, c) Q := by
  refine X_aload_n (q := 0) (show decode (mB 30) 9 = .ok (.aload_n 0, 1) by decide +kernel) (pc' := 10) rfl rfl rfl ?_
  refine X_lload_n (q := 1) (show decode (mB 30) 10 = .ok (.lload_n 1, 1) by decide +kernel) (pc' := 11) rfl rfl rfl ?_
  exact X_callV (y := 28) (n := 1) (st := [.long y1, .ref r0]) (as := [.ref r0, .long y1]) (rest := []) (ls0 := [.ref r0, .long y1, .null, .null]) (ci := 1) (show decode (mB 30) 11 = .ok (.invokevirtual 45, 3) by decide +kernel) (pc' := 14) rfl (by decide +kernel) (by decide +kernel) rfl h_r0.s0 (by decide +kernel) rfl rfl rfl rfl rfl k
set_option maxRecDepth 4000 in
theorem b_X1_declare_14 {xs : Nat → Int32} {L d : Nat} {S : Nat → Shp} {I : Nat → Nat → Int32} {J : Nat → Nat → Int64} {R : Nat → Nat → Nat} {c : Nat × Nat} {Q : Option (Option Value) → MH → Prop} {r0 : Nat} {y1 : Int64} {x3 sx0 : Int32}  (kt : sx0 = (-2) → X xs L (d + 1) 30 21 [.ref r0, .long y1, .null, .int x3] [] (S, I, J, R, c) Q) (kf : ¬ (sx0 = (-2)) → X xs L (d + 1) 30 19 [.ref r0, .long y1, .null, .int x3] [] (S, I, J, R, c) Q) : X xs L (d + 1) 30 14 [.ref r0, .long y1, .null, .int x3] [.int sx0] (S, I, J, R, c) Q := by
  refine X_bipush (v := (-2)) (show decode (mB 30) 14 = .ok (.bipush (-2), 2) by decide +kernel) (pc' := 16) rfl (by decide +kernel) ?_
  exact X_icmp_eq (tgt := 21) (show decode (mB 30) 16 = .ok (.if_icmp .eq 5, 3) by decide +kernel) rfl (pc' := 19) rfl kt kf
set_option maxRecDepth 4000 in
theorem b_X1_declare_19 {xs : Nat → Int32} {L d : Nat} {S : Nat → Shp} {I : Nat → Nat → Int32} {J : Nat → Nat → Int64} {R : Nat → Nat → Nat} {c : Nat × Nat} {Q : Option (Option Value) → MH → Prop} {r0 : Nat} {y1 : Int64} {x3 : Int32}  (k : Q (some (some (.int 0))) (S, I, J, R, c)) : X xs L (d + 1) 30 19 [.ref r0, .long y1, .null, .int x3] [] (S, I, J, R, c) Q := by
  refine X_iconst (v := 0) (show decode (mB 30) 19 = .ok (.iconst 0, 1) by decide +kernel) (pc' := 20) rfl rfl ?_
  exact X_ireturn (ty := .boolean) (show decode (mB 30) 20 = .ok (.ireturn, 1) by decide +kernel) (by decide +kernel) rfl k
set_option maxRecDepth 4000 in
theorem b_X1_declare_21 {xs : Nat → Int32} {L d : Nat} {S : Nat → Shp} {I : Nat → Nat → Int32} {J : Nat → Nat → Int64} {R : Nat → Nat → Nat} {c : Nat × Nat} {Q : Option (Option Value) → MH → Prop} {r0 : Nat} {y1 : Int64} {x3 : Int32} (h_r0 : LyCi S R r0) (hb30 : inb (I r0 0) 40 = true) (hb40 : inb (I r0 0) 40 = true) (hb56 : inb (I r0 0) 40 = true) (hb72 : inb (I r0 0) 40 = true) (k : Q (some (some (.int 1))) (S, (u2 (u2 (u2 (u2 I (r0 + 2) ((I r0 0).toNatClampNeg) x3) (r0 + 3) ((I r0 0).toNatClampNeg) (I (r0 + 5) 1)) (r0 + 4) ((I r0 0).toNatClampNeg) (I (r0 + 5) 1)) r0 0 ((I r0 0) + 1)), (u2 J (r0 + 1) ((I r0 0).toNatClampNeg) y1), R, c)) : X xs L (d + 1) 30 21 [.ref r0, .long y1, .null, .int x3] [] (S, I, J, R, c) Q := by
  refine X_aload_n (q := 0) (show decode (mB 30) 21 = .ok (.aload_n 0, 1) by decide +kernel) (pc' := 22) rfl rfl rfl ?_
  refine X_getR (ci := 1) (f := 1) (q := (r0 + 1)) (show decode (mB 30) 22 = .ok (.getfield 11, 3) by decide +kernel) (pc' := 25) rfl h_r0.s0 (by decide +kernel) rfl h_r0.r0_1 ?_
  refine X_aload_n (q := 0) (show decode (mB 30) 25 = .ok (.aload_n 0, 1) by decide +kernel) (pc' := 26) rfl rfl rfl ?_
  refine X_getI (ci := 1) (f := 0) (x := I r0 0) (show decode (mB 30) 26 = .ok (.getfield 41, 3) by decide +kernel) (pc' := 29) rfl h_r0.s0 (by decide +kernel) rfl rfl ?_
  refine X_lload_n (q := 1) (show decode (mB 30) 29 = .ok (.lload_n 1, 1) by decide +kernel) (pc' := 30) rfl rfl rfl ?_
  refine X_lastore (show decode (mB 30) 30 = .ok (.lastore, 1) by decide +kernel) (pc' := 31) rfl h_r0.s1 hb30 ?_
  refine X_aload_n (q := 0) (show decode (mB 30) 31 = .ok (.aload_n 0, 1) by decide +kernel) (pc' := 32) rfl rfl rfl ?_
  refine X_getR (ci := 1) (f := 2) (q := (r0 + 2)) (show decode (mB 30) 32 = .ok (.getfield 15, 3) by decide +kernel) (pc' := 35) rfl h_r0.s0 (by decide +kernel) rfl h_r0.r0_2 ?_
  refine X_aload_n (q := 0) (show decode (mB 30) 35 = .ok (.aload_n 0, 1) by decide +kernel) (pc' := 36) rfl rfl rfl ?_
  refine X_getI (ci := 1) (f := 0) (x := I r0 0) (show decode (mB 30) 36 = .ok (.getfield 41, 3) by decide +kernel) (pc' := 39) rfl h_r0.s0 (by decide +kernel) rfl rfl ?_
  refine X_iload_n (q := 3) (show decode (mB 30) 39 = .ok (.iload_n 3, 1) by decide +kernel) (pc' := 40) rfl rfl rfl ?_
  refine X_iastore (show decode (mB 30) 40 = .ok (.iastore, 1) by decide +kernel) (pc' := 41) rfl h_r0.s2 hb40 ?_
  refine X_aload_n (q := 0) (show decode (mB 30) 41 = .ok (.aload_n 0, 1) by decide +kernel) (pc' := 42) rfl rfl rfl ?_
  refine X_getR (ci := 1) (f := 3) (q := (r0 + 3)) (show decode (mB 30) 42 = .ok (.getfield 19, 3) by decide +kernel) (pc' := 45) rfl h_r0.s0 (by decide +kernel) rfl h_r0.r0_3 ?_
  refine X_aload_n (q := 0) (show decode (mB 30) 45 = .ok (.aload_n 0, 1) by decide +kernel) (pc' := 46) rfl rfl rfl ?_
  refine X_getI (ci := 1) (f := 0) (x := I r0 0) (show decode (mB 30) 46 = .ok (.getfield 41, 3) by decide +kernel) (pc' := 49) rfl h_r0.s0 (by decide +kernel) rfl (by simp [u2, u1]) ?_
  refine X_aload_n (q := 0) (show decode (mB 30) 49 = .ok (.aload_n 0, 1) by decide +kernel) (pc' := 50) rfl rfl rfl ?_
  refine X_getR (ci := 1) (f := 5) (q := (r0 + 5)) (show decode (mB 30) 50 = .ok (.getfield 28, 3) by decide +kernel) (pc' := 53) rfl h_r0.s0 (by decide +kernel) rfl h_r0.r0_5 ?_
  refine X_getI (ci := 5) (f := 1) (x := I (r0 + 5) 1) (show decode (mB 30) 53 = .ok (.getfield 49, 3) by decide +kernel) (pc' := 56) rfl h_r0.s5 (by decide +kernel) rfl (by simp [u2, u1]) ?_
  refine X_iastore (show decode (mB 30) 56 = .ok (.iastore, 1) by decide +kernel) (pc' := 57) rfl h_r0.s3 hb56 ?_
  refine X_aload_n (q := 0) (show decode (mB 30) 57 = .ok (.aload_n 0, 1) by decide +kernel) (pc' := 58) rfl rfl rfl ?_
  refine X_getR (ci := 1) (f := 4) (q := (r0 + 4)) (show decode (mB 30) 58 = .ok (.getfield 22, 3) by decide +kernel) (pc' := 61) rfl h_r0.s0 (by decide +kernel) rfl h_r0.r0_4 ?_
  refine X_aload_n (q := 0) (show decode (mB 30) 61 = .ok (.aload_n 0, 1) by decide +kernel) (pc' := 62) rfl rfl rfl ?_
  refine X_getI (ci := 1) (f := 0) (x := I r0 0) (show decode (mB 30) 62 = .ok (.getfield 41, 3) by decide +kernel) (pc' := 65) rfl h_r0.s0 (by decide +kernel) rfl (by simp [u2, u1]) ?_
  refine X_aload_n (q := 0) (show decode (mB 30) 65 = .ok (.aload_n 0, 1) by decide +kernel) (pc' := 66) rfl rfl rfl ?_
  refine X_getR (ci := 1) (f := 5) (q := (r0 + 5)) (show decode (mB 30) 66 = .ok (.getfield 28, 3) by decide +kernel) (pc' := 69) rfl h_r0.s0 (by decide +kernel) rfl h_r0.r0_5 ?_
  refine X_getI (ci := 5) (f := 1) (x := I (r0 + 5) 1) (show decode (mB 30) 69 = .ok (.getfield 49, 3) by decide +kernel) (pc' := 72) rfl h_r0.s5 (by decide +kernel) rfl (by simp [u2, u1]) ?_
  refine X_iastore (show decode (mB 30) 72 = .ok (.iastore, 1) by decide +kernel) (pc' := 73) rfl h_r0.s4 hb72 ?_
  refine X_aload_n (q := 0) (show decode (mB 30) 73 = .ok (.aload_n 0, 1) by decide +kernel) (pc' := 74) rfl rfl rfl ?_
  refine X_dup (show decode (mB 30) 74 = .ok (.dup, 1) by decide +kernel) (pc' := 75) rfl rfl ?_
  refine X_getI (ci := 1) (f := 0) (x := I r0 0) (show decode (mB 30) 75 = .ok (.getfield 41, 3) by decide +kernel) (pc' := 78) rfl h_r0.s0 (by decide +kernel) rfl (by simp [u2, u1]) ?_
  refine X_iconst (v := 1) (show decode (mB 30) 78 = .ok (.iconst 1, 1) by decide +kernel) (pc' := 79) rfl rfl ?_
  refine X_iadd (show decode (mB 30) 79 = .ok (.iadd, 1) by decide +kernel) (pc' := 80) rfl ?_
  refine X_putI (ci := 1) (f := 0) (show decode (mB 30) 80 = .ok (.putfield 41, 3) by decide +kernel) (pc' := 83) rfl h_r0.s0 (by decide +kernel) (by decide +kernel) rfl ?_
  refine X_iconst (v := 1) (show decode (mB 30) 83 = .ok (.iconst 1, 1) by decide +kernel) (pc' := 84) rfl rfl ?_
  exact X_ireturn (ty := .boolean) (show decode (mB 30) 84 = .ok (.ireturn, 1) by decide +kernel) (by decide +kernel) rfl k
set_option maxRecDepth 4000 in
theorem b_X1_link_0 {xs : Nat → Int32} {L d : Nat} {S : Nat → Shp} {I : Nat → Nat → Int32} {J : Nat → Nat → Int64} {R : Nat → Nat → Nat} {c : Nat × Nat} {Q : Option (Option Value) → MH → Prop} {r0 : Nat}  (k : X xs L (d + 1) 31 4 [.ref r0, .long 0, .null, .int 0] [] (S, I, J, R, c) Q) : X xs L (d + 1) 31 0 [.ref r0, .null, .null, .null] [] (S, I, J, R, c) Q := by
  refine X_lconst (v := 0) (show decode (mB 31) 0 = .ok (.lconst 0, 1) by decide +kernel) (pc' := 1) rfl rfl ?_
  refine X_lstore_n (q := 1) (ls' := [.ref r0, .long 0, .null, .null]) (show decode (mB 31) 1 = .ok (.lstore_n 1, 1) by decide +kernel) (pc' := 2) rfl rfl rfl ?_
  refine X_iconst (v := 0) (show decode (mB 31) 2 = .ok (.iconst 0, 1) by decide +kernel) (pc' := 3) rfl rfl ?_
  refine X_istore_n (q := 3) (ls' := [.ref r0, .long 0, .null, .int 0]) (show decode (mB 31) 3 = .ok (.istore_n 3, 1) by decide +kernel) (pc' := 4) rfl rfl rfl ?_
  exact k
set_option maxRecDepth 4000 in
theorem b_X1_link_4 {xs : Nat → Int32} {L d : Nat} {S : Nat → Shp} {I : Nat → Nat → Int32} {J : Nat → Nat → Int64} {R : Nat → Nat → Nat} {c : Nat × Nat} {Q : Option (Option Value) → MH → Prop} {r0 : Nat} {y1 : Int64} {x3 : Int32} (h_r0 : LyCi S R r0) (kt : (I r0 0) ≤ x3 → X xs L (d + 1) 31 34 [.ref r0, .long y1, .null, .int x3] [] (S, I, J, R, c) Q) (kf : ¬ ((I r0 0) ≤ x3) → X xs L (d + 1) 31 12 [.ref r0, .long y1, .null, .int x3] [] (S, I, J, R, c) Q) : X xs L (d + 1) 31 4 [.ref r0, .long y1, .null, .int x3] [] (S, I, J, R, c) Q := by
  refine X_iload_n (q := 3) (show decode (mB 31) 4 = .ok (.iload_n 3, 1) by decide +kernel) (pc' := 5) rfl rfl rfl ?_
  refine X_aload_n (q := 0) (show decode (mB 31) 5 = .ok (.aload_n 0, 1) by decide +kernel) (pc' := 6) rfl rfl rfl ?_
  refine X_getI (ci := 1) (f := 0) (x := I r0 0) (show decode (mB 31) 6 = .ok (.getfield 41, 3) by decide +kernel) (pc' := 9) rfl h_r0.s0 (by decide +kernel) rfl rfl ?_
  exact X_icmp_ge (tgt := 34) (show decode (mB 31) 9 = .ok (.if_icmp .ge 25, 3) by decide +kernel) rfl (pc' := 12) rfl kt kf
set_option maxRecDepth 4000 in
theorem b_X1_link_12 {xs : Nat → Int32} {L d : Nat} {S : Nat → Shp} {I : Nat → Nat → Int32} {J : Nat → Nat → Int64} {R : Nat → Nat → Nat} {c : Nat × Nat} {Q : Option (Option Value) → MH → Prop} {r0 : Nat} {y1 : Int64} {x3 : Int32} (h_r0 : LyCi S R r0) (hb17 : inb x3 40 = true) (kt : ¬ (I (r0 + 2) x3.toNatClampNeg) = 1 → X xs L (d + 1) 31 28 [.ref r0, .long y1, .null, .int x3] [] (S, I, J, R, c) Q) (kf : ¬ (¬ (I (r0 + 2) x3.toNatClampNeg) = 1) → X xs L (d + 1) 31 22 [.ref r0, .long y1, .null, .int x3] [] (S, I, J, R, c) Q) : X xs L (d + 1) 31 12 [.ref r0, .long y1, .null, .int x3] [] (S, I, J, R, c) Q := by
  refine X_aload_n (q := 0) (show decode (mB 31) 12 = .ok (.aload_n 0, 1) by decide +kernel) (pc' := 13) rfl rfl rfl ?_
  refine X_getR (ci := 1) (f := 2) (q := (r0 + 2)) (show decode (mB 31) 13 = .ok (.getfield 15, 3) by decide +kernel) (pc' := 16) rfl h_r0.s0 (by decide +kernel) rfl h_r0.r0_2 ?_
  refine X_iload_n (q := 3) (show decode (mB 31) 16 = .ok (.iload_n 3, 1) by decide +kernel) (pc' := 17) rfl rfl rfl ?_
  refine X_iaload (w := I (r0 + 2) x3.toNatClampNeg) (show decode (mB 31) 17 = .ok (.iaload, 1) by decide +kernel) (pc' := 18) rfl h_r0.s2 hb17 rfl ?_
  refine X_iconst (v := 1) (show decode (mB 31) 18 = .ok (.iconst 1, 1) by decide +kernel) (pc' := 19) rfl rfl ?_
  exact X_icmp_ne (tgt := 28) (show decode (mB 31) 19 = .ok (.if_icmp .ne 9, 3) by decide +kernel) rfl (pc' := 22) rfl kt kf
set_option maxRecDepth 4000 in
theorem b_X1_link_22 {xs : Nat → Int32} {L d : Nat} {S : Nat → Shp} {I : Nat → Nat → Int32} {J : Nat → Nat → Int64} {R : Nat → Nat → Nat} {c : Nat × Nat} {Q : Option (Option Value) → MH → Prop} {r0 : Nat} {y1 : Int64} {x3 : Int32}  (k : X xs L (d + 1) 31 28 [.ref r0, .long (y1 ||| ((1 : Int64) <<< (x3.toInt64 &&& 63))), .null, .int x3] [] (S, I, J, R, c) Q) : X xs L (d + 1) 31 22 [.ref r0, .long y1, .null, .int x3] [] (S, I, J, R, c) Q := by
  refine X_lload_n (q := 1) (show decode (mB 31) 22 = .ok (.lload_n 1, 1) by decide +kernel) (pc' := 23) rfl rfl rfl ?_
  refine X_lconst (v := 1) (show decode (mB 31) 23 = .ok (.lconst 1, 1) by decide +kernel) (pc' := 24) rfl rfl ?_
  refine X_iload_n (q := 3) (show decode (mB 31) 24 = .ok (.iload_n 3, 1) by decide +kernel) (pc' := 25) rfl rfl rfl ?_
  refine X_lshl (show decode (mB 31) 25 = .ok (.lshl, 1) by decide +kernel) (pc' := 26) rfl ?_
  refine X_lor (show decode (mB 31) 26 = .ok (.lor, 1) by decide +kernel) (pc' := 27) rfl ?_
  refine X_lstore_n (q := 1) (ls' := [.ref r0, .long (y1 ||| ((1 : Int64) <<< (x3.toInt64 &&& 63))), .null, .int x3]) (show decode (mB 31) 27 = .ok (.lstore_n 1, 1) by decide +kernel) (pc' := 28) rfl rfl rfl ?_
  exact k
set_option maxRecDepth 4000 in
theorem b_X1_link_28 {xs : Nat → Int32} {L d : Nat} {S : Nat → Shp} {I : Nat → Nat → Int32} {J : Nat → Nat → Int64} {R : Nat → Nat → Nat} {c : Nat × Nat} {Q : Option (Option Value) → MH → Prop} {r0 : Nat} {y1 : Int64} {x3 : Int32}  (k : X xs L (d + 1) 31 4 [.ref r0, .long y1, .null, .int (x3 + 1)] [] (S, I, J, R, c) Q) : X xs L (d + 1) 31 28 [.ref r0, .long y1, .null, .int x3] [] (S, I, J, R, c) Q := by
  refine X_iinc (q := 3) (v := x3 + 1) (ls' := [.ref r0, .long y1, .null, .int (x3 + 1)]) (show decode (mB 31) 28 = .ok (.iinc 3 1, 3) by decide +kernel) (pc' := 31) rfl rfl rfl rfl ?_
  refine X_goto (tgt := 4) (show decode (mB 31) 31 = .ok (.goto (-27), 3) by decide +kernel) rfl ?_
  exact k
set_option maxRecDepth 4000 in
theorem b_X1_link_34 {xs : Nat → Int32} {L d : Nat} {S : Nat → Shp} {I : Nat → Nat → Int32} {J : Nat → Nat → Int64} {R : Nat → Nat → Nat} {c : Nat × Nat} {Q : Option (Option Value) → MH → Prop} {r0 : Nat} {y1 : Int64} {x3 : Int32}  (k : X xs L (d + 1) 31 36 [.ref r0, .long y1, .null, .int 0] [] (S, I, J, R, c) Q) : X xs L (d + 1) 31 34 [.ref r0, .long y1, .null, .int x3] [] (S, I, J, R, c) Q := by
  refine X_iconst (v := 0) (show decode (mB 31) 34 = .ok (.iconst 0, 1) by decide +kernel) (pc' := 35) rfl rfl ?_
  refine X_istore_n (q := 3) (ls' := [.ref r0, .long y1, .null, .int 0]) (show decode (mB 31) 35 = .ok (.istore_n 3, 1) by decide +kernel) (pc' := 36) rfl rfl rfl ?_
  exact k
set_option maxRecDepth 4000 in
theorem b_X1_link_36 {xs : Nat → Int32} {L d : Nat} {S : Nat → Shp} {I : Nat → Nat → Int32} {J : Nat → Nat → Int64} {R : Nat → Nat → Nat} {c : Nat × Nat} {Q : Option (Option Value) → MH → Prop} {r0 : Nat} {y1 : Int64} {x3 : Int32} (h_r0 : LyCi S R r0) (kt : (I r0 0) ≤ x3 → X xs L (d + 1) 31 89 [.ref r0, .long y1, .null, .int x3] [] (S, I, J, R, c) Q) (kf : ¬ ((I r0 0) ≤ x3) → X xs L (d + 1) 31 44 [.ref r0, .long y1, .null, .int x3] [] (S, I, J, R, c) Q) : X xs L (d + 1) 31 36 [.ref r0, .long y1, .null, .int x3] [] (S, I, J, R, c) Q := by
  refine X_iload_n (q := 3) (show decode (mB 31) 36 = .ok (.iload_n 3, 1) by decide +kernel) (pc' := 37) rfl rfl rfl ?_
  refine X_aload_n (q := 0) (show decode (mB 31) 37 = .ok (.aload_n 0, 1) by decide +kernel) (pc' := 38) rfl rfl rfl ?_
  refine X_getI (ci := 1) (f := 0) (x := I r0 0) (show decode (mB 31) 38 = .ok (.getfield 41, 3) by decide +kernel) (pc' := 41) rfl h_r0.s0 (by decide +kernel) rfl rfl ?_
  exact X_icmp_ge (tgt := 89) (show decode (mB 31) 41 = .ok (.if_icmp .ge 48, 3) by decide +kernel) rfl (pc' := 44) rfl kt kf
set_option maxRecDepth 4000 in
theorem b_X1_link_44 {xs : Nat → Int32} {L d : Nat} {S : Nat → Shp} {I : Nat → Nat → Int32} {J : Nat → Nat → Int64} {R : Nat → Nat → Nat} {c : Nat × Nat} {Q : Option (Option Value) → MH → Prop} {r0 : Nat} {y1 : Int64} {x3 : Int32} (h_r0 : LyCi S R r0) (k : X xs L d 32 0 [.ref r0, .int x3, .null, .null, .null] [] (S, I, J, R, c) (Kc xs L (d + 1) 31 54 [.ref r0, .long y1, .null, .int x3] [.int x3, .ref (r0 + 7)] Q)) : X xs L (d + 1) 31 44 [.ref r0, .long y1, .null, .int x3] [] (S, I, J, R, c) Q := by
  refine X_aload_n (q := 0) (show decode (mB 31) 44 = .ok (.aload_n 0, 1) by decide +kernel) (pc' := 45) rfl rfl rfl ?_
  refine X_getR (ci := 1) (f := 6) (q := (r0 + 7)) (show decode (mB 31) 45 = .ok (.getfield 32, 3) by decide +kernel) (pc' := 48) rfl h_r0.s0 (by decide +kernel) rfl h_r0.r0_6 ?_
  refine X_iload_n (q := 3) (show decode (mB 31) 48 = .ok (.iload_n 3, 1) by decide +kernel) (pc' := 49) rfl rfl rfl ?_
  refine X_aload_n (q := 0) (show decode (mB 31) 49 = .ok (.aload_n 0, 1) by decide +kernel) (pc' := 50) rfl rfl rfl ?_
  refine X_iload_n (q := 3) (show decode (mB 31) 50 = .ok (.iload_n 3, 1) by decide +kernel) (pc' := 51) rfl rfl rfl ?_
  exact X_callV (y := 32) (n := 1) (st := [.int x3, .ref r0, .int x3, .ref (r0 + 7)]) (as := [.ref r0, .int x3]) (rest := [.int x3, .ref (r0 + 7)]) (ls0 := [.ref r0, .int x3, .null, .null, .null]) (ci := 1) (show decode (mB 31) 51 = .ok (.invokevirtual 50, 3) by decide +kernel) (pc' := 54) rfl (by decide +kernel) (by decide +kernel) rfl h_r0.s0 (by decide +kernel) rfl rfl rfl rfl rfl k
set_option maxRecDepth 4000 in
theorem b_X1_link_54 {xs : Nat → Int32} {L d : Nat} {S : Nat → Shp} {I : Nat → Nat → Int32} {J : Nat → Nat → Int64} {R : Nat → Nat → Nat} {c : Nat × Nat} {Q : Option (Option Value) → MH → Prop} {r0 sr0 n_sr0 : Nat} {y1 sy2 : Int64} {x3 sx1 : Int32} (hs_sr0 : S sr0 = .inr (.long, n_sr0)) (hb54 : inb sx1 n_sr0 = true) (h_r0 : LyCi S R r0) (hb65 : inb x3 40 = true) (kt : ¬ (I (r0 + 2) x3.toNatClampNeg) = 1 → X xs L (d + 1) 31 81 [.ref r0, .long y1, .null, .int x3] [.int x3, .ref (r0 + 8)] (S, I, (u2 J sr0 sx1.toNatClampNeg sy2), R, c) Q) (kf : ¬ (¬ (I (r0 + 2) x3.toNatClampNeg) = 1) → X xs L (d + 1) 31 70 [.ref r0, .long y1, .null, .int x3] [.int x3, .ref (r0 + 8)] (S, I, (u2 J sr0 sx1.toNatClampNeg sy2), R, c) Q) : X xs L (d + 1) 31 54 [.ref r0, .long y1, .null, .int x3] [.long sy2, .int sx1, .ref sr0] (S, I, J, R, c) Q := by
  refine X_lastore (show decode (mB 31) 54 = .ok (.lastore, 1) by decide +kernel) (pc' := 55) rfl hs_sr0 hb54 ?_
  refine X_aload_n (q := 0) (show decode (mB 31) 55 = .ok (.aload_n 0, 1) by decide +kernel) (pc' := 56) rfl rfl rfl ?_
  refine X_getR (ci := 1) (f := 7) (q := (r0 + 8)) (show decode (mB 31) 56 = .ok (.getfield 35, 3) by decide +kernel) (pc' := 59) rfl h_r0.s0 (by decide +kernel) rfl h_r0.r0_7 ?_
  refine X_iload_n (q := 3) (show decode (mB 31) 59 = .ok (.iload_n 3, 1) by decide +kernel) (pc' := 60) rfl rfl rfl ?_
  refine X_aload_n (q := 0) (show decode (mB 31) 60 = .ok (.aload_n 0, 1) by decide +kernel) (pc' := 61) rfl rfl rfl ?_
  refine X_getR (ci := 1) (f := 2) (q := (r0 + 2)) (show decode (mB 31) 61 = .ok (.getfield 15, 3) by decide +kernel) (pc' := 64) rfl h_r0.s0 (by decide +kernel) rfl h_r0.r0_2 ?_
  refine X_iload_n (q := 3) (show decode (mB 31) 64 = .ok (.iload_n 3, 1) by decide +kernel) (pc' := 65) rfl rfl rfl ?_
  refine X_iaload (w := I (r0 + 2) x3.toNatClampNeg) (show decode (mB 31) 65 = .ok (.iaload, 1) by decide +kernel) (pc' := 66) rfl h_r0.s2 hb65 rfl ?_
  refine X_iconst (v := 1) (show decode (mB 31) 66 = .ok (.iconst 1, 1) by decide +kernel) (pc' := 67) rfl rfl ?_
  exact X_icmp_ne (tgt := 81) (show decode (mB 31) 67 = .ok (.if_icmp .ne 14, 3) by decide +kernel) rfl (pc' := 70) rfl kt kf
set_option maxRecDepth 4000 in
theorem b_X1_link_70 {xs : Nat → Int32} {L d : Nat} {S : Nat → Shp} {I : Nat → Nat → Int32} {J : Nat → Nat → Int64} {R : Nat → Nat → Nat} {c : Nat × Nat} {Q : Option (Option Value) → MH → Prop} {r0 sr0 : Nat} {y1 : Int64} {x3 sx1 : Int32} (h_r0 : LyCi S R r0) (hb75 : inb x3 40 = true) (k : X xs L (d + 1) 31 82 [.ref r0, .long y1, .null, .int x3] [.long ((J (r0 + 7) x3.toNatClampNeg) &&& y1), .int sx1, .ref sr0] (S, I, J, R, c) Q) : X xs L (d + 1) 31 70 [.ref r0, .long y1, .null, .int x3] [.int sx1, .ref sr0] (S, I, J, R, c) Q := by
  refine X_aload_n (q := 0) (show decode (mB 31) 70 = .ok (.aload_n 0, 1) by decide +kernel) (pc' := 71) rfl rfl rfl ?_
  refine X_getR (ci := 1) (f := 6) (q := (r0 + 7)) (show decode (mB 31) 71 = .ok (.getfield 32, 3) by decide +kernel) (pc' := 74) rfl h_r0.s0 (by decide +kernel) rfl h_r0.r0_6 ?_
  refine X_iload_n (q := 3) (show decode (mB 31) 74 = .ok (.iload_n 3, 1) by decide +kernel) (pc' := 75) rfl rfl rfl ?_
  refine X_laload (w := J (r0 + 7) x3.toNatClampNeg) (show decode (mB 31) 75 = .ok (.laload, 1) by decide +kernel) (pc' := 76) rfl h_r0.s7 hb75 rfl ?_
  refine X_lload_n (q := 1) (show decode (mB 31) 76 = .ok (.lload_n 1, 1) by decide +kernel) (pc' := 77) rfl rfl rfl ?_
  refine X_land (show decode (mB 31) 77 = .ok (.land, 1) by decide +kernel) (pc' := 78) rfl ?_
  refine X_goto (tgt := 82) (show decode (mB 31) 78 = .ok (.goto 4, 3) by decide +kernel) rfl ?_
  exact k
set_option maxRecDepth 4000 in
theorem b_X1_link_81 {xs : Nat → Int32} {L d : Nat} {S : Nat → Shp} {I : Nat → Nat → Int32} {J : Nat → Nat → Int64} {R : Nat → Nat → Nat} {c : Nat × Nat} {Q : Option (Option Value) → MH → Prop} {r0 sr0 : Nat} {y1 : Int64} {x3 sx1 : Int32}  (k : X xs L (d + 1) 31 82 [.ref r0, .long y1, .null, .int x3] [.long 0, .int sx1, .ref sr0] (S, I, J, R, c) Q) : X xs L (d + 1) 31 81 [.ref r0, .long y1, .null, .int x3] [.int sx1, .ref sr0] (S, I, J, R, c) Q := by
  refine X_lconst (v := 0) (show decode (mB 31) 81 = .ok (.lconst 0, 1) by decide +kernel) (pc' := 82) rfl rfl ?_
  exact k
set_option maxRecDepth 4000 in
theorem b_X1_link_82 {xs : Nat → Int32} {L d : Nat} {S : Nat → Shp} {I : Nat → Nat → Int32} {J : Nat → Nat → Int64} {R : Nat → Nat → Nat} {c : Nat × Nat} {Q : Option (Option Value) → MH → Prop} {r0 sr0 n_sr0 : Nat} {y1 sy2 : Int64} {x3 sx1 : Int32} (hs_sr0 : S sr0 = .inr (.long, n_sr0)) (hb82 : inb sx1 n_sr0 = true) (k : X xs L (d + 1) 31 36 [.ref r0, .long y1, .null, .int (x3 + 1)] [] (S, I, (u2 J sr0 sx1.toNatClampNeg sy2), R, c) Q) : X xs L (d + 1) 31 82 [.ref r0, .long y1, .null, .int x3] [.long sy2, .int sx1, .ref sr0] (S, I, J, R, c) Q := by
  refine X_lastore (show decode (mB 31) 82 = .ok (.lastore, 1) by decide +kernel) (pc' := 83) rfl hs_sr0 hb82 ?_
  refine X_iinc (q := 3) (v := x3 + 1) (ls' := [.ref r0, .long y1, .null, .int (x3 + 1)]) (show decode (mB 31) 83 = .ok (.iinc 3 1, 3) by decide +kernel) (pc' := 86) rfl rfl rfl rfl ?_
  refine X_goto (tgt := 36) (show decode (mB 31) 86 = .ok (.goto (-50), 3) by decide +kernel) rfl ?_
  exact k
set_option maxRecDepth 4000 in
theorem b_X1_link_89 {xs : Nat → Int32} {L d : Nat} {S : Nat → Shp} {I : Nat → Nat → Int32} {J : Nat → Nat → Int64} {R : Nat → Nat → Nat} {c : Nat × Nat} {Q : Option (Option Value) → MH → Prop} {r0 : Nat} {y1 : Int64} {x3 : Int32} (h_r0 : LyCi S R r0) (k : X xs L d 33 0 [.ref r0, .ref (r0 + 7), .null, .null] [] (S, I, J, R, c) (Kc xs L (d + 1) 31 97 [.ref r0, .long y1, .null, .int x3] [] Q)) : X xs L (d + 1) 31 89 [.ref r0, .long y1, .null, .int x3] [] (S, I, J, R, c) Q := by
  refine X_aload_n (q := 0) (show decode (mB 31) 89 = .ok (.aload_n 0, 1) by decide +kernel) (pc' := 90) rfl rfl rfl ?_
  refine X_aload_n (q := 0) (show decode (mB 31) 90 = .ok (.aload_n 0, 1) by decide +kernel) (pc' := 91) rfl rfl rfl ?_
  refine X_getR (ci := 1) (f := 6) (q := (r0 + 7)) (show decode (mB 31) 91 = .ok (.getfield 32, 3) by decide +kernel) (pc' := 94) rfl h_r0.s0 (by decide +kernel) rfl h_r0.r0_6 ?_
  exact X_callV (y := 33) (n := 1) (st := [.ref (r0 + 7), .ref r0]) (as := [.ref r0, .ref (r0 + 7)]) (rest := []) (ls0 := [.ref r0, .ref (r0 + 7), .null, .null]) (ci := 1) (show decode (mB 31) 94 = .ok (.invokevirtual 54, 3) by decide +kernel) (pc' := 97) rfl (by decide +kernel) (by decide +kernel) rfl h_r0.s0 (by decide +kernel) rfl rfl rfl rfl rfl k
set_option maxRecDepth 4000 in
theorem b_X1_link_97 {xs : Nat → Int32} {L d : Nat} {S : Nat → Shp} {I : Nat → Nat → Int32} {J : Nat → Nat → Int64} {R : Nat → Nat → Nat} {c : Nat × Nat} {Q : Option (Option Value) → MH → Prop} {r0 : Nat} {y1 : Int64} {x3 : Int32} (h_r0 : LyCi S R r0) (k : X xs L d 33 0 [.ref r0, .ref (r0 + 8), .null, .null] [] (S, I, J, R, c) (Kc xs L (d + 1) 31 105 [.ref r0, .long y1, .null, .int x3] [] Q)) : X xs L (d + 1) 31 97 [.ref r0, .long y1, .null, .int x3] [] (S, I, J, R, c) Q := by
  refine X_aload_n (q := 0) (show decode (mB 31) 97 = .ok (.aload_n 0, 1) by decide +kernel) (pc' := 98) rfl rfl rfl ?_
  refine X_aload_n (q := 0) (show decode (mB 31) 98 = .ok (.aload_n 0, 1) by decide +kernel) (pc' := 99) rfl rfl rfl ?_
  refine X_getR (ci := 1) (f := 7) (q := (r0 + 8)) (show decode (mB 31) 99 = .ok (.getfield 35, 3) by decide +kernel) (pc' := 102) rfl h_r0.s0 (by decide +kernel) rfl h_r0.r0_7 ?_
  exact X_callV (y := 33) (n := 1) (st := [.ref (r0 + 8), .ref r0]) (as := [.ref r0, .ref (r0 + 8)]) (rest := []) (ls0 := [.ref r0, .ref (r0 + 8), .null, .null]) (ci := 1) (show decode (mB 31) 102 = .ok (.invokevirtual 54, 3) by decide +kernel) (pc' := 105) rfl (by decide +kernel) (by decide +kernel) rfl h_r0.s0 (by decide +kernel) rfl rfl rfl rfl rfl k
set_option maxRecDepth 4000 in
theorem b_X1_link_105 {xs : Nat → Int32} {L d : Nat} {S : Nat → Shp} {I : Nat → Nat → Int32} {J : Nat → Nat → Int64} {R : Nat → Nat → Nat} {c : Nat × Nat} {Q : Option (Option Value) → MH → Prop} {r0 : Nat} {y1 : Int64} {x3 : Int32} (h_r0 : LyCi S R r0) (k : X xs L d 35 0 [.ref r0, .null, .null, .null] [] (S, I, J, R, c) (Kc xs L (d + 1) 31 109 [.ref r0, .long y1, .null, .int x3] [] Q)) : X xs L (d + 1) 31 105 [.ref r0, .long y1, .null, .int x3] [] (S, I, J, R, c) Q := by
  refine X_aload_n (q := 0) (show decode (mB 31) 105 = .ok (.aload_n 0, 1) by decide +kernel) (pc' := 106) rfl rfl rfl ?_
  exact X_callV (y := 35) (n := 0) (st := [.ref r0]) (as := [.ref r0]) (rest := []) (ls0 := [.ref r0, .null, .null, .null]) (ci := 1) (show decode (mB 31) 106 = .ok (.invokevirtual 58, 3) by decide +kernel) (pc' := 109) rfl (by decide +kernel) (by decide +kernel) rfl h_r0.s0 (by decide +kernel) rfl rfl rfl rfl rfl k
set_option maxRecDepth 4000 in
theorem b_X1_link_109 {xs : Nat → Int32} {L d : Nat} {S : Nat → Shp} {I : Nat → Nat → Int32} {J : Nat → Nat → Int64} {R : Nat → Nat → Nat} {c : Nat × Nat} {Q : Option (Option Value) → MH → Prop} {r0 : Nat} {y1 : Int64} {x3 : Int32}  (k : Q (some none) (S, I, J, R, c)) : X xs L (d + 1) 31 109 [.ref r0, .long y1, .null, .int x3] [] (S, I, J, R, c) Q := by
  exact X_return (show decode (mB 31) 109 = .ok (.return_, 1) by decide +kernel) (by decide +kernel) k
set_option maxRecDepth 4000 in
theorem b_X1_leavesOf_0 {xs : Nat → Int32} {L d : Nat} {S : Nat → Shp} {I : Nat → Nat → Int32} {J : Nat → Nat → Int64} {R : Nat → Nat → Nat} {c : Nat × Nat} {Q : Option (Option Value) → MH → Prop} {r0 : Nat} {x1 : Int32} (h_r0 : LyCi S R r0) (hb7 : inb x1 40 = true) (k : X xs L (d + 1) 32 10 [.ref r0, .int x1, .long 0, .null, .int (I (r0 + 3) x1.toNatClampNeg)] [] (S, I, J, R, c) Q) : X xs L (d + 1) 32 0 [.ref r0, .int x1, .null, .null, .null] [] (S, I, J, R, c) Q := by
  refine X_lconst (v := 0) (show decode (mB 32) 0 = .ok (.lconst 0, 1) by decide +kernel) (pc' := 1) rfl rfl ?_
  refine X_lstore_n (q := 2) (ls' := [.ref r0, .int x1, .long 0, .null, .null]) (show decode (mB 32) 1 = .ok (.lstore_n 2, 1) by decide +kernel) (pc' := 2) rfl rfl rfl ?_
  refine X_aload_n (q := 0) (show decode (mB 32) 2 = .ok (.aload_n 0, 1) by decide +kernel) (pc' := 3) rfl rfl rfl ?_
  refine X_getR (ci := 1) (f := 3) (q := (r0 + 3)) (show decode (mB 32) 3 = .ok (.getfield 19, 3) by decide +kernel) (pc' := 6) rfl h_r0.s0 (by decide +kernel) rfl h_r0.r0_3 ?_
  refine X_iload_n (q := 1) (show decode (mB 32) 6 = .ok (.iload_n 1, 1) by decide +kernel) (pc' := 7) rfl rfl rfl ?_
  refine X_iaload (w := I (r0 + 3) x1.toNatClampNeg) (show decode (mB 32) 7 = .ok (.iaload, 1) by decide +kernel) (pc' := 8) rfl h_r0.s3 hb7 rfl ?_
  refine X_istore (q := 4) (ls' := [.ref r0, .int x1, .long 0, .null, .int (I (r0 + 3) x1.toNatClampNeg)]) (show decode (mB 32) 8 = .ok (.istore 4, 2) by decide +kernel) (pc' := 10) rfl rfl ?_
  exact k
set_option maxRecDepth 4000 in
theorem b_X1_leavesOf_10 {xs : Nat → Int32} {L d : Nat} {S : Nat → Shp} {I : Nat → Nat → Int32} {J : Nat → Nat → Int64} {R : Nat → Nat → Nat} {c : Nat × Nat} {Q : Option (Option Value) → MH → Prop} {r0 : Nat} {x1 x4 : Int32} {y2 : Int64} (h_r0 : LyCi S R r0) (hb17 : inb x1 40 = true) (kt : (I (r0 + 4) x1.toNatClampNeg) ≤ x4 → X xs L (d + 1) 32 53 [.ref r0, .int x1, .long y2, .null, .int x4] [] (S, I, J, R, c) Q) (kf : ¬ ((I (r0 + 4) x1.toNatClampNeg) ≤ x4) → X xs L (d + 1) 32 21 [.ref r0, .int x1, .long y2, .null, .int x4] [] (S, I, J, R, c) Q) : X xs L (d + 1) 32 10 [.ref r0, .int x1, .long y2, .null, .int x4] [] (S, I, J, R, c) Q := by
  refine X_iload (q := 4) (show decode (mB 32) 10 = .ok (.iload 4, 2) by decide +kernel) (pc' := 12) rfl rfl ?_
  refine X_aload_n (q := 0) (show decode (mB 32) 12 = .ok (.aload_n 0, 1) by decide +kernel) (pc' := 13) rfl rfl rfl ?_
  refine X_getR (ci := 1) (f := 4) (q := (r0 + 4)) (show decode (mB 32) 13 = .ok (.getfield 22, 3) by decide +kernel) (pc' := 16) rfl h_r0.s0 (by decide +kernel) rfl h_r0.r0_4 ?_
  refine X_iload_n (q := 1) (show decode (mB 32) 16 = .ok (.iload_n 1, 1) by decide +kernel) (pc' := 17) rfl rfl rfl ?_
  refine X_iaload (w := I (r0 + 4) x1.toNatClampNeg) (show decode (mB 32) 17 = .ok (.iaload, 1) by decide +kernel) (pc' := 18) rfl h_r0.s4 hb17 rfl ?_
  exact X_icmp_ge (tgt := 53) (show decode (mB 32) 18 = .ok (.if_icmp .ge 35, 3) by decide +kernel) rfl (pc' := 21) rfl kt kf
set_option maxRecDepth 4000 in
theorem b_X1_leavesOf_21 {xs : Nat → Int32} {L d : Nat} {S : Nat → Shp} {I : Nat → Nat → Int32} {J : Nat → Nat → Int64} {R : Nat → Nat → Nat} {c : Nat × Nat} {Q : Option (Option Value) → MH → Prop} {r0 : Nat} {x1 x4 : Int32} {y2 : Int64} (h_r0 : LyCi S R r0) (k : X xs L d 58 0 [.ref (r0 + 5), .int x4] [] (S, I, J, R, c) (Kc xs L (d + 1) 32 30 [.ref r0, .int x1, .long y2, .null, .int x4] [] Q)) : X xs L (d + 1) 32 21 [.ref r0, .int x1, .long y2, .null, .int x4] [] (S, I, J, R, c) Q := by
  refine X_aload_n (q := 0) (show decode (mB 32) 21 = .ok (.aload_n 0, 1) by decide +kernel) (pc' := 22) rfl rfl rfl ?_
  refine X_getR (ci := 1) (f := 5) (q := (r0 + 5)) (show decode (mB 32) 22 = .ok (.getfield 28, 3) by decide +kernel) (pc' := 25) rfl h_r0.s0 (by decide +kernel) rfl h_r0.r0_5 ?_
  refine X_iload (q := 4) (show decode (mB 32) 25 = .ok (.iload 4, 2) by decide +kernel) (pc' := 27) rfl rfl ?_
  exact X_callV (y := 58) (n := 1) (st := [.int x4, .ref (r0 + 5)]) (as := [.ref (r0 + 5), .int x4]) (rest := []) (ls0 := [.ref (r0 + 5), .int x4]) (ci := 5) (show decode (mB 32) 27 = .ok (.invokevirtual 61, 3) by decide +kernel) (pc' := 30) rfl (by decide +kernel) (by decide +kernel) rfl h_r0.s5 (by decide +kernel) rfl rfl rfl rfl rfl k
set_option maxRecDepth 4000 in
theorem b_X1_leavesOf_30 {xs : Nat → Int32} {L d : Nat} {S : Nat → Shp} {I : Nat → Nat → Int32} {J : Nat → Nat → Int64} {R : Nat → Nat → Nat} {c : Nat × Nat} {Q : Option (Option Value) → MH → Prop} {r0 : Nat} {x1 x4 sx0 : Int32} {y2 : Int64}  (kt : sx0 < 0 → X xs L (d + 1) 32 47 [.ref r0, .int x1, .long y2, .null, .int x4] [] (S, I, J, R, c) Q) (kf : ¬ (sx0 < 0) → X xs L (d + 1) 32 33 [.ref r0, .int x1, .long y2, .null, .int x4] [] (S, I, J, R, c) Q) : X xs L (d + 1) 32 30 [.ref r0, .int x1, .long y2, .null, .int x4] [.int sx0] (S, I, J, R, c) Q := by
  exact X_if_lt (tgt := 47) (show decode (mB 32) 30 = .ok (.ifCond .lt 17, 3) by decide +kernel) rfl (pc' := 33) rfl kt kf
set_option maxRecDepth 4000 in
theorem b_X1_leavesOf_33 {xs : Nat → Int32} {L d : Nat} {S : Nat → Shp} {I : Nat → Nat → Int32} {J : Nat → Nat → Int64} {R : Nat → Nat → Nat} {c : Nat × Nat} {Q : Option (Option Value) → MH → Prop} {r0 : Nat} {x1 x4 : Int32} {y2 : Int64} (h_r0 : LyCi S R r0) (k : X xs L d 58 0 [.ref (r0 + 5), .int x4] [] (S, I, J, R, c) (Kc xs L (d + 1) 32 44 [.ref r0, .int x1, .long y2, .null, .int x4] [.long 1, .long y2] Q)) : X xs L (d + 1) 32 33 [.ref r0, .int x1, .long y2, .null, .int x4] [] (S, I, J, R, c) Q := by
  refine X_lload_n (q := 2) (show decode (mB 32) 33 = .ok (.lload_n 2, 1) by decide +kernel) (pc' := 34) rfl rfl rfl ?_
  refine X_lconst (v := 1) (show decode (mB 32) 34 = .ok (.lconst 1, 1) by decide +kernel) (pc' := 35) rfl rfl ?_
  refine X_aload_n (q := 0) (show decode (mB 32) 35 = .ok (.aload_n 0, 1) by decide +kernel) (pc' := 36) rfl rfl rfl ?_
  refine X_getR (ci := 1) (f := 5) (q := (r0 + 5)) (show decode (mB 32) 36 = .ok (.getfield 28, 3) by decide +kernel) (pc' := 39) rfl h_r0.s0 (by decide +kernel) rfl h_r0.r0_5 ?_
  refine X_iload (q := 4) (show decode (mB 32) 39 = .ok (.iload 4, 2) by decide +kernel) (pc' := 41) rfl rfl ?_
  exact X_callV (y := 58) (n := 1) (st := [.int x4, .ref (r0 + 5), .long 1, .long y2]) (as := [.ref (r0 + 5), .int x4]) (rest := [.long 1, .long y2]) (ls0 := [.ref (r0 + 5), .int x4]) (ci := 5) (show decode (mB 32) 41 = .ok (.invokevirtual 61, 3) by decide +kernel) (pc' := 44) rfl (by decide +kernel) (by decide +kernel) rfl h_r0.s5 (by decide +kernel) rfl rfl rfl rfl rfl k
set_option maxRecDepth 4000 in
theorem b_X1_leavesOf_44 {xs : Nat → Int32} {L d : Nat} {S : Nat → Shp} {I : Nat → Nat → Int32} {J : Nat → Nat → Int64} {R : Nat → Nat → Nat} {c : Nat × Nat} {Q : Option (Option Value) → MH → Prop} {r0 : Nat} {x1 x4 sx2 : Int32} {y2 sy0 sy1 : Int64}  (k : X xs L (d + 1) 32 47 [.ref r0, .int x1, .long (sy0 ||| (sy1 <<< (sx2.toInt64 &&& 63))), .null, .int x4] [] (S, I, J, R, c) Q) : X xs L (d + 1) 32 44 [.ref r0, .int x1, .long y2, .null, .int x4] [.int sx2, .long sy1, .long sy0] (S, I, J, R, c) Q := by
  refine X_lshl (show decode (mB 32) 44 = .ok (.lshl, 1) by decide +kernel) (pc' := 45) rfl ?_
  refine X_lor (show decode (mB 32) 45 = .ok (.lor, 1) by decide +kernel) (pc' := 46) rfl ?_
  refine X_lstore_n (q := 2) (ls' := [.ref r0, .int x1, .long (sy0 ||| (sy1 <<< (sx2.toInt64 &&& 63))), .null, .int x4]) (show decode (mB 32) 46 = .ok (.lstore_n 2, 1) by decide +kernel) (pc' := 47) rfl rfl rfl ?_
  exact k
set_option maxRecDepth 4000 in
theorem b_X1_leavesOf_47 {xs : Nat → Int32} {L d : Nat} {S : Nat → Shp} {I : Nat → Nat → Int32} {J : Nat → Nat → Int64} {R : Nat → Nat → Nat} {c : Nat × Nat} {Q : Option (Option Value) → MH → Prop} {r0 : Nat} {x1 x4 : Int32} {y2 : Int64}  (k : X xs L (d + 1) 32 10 [.ref r0, .int x1, .long y2, .null, .int (x4 + 1)] [] (S, I, J, R, c) Q) : X xs L (d + 1) 32 47 [.ref r0, .int x1, .long y2, .null, .int x4] [] (S, I, J, R, c) Q := by
  refine X_iinc (q := 4) (v := x4 + 1) (ls' := [.ref r0, .int x1, .long y2, .null, .int (x4 + 1)]) (show decode (mB 32) 47 = .ok (.iinc 4 1, 3) by decide +kernel) (pc' := 50) rfl rfl rfl rfl ?_
  refine X_goto (tgt := 10) (show decode (mB 32) 50 = .ok (.goto (-40), 3) by decide +kernel) rfl ?_
  exact k
set_option maxRecDepth 4000 in
theorem b_X1_leavesOf_53 {xs : Nat → Int32} {L d : Nat} {S : Nat → Shp} {I : Nat → Nat → Int32} {J : Nat → Nat → Int64} {R : Nat → Nat → Nat} {c : Nat × Nat} {Q : Option (Option Value) → MH → Prop} {r0 : Nat} {x1 x4 : Int32} {y2 : Int64}  (k : Q (some (some (.long y2))) (S, I, J, R, c)) : X xs L (d + 1) 32 53 [.ref r0, .int x1, .long y2, .null, .int x4] [] (S, I, J, R, c) Q := by
  refine X_lload_n (q := 2) (show decode (mB 32) 53 = .ok (.lload_n 2, 1) by decide +kernel) (pc' := 54) rfl rfl rfl ?_
  exact X_lreturn (show decode (mB 32) 54 = .ok (.lreturn, 1) by decide +kernel) (by decide +kernel) k
set_option maxRecDepth 4000 in
theorem b_X1_close_0 {xs : Nat → Int32} {L d : Nat} {S : Nat → Shp} {I : Nat → Nat → Int32} {J : Nat → Nat → Int64} {R : Nat → Nat → Nat} {c : Nat × Nat} {Q : Option (Option Value) → MH → Prop} {r0 r1 : Nat}  (k : X xs L d 33 2 [.ref r0, .ref r1, .int 0, .null] [] (S, I, J, R, c) Q) : X xs L d 33 0 [.ref r0, .ref r1, .null, .null] [] (S, I, J, R, c) Q := by
  refine X_iconst (v := 0) (show decode (mB 33) 0 = .ok (.iconst 0, 1) by decide +kernel) (pc' := 1) rfl rfl ?_
  refine X_istore_n (q := 2) (ls' := [.ref r0, .ref r1, .int 0, .null]) (show decode (mB 33) 1 = .ok (.istore_n 2, 1) by decide +kernel) (pc' := 2) rfl rfl rfl ?_
  exact k
set_option maxRecDepth 4000 in
theorem b_X1_close_2 {xs : Nat → Int32} {L d : Nat} {S : Nat → Shp} {I : Nat → Nat → Int32} {J : Nat → Nat → Int64} {R : Nat → Nat → Nat} {c : Nat × Nat} {Q : Option (Option Value) → MH → Prop} {r0 r1 : Nat} {x2 : Int32} {v3 : Value} (h_r0 : LyCi S R r0) (kt : (I r0 0) ≤ x2 → X xs L d 33 53 [.ref r0, .ref r1, .int x2, v3] [] (S, I, J, R, c) Q) (kf : ¬ ((I r0 0) ≤ x2) → X xs L d 33 10 [.ref r0, .ref r1, .int x2, v3] [] (S, I, J, R, c) Q) : X xs L d 33 2 [.ref r0, .ref r1, .int x2, v3] [] (S, I, J, R, c) Q := by
  refine X_iload_n (q := 2) (show decode (mB 33) 2 = .ok (.iload_n 2, 1) by decide +kernel) (pc' := 3) rfl rfl rfl ?_
  refine X_aload_n (q := 0) (show decode (mB 33) 3 = .ok (.aload_n 0, 1) by decide +kernel) (pc' := 4) rfl rfl rfl ?_
  refine X_getI (ci := 1) (f := 0) (x := I r0 0) (show decode (mB 33) 4 = .ok (.getfield 41, 3) by decide +kernel) (pc' := 7) rfl h_r0.s0 (by decide +kernel) rfl rfl ?_
  exact X_icmp_ge (tgt := 53) (show decode (mB 33) 7 = .ok (.if_icmp .ge 46, 3) by decide +kernel) rfl (pc' := 10) rfl kt kf
set_option maxRecDepth 4000 in
theorem b_X1_close_10 {xs : Nat → Int32} {L d : Nat} {S : Nat → Shp} {I : Nat → Nat → Int32} {J : Nat → Nat → Int64} {R : Nat → Nat → Nat} {c : Nat × Nat} {Q : Option (Option Value) → MH → Prop} {r0 r1 : Nat} {x2 : Int32} {v3 : Value}  (k : X xs L d 33 12 [.ref r0, .ref r1, .int x2, .int 0] [] (S, I, J, R, c) Q) : X xs L d 33 10 [.ref r0, .ref r1, .int x2, v3] [] (S, I, J, R, c) Q := by
  refine X_iconst (v := 0) (show decode (mB 33) 10 = .ok (.iconst 0, 1) by decide +kernel) (pc' := 11) rfl rfl ?_
  refine X_istore_n (q := 3) (ls' := [.ref r0, .ref r1, .int x2, .int 0]) (show decode (mB 33) 11 = .ok (.istore_n 3, 1) by decide +kernel) (pc' := 12) rfl rfl rfl ?_
  exact k
set_option maxRecDepth 4000 in
theorem b_X1_close_12 {xs : Nat → Int32} {L d : Nat} {S : Nat → Shp} {I : Nat → Nat → Int32} {J : Nat → Nat → Int64} {R : Nat → Nat → Nat} {c : Nat × Nat} {Q : Option (Option Value) → MH → Prop} {r0 r1 : Nat} {x2 x3 : Int32} (h_r0 : LyCi S R r0) (kt : (I r0 0) ≤ x3 → X xs L d 33 47 [.ref r0, .ref r1, .int x2, .int x3] [] (S, I, J, R, c) Q) (kf : ¬ ((I r0 0) ≤ x3) → X xs L d 33 20 [.ref r0, .ref r1, .int x2, .int x3] [] (S, I, J, R, c) Q) : X xs L d 33 12 [.ref r0, .ref r1, .int x2, .int x3] [] (S, I, J, R, c) Q := by
  refine X_iload_n (q := 3) (show decode (mB 33) 12 = .ok (.iload_n 3, 1) by decide +kernel) (pc' := 13) rfl rfl rfl ?_
  refine X_aload_n (q := 0) (show decode (mB 33) 13 = .ok (.aload_n 0, 1) by decide +kernel) (pc' := 14) rfl rfl rfl ?_
  refine X_getI (ci := 1) (f := 0) (x := I r0 0) (show decode (mB 33) 14 = .ok (.getfield 41, 3) by decide +kernel) (pc' := 17) rfl h_r0.s0 (by decide +kernel) rfl rfl ?_
  exact X_icmp_ge (tgt := 47) (show decode (mB 33) 17 = .ok (.if_icmp .ge 30, 3) by decide +kernel) rfl (pc' := 20) rfl kt kf
set_option maxRecDepth 4000 in
theorem b_X1_close_20 {xs : Nat → Int32} {L d : Nat} {S : Nat → Shp} {I : Nat → Nat → Int32} {J : Nat → Nat → Int64} {R : Nat → Nat → Nat} {c : Nat × Nat} {Q : Option (Option Value) → MH → Prop} {r0 r1 n_r1 : Nat} {x2 x3 : Int32} (hs_r1 : S r1 = .inr (.long, n_r1)) (hb22 : inb x3 n_r1 = true) (kt : ¬ (lg_cmp (((J r1 x3.toNatClampNeg) >>> (x2.toInt64 &&& 63)) &&& 1) 1) = 0 → X xs L d 33 41 [.ref r0, .ref r1, .int x2, .int x3] [] (S, I, J, R, c) Q) (kf : ¬ (¬ (lg_cmp (((J r1 x3.toNatClampNeg) >>> (x2.toInt64 &&& 63)) &&& 1) 1) = 0) → X xs L d 33 32 [.ref r0, .ref r1, .int x2, .int x3] [] (S, I, J, R, c) Q) : X xs L d 33 20 [.ref r0, .ref r1, .int x2, .int x3] [] (S, I, J, R, c) Q := by
  refine X_aload_n (q := 1) (show decode (mB 33) 20 = .ok (.aload_n 1, 1) by decide +kernel) (pc' := 21) rfl rfl rfl ?_
  refine X_iload_n (q := 3) (show decode (mB 33) 21 = .ok (.iload_n 3, 1) by decide +kernel) (pc' := 22) rfl rfl rfl ?_
  refine X_laload (w := J r1 x3.toNatClampNeg) (show decode (mB 33) 22 = .ok (.laload, 1) by decide +kernel) (pc' := 23) rfl hs_r1 hb22 rfl ?_
  refine X_iload_n (q := 2) (show decode (mB 33) 23 = .ok (.iload_n 2, 1) by decide +kernel) (pc' := 24) rfl rfl rfl ?_
  refine X_lshr (show decode (mB 33) 24 = .ok (.lshr, 1) by decide +kernel) (pc' := 25) rfl ?_
  refine X_lconst (v := 1) (show decode (mB 33) 25 = .ok (.lconst 1, 1) by decide +kernel) (pc' := 26) rfl rfl ?_
  refine X_land (show decode (mB 33) 26 = .ok (.land, 1) by decide +kernel) (pc' := 27) rfl ?_
  refine X_lconst (v := 1) (show decode (mB 33) 27 = .ok (.lconst 1, 1) by decide +kernel) (pc' := 28) rfl rfl ?_
  refine X_lcmp (show decode (mB 33) 28 = .ok (.lcmp, 1) by decide +kernel) (pc' := 29) rfl ?_
  exact X_if_ne (tgt := 41) (show decode (mB 33) 29 = .ok (.ifCond .ne 12, 3) by decide +kernel) rfl (pc' := 32) rfl kt kf
set_option maxRecDepth 4000 in
theorem b_X1_close_32 {xs : Nat → Int32} {L d : Nat} {S : Nat → Shp} {I : Nat → Nat → Int32} {J : Nat → Nat → Int64} {R : Nat → Nat → Nat} {c : Nat × Nat} {Q : Option (Option Value) → MH → Prop} {r0 r1 n_r1 : Nat} {x2 x3 : Int32} (hs_r1 : S r1 = .inr (.long, n_r1)) (hb35 : inb x3 n_r1 = true) (hb38 : inb x2 n_r1 = true) (hb40 : inb x3 n_r1 = true) (k : X xs L d 33 41 [.ref r0, .ref r1, .int x2, .int x3] [] (S, I, (u2 J r1 x3.toNatClampNeg ((J r1 x3.toNatClampNeg) ||| (J r1 x2.toNatClampNeg))), R, c) Q) : X xs L d 33 32 [.ref r0, .ref r1, .int x2, .int x3] [] (S, I, J, R, c) Q := by
  refine X_aload_n (q := 1) (show decode (mB 33) 32 = .ok (.aload_n 1, 1) by decide +kernel) (pc' := 33) rfl rfl rfl ?_
  refine X_iload_n (q := 3) (show decode (mB 33) 33 = .ok (.iload_n 3, 1) by decide +kernel) (pc' := 34) rfl rfl rfl ?_
  refine X_dup2 (show decode (mB 33) 34 = .ok (.dup2, 1) by decide +kernel) (pc' := 35) rfl rfl rfl ?_
  refine X_laload (w := J r1 x3.toNatClampNeg) (show decode (mB 33) 35 = .ok (.laload, 1) by decide +kernel) (pc' := 36) rfl hs_r1 hb35 rfl ?_
  refine X_aload_n (q := 1) (show decode (mB 33) 36 = .ok (.aload_n 1, 1) by decide +kernel) (pc' := 37) rfl rfl rfl ?_
  refine X_iload_n (q := 2) (show decode (mB 33) 37 = .ok (.iload_n 2, 1) by decide +kernel) (pc' := 38) rfl rfl rfl ?_
  refine X_laload (w := J r1 x2.toNatClampNeg) (show decode (mB 33) 38 = .ok (.laload, 1) by decide +kernel) (pc' := 39) rfl hs_r1 hb38 rfl ?_
  refine X_lor (show decode (mB 33) 39 = .ok (.lor, 1) by decide +kernel) (pc' := 40) rfl ?_
  refine X_lastore (show decode (mB 33) 40 = .ok (.lastore, 1) by decide +kernel) (pc' := 41) rfl hs_r1 hb40 ?_
  exact k
set_option maxRecDepth 4000 in
theorem b_X1_close_41 {xs : Nat → Int32} {L d : Nat} {S : Nat → Shp} {I : Nat → Nat → Int32} {J : Nat → Nat → Int64} {R : Nat → Nat → Nat} {c : Nat × Nat} {Q : Option (Option Value) → MH → Prop} {r0 r1 : Nat} {x2 x3 : Int32}  (k : X xs L d 33 12 [.ref r0, .ref r1, .int x2, .int (x3 + 1)] [] (S, I, J, R, c) Q) : X xs L d 33 41 [.ref r0, .ref r1, .int x2, .int x3] [] (S, I, J, R, c) Q := by
  refine X_iinc (q := 3) (v := x3 + 1) (ls' := [.ref r0, .ref r1, .int x2, .int (x3 + 1)]) (show decode (mB 33) 41 = .ok (.iinc 3 1, 3) by decide +kernel) (pc' := 44) rfl rfl rfl rfl ?_
  refine X_goto (tgt := 12) (show decode (mB 33) 44 = .ok (.goto (-32), 3) by decide +kernel) rfl ?_
  exact k
set_option maxRecDepth 4000 in
theorem b_X1_close_47 {xs : Nat → Int32} {L d : Nat} {S : Nat → Shp} {I : Nat → Nat → Int32} {J : Nat → Nat → Int64} {R : Nat → Nat → Nat} {c : Nat × Nat} {Q : Option (Option Value) → MH → Prop} {r0 r1 : Nat} {x2 x3 : Int32}  (k : X xs L d 33 2 [.ref r0, .ref r1, .int (x2 + 1), .int x3] [] (S, I, J, R, c) Q) : X xs L d 33 47 [.ref r0, .ref r1, .int x2, .int x3] [] (S, I, J, R, c) Q := by
  refine X_iinc (q := 2) (v := x2 + 1) (ls' := [.ref r0, .ref r1, .int (x2 + 1), .int x3]) (show decode (mB 33) 47 = .ok (.iinc 2 1, 3) by decide +kernel) (pc' := 50) rfl rfl rfl rfl ?_
  refine X_goto (tgt := 2) (show decode (mB 33) 50 = .ok (.goto (-48), 3) by decide +kernel) rfl ?_
  exact k
set_option maxRecDepth 4000 in
theorem b_X1_close_53 {xs : Nat → Int32} {L d : Nat} {S : Nat → Shp} {I : Nat → Nat → Int32} {J : Nat → Nat → Int64} {R : Nat → Nat → Nat} {c : Nat × Nat} {Q : Option (Option Value) → MH → Prop} {r0 r1 : Nat} {x2 : Int32} {v3 : Value}  (k : Q (some none) (S, I, J, R, c)) : X xs L d 33 53 [.ref r0, .ref r1, .int x2, v3] [] (S, I, J, R, c) Q := by
  exact X_return (show decode (mB 33) 53 = .ok (.return_, 1) by decide +kernel) (by decide +kernel) k
set_option maxRecDepth 4000 in
theorem b_X1_firstLoop_0 {xs : Nat → Int32} {L d : Nat} {S : Nat → Shp} {I : Nat → Nat → Int32} {J : Nat → Nat → Int64} {R : Nat → Nat → Nat} {c : Nat × Nat} {Q : Option (Option Value) → MH → Prop} {r0 : Nat}  (k : X xs L d 34 2 [.ref r0, .int 0] [] (S, I, J, R, c) Q) : X xs L d 34 0 [.ref r0, .null] [] (S, I, J, R, c) Q := by
  refine X_iconst (v := 0) (show decode (mB 34) 0 = .ok (.iconst 0, 1) by decide +kernel) (pc' := 1) rfl rfl ?_
  refine X_istore_n (q := 1) (ls' := [.ref r0, .int 0]) (show decode (mB 34) 1 = .ok (.istore_n 1, 1) by decide +kernel) (pc' := 2) rfl rfl rfl ?_
  exact k
set_option maxRecDepth 4000 in
theorem b_X1_firstLoop_2 {xs : Nat → Int32} {L d : Nat} {S : Nat → Shp} {I : Nat → Nat → Int32} {J : Nat → Nat → Int64} {R : Nat → Nat → Nat} {c : Nat × Nat} {Q : Option (Option Value) → MH → Prop} {r0 : Nat} {x1 : Int32} (h_r0 : LyCi S R r0) (kt : (I r0 0) ≤ x1 → X xs L d 34 33 [.ref r0, .int x1] [] (S, I, J, R, c) Q) (kf : ¬ ((I r0 0) ≤ x1) → X xs L d 34 10 [.ref r0, .int x1] [] (S, I, J, R, c) Q) : X xs L d 34 2 [.ref r0, .int x1] [] (S, I, J, R, c) Q := by
  refine X_iload_n (q := 1) (show decode (mB 34) 2 = .ok (.iload_n 1, 1) by decide +kernel) (pc' := 3) rfl rfl rfl ?_
  refine X_aload_n (q := 0) (show decode (mB 34) 3 = .ok (.aload_n 0, 1) by decide +kernel) (pc' := 4) rfl rfl rfl ?_
  refine X_getI (ci := 1) (f := 0) (x := I r0 0) (show decode (mB 34) 4 = .ok (.getfield 41, 3) by decide +kernel) (pc' := 7) rfl h_r0.s0 (by decide +kernel) rfl rfl ?_
  exact X_icmp_ge (tgt := 33) (show decode (mB 34) 7 = .ok (.if_icmp .ge 26, 3) by decide +kernel) rfl (pc' := 10) rfl kt kf
set_option maxRecDepth 4000 in
theorem b_X1_firstLoop_10 {xs : Nat → Int32} {L d : Nat} {S : Nat → Shp} {I : Nat → Nat → Int32} {J : Nat → Nat → Int64} {R : Nat → Nat → Nat} {c : Nat × Nat} {Q : Option (Option Value) → MH → Prop} {r0 : Nat} {x1 : Int32} (h_r0 : LyCi S R r0) (hb15 : inb x1 40 = true) (kt : ¬ (lg_cmp (((J (r0 + 8) x1.toNatClampNeg) >>> (x1.toInt64 &&& 63)) &&& 1) 1) = 0 → X xs L d 34 27 [.ref r0, .int x1] [] (S, I, J, R, c) Q) (kf : ¬ (¬ (lg_cmp (((J (r0 + 8) x1.toNatClampNeg) >>> (x1.toInt64 &&& 63)) &&& 1) 1) = 0) → X xs L d 34 25 [.ref r0, .int x1] [] (S, I, J, R, c) Q) : X xs L d 34 10 [.ref r0, .int x1] [] (S, I, J, R, c) Q := by
  refine X_aload_n (q := 0) (show decode (mB 34) 10 = .ok (.aload_n 0, 1) by decide +kernel) (pc' := 11) rfl rfl rfl ?_
  refine X_getR (ci := 1) (f := 7) (q := (r0 + 8)) (show decode (mB 34) 11 = .ok (.getfield 35, 3) by decide +kernel) (pc' := 14) rfl h_r0.s0 (by decide +kernel) rfl h_r0.r0_7 ?_
  refine X_iload_n (q := 1) (show decode (mB 34) 14 = .ok (.iload_n 1, 1) by decide +kernel) (pc' := 15) rfl rfl rfl ?_
  refine X_laload (w := J (r0 + 8) x1.toNatClampNeg) (show decode (mB 34) 15 = .ok (.laload, 1) by decide +kernel) (pc' := 16) rfl h_r0.s8 hb15 rfl ?_
  refine X_iload_n (q := 1) (show decode (mB 34) 16 = .ok (.iload_n 1, 1) by decide +kernel) (pc' := 17) rfl rfl rfl ?_
  refine X_lshr (show decode (mB 34) 17 = .ok (.lshr, 1) by decide +kernel) (pc' := 18) rfl ?_
  refine X_lconst (v := 1) (show decode (mB 34) 18 = .ok (.lconst 1, 1) by decide +kernel) (pc' := 19) rfl rfl ?_
  refine X_land (show decode (mB 34) 19 = .ok (.land, 1) by decide +kernel) (pc' := 20) rfl ?_
  refine X_lconst (v := 1) (show decode (mB 34) 20 = .ok (.lconst 1, 1) by decide +kernel) (pc' := 21) rfl rfl ?_
  refine X_lcmp (show decode (mB 34) 21 = .ok (.lcmp, 1) by decide +kernel) (pc' := 22) rfl ?_
  exact X_if_ne (tgt := 27) (show decode (mB 34) 22 = .ok (.ifCond .ne 5, 3) by decide +kernel) rfl (pc' := 25) rfl kt kf
set_option maxRecDepth 4000 in
theorem b_X1_firstLoop_25 {xs : Nat → Int32} {L d : Nat} {S : Nat → Shp} {I : Nat → Nat → Int32} {J : Nat → Nat → Int64} {R : Nat → Nat → Nat} {c : Nat × Nat} {Q : Option (Option Value) → MH → Prop} {r0 : Nat} {x1 : Int32}  (k : Q (some (some (.int x1))) (S, I, J, R, c)) : X xs L d 34 25 [.ref r0, .int x1] [] (S, I, J, R, c) Q := by
  refine X_iload_n (q := 1) (show decode (mB 34) 25 = .ok (.iload_n 1, 1) by decide +kernel) (pc' := 26) rfl rfl rfl ?_
  exact X_ireturn (ty := .int) (show decode (mB 34) 26 = .ok (.ireturn, 1) by decide +kernel) (by decide +kernel) rfl k
set_option maxRecDepth 4000 in
theorem b_X1_firstLoop_27 {xs : Nat → Int32} {L d : Nat} {S : Nat → Shp} {I : Nat → Nat → Int32} {J : Nat → Nat → Int64} {R : Nat → Nat → Nat} {c : Nat × Nat} {Q : Option (Option Value) → MH → Prop} {r0 : Nat} {x1 : Int32}  (k : X xs L d 34 2 [.ref r0, .int (x1 + 1)] [] (S, I, J, R, c) Q) : X xs L d 34 27 [.ref r0, .int x1] [] (S, I, J, R, c) Q := by
  refine X_iinc (q := 1) (v := x1 + 1) (ls' := [.ref r0, .int (x1 + 1)]) (show decode (mB 34) 27 = .ok (.iinc 1 1, 3) by decide +kernel) (pc' := 30) rfl rfl rfl rfl ?_
  refine X_goto (tgt := 2) (show decode (mB 34) 30 = .ok (.goto (-28), 3) by decide +kernel) rfl ?_
  exact k
set_option maxRecDepth 4000 in
theorem b_X1_firstLoop_33 {xs : Nat → Int32} {L d : Nat} {S : Nat → Shp} {I : Nat → Nat → Int32} {J : Nat → Nat → Int64} {R : Nat → Nat → Nat} {c : Nat × Nat} {Q : Option (Option Value) → MH → Prop} {r0 : Nat} {x1 : Int32}  (k : Q (some (some (.int (-2)))) (S, I, J, R, c)) : X xs L d 34 33 [.ref r0, .int x1] [] (S, I, J, R, c) Q := by
  refine X_bipush (v := (-2)) (show decode (mB 34) 33 = .ok (.bipush (-2), 2) by decide +kernel) (pc' := 35) rfl (by decide +kernel) ?_
  exact X_ireturn (ty := .int) (show decode (mB 34) 35 = .ok (.ireturn, 1) by decide +kernel) (by decide +kernel) rfl k
set_option maxRecDepth 4000 in
theorem b_X1_putInOrder_0 {xs : Nat → Int32} {L d : Nat} {S : Nat → Shp} {I : Nat → Nat → Int32} {J : Nat → Nat → Int64} {R : Nat → Nat → Nat} {c : Nat × Nat} {Q : Option (Option Value) → MH → Prop} {r0 : Nat}  (k : X xs L (d + 1) 35 4 [.ref r0, .int 0, .int 0, .null] [] (S, I, J, R, c) Q) : X xs L (d + 1) 35 0 [.ref r0, .null, .null, .null] [] (S, I, J, R, c) Q := by
  refine X_iconst (v := 0) (show decode (mB 35) 0 = .ok (.iconst 0, 1) by decide +kernel) (pc' := 1) rfl rfl ?_
  refine X_istore_n (q := 1) (ls' := [.ref r0, .int 0, .null, .null]) (show decode (mB 35) 1 = .ok (.istore_n 1, 1) by decide +kernel) (pc' := 2) rfl rfl rfl ?_
  refine X_iconst (v := 0) (show decode (mB 35) 2 = .ok (.iconst 0, 1) by decide +kernel) (pc' := 3) rfl rfl ?_
  refine X_istore_n (q := 2) (ls' := [.ref r0, .int 0, .int 0, .null]) (show decode (mB 35) 3 = .ok (.istore_n 2, 1) by decide +kernel) (pc' := 4) rfl rfl rfl ?_
  exact k
set_option maxRecDepth 4000 in
theorem b_X1_putInOrder_4 {xs : Nat → Int32} {L d : Nat} {S : Nat → Shp} {I : Nat → Nat → Int32} {J : Nat → Nat → Int64} {R : Nat → Nat → Nat} {c : Nat × Nat} {Q : Option (Option Value) → MH → Prop} {r0 : Nat} {x1 x2 : Int32} {v3 : Value} (h_r0 : LyCi S R r0) (kt : (I r0 0) < x2 → X xs L (d + 1) 35 53 [.ref r0, .int x1, .int x2, v3] [] (S, I, J, R, c) Q) (kf : ¬ ((I r0 0) < x2) → X xs L (d + 1) 35 12 [.ref r0, .int x1, .int x2, v3] [] (S, I, J, R, c) Q) : X xs L (d + 1) 35 4 [.ref r0, .int x1, .int x2, v3] [] (S, I, J, R, c) Q := by
  refine X_iload_n (q := 2) (show decode (mB 35) 4 = .ok (.iload_n 2, 1) by decide +kernel) (pc' := 5) rfl rfl rfl ?_
  refine X_aload_n (q := 0) (show decode (mB 35) 5 = .ok (.aload_n 0, 1) by decide +kernel) (pc' := 6) rfl rfl rfl ?_
  refine X_getI (ci := 1) (f := 0) (x := I r0 0) (show decode (mB 35) 6 = .ok (.getfield 41, 3) by decide +kernel) (pc' := 9) rfl h_r0.s0 (by decide +kernel) rfl rfl ?_
  exact X_icmp_gt (tgt := 53) (show decode (mB 35) 9 = .ok (.if_icmp .gt 44, 3) by decide +kernel) rfl (pc' := 12) rfl kt kf
set_option maxRecDepth 4000 in
theorem b_X1_putInOrder_12 {xs : Nat → Int32} {L d : Nat} {S : Nat → Shp} {I : Nat → Nat → Int32} {J : Nat → Nat → Int64} {R : Nat → Nat → Nat} {c : Nat × Nat} {Q : Option (Option Value) → MH → Prop} {r0 : Nat} {x1 x2 : Int32} {v3 : Value}  (k : X xs L (d + 1) 35 14 [.ref r0, .int x1, .int x2, .int 0] [] (S, I, J, R, c) Q) : X xs L (d + 1) 35 12 [.ref r0, .int x1, .int x2, v3] [] (S, I, J, R, c) Q := by
  refine X_iconst (v := 0) (show decode (mB 35) 12 = .ok (.iconst 0, 1) by decide +kernel) (pc' := 13) rfl rfl ?_
  refine X_istore_n (q := 3) (ls' := [.ref r0, .int x1, .int x2, .int 0]) (show decode (mB 35) 13 = .ok (.istore_n 3, 1) by decide +kernel) (pc' := 14) rfl rfl rfl ?_
  exact k
set_option maxRecDepth 4000 in
theorem b_X1_putInOrder_14 {xs : Nat → Int32} {L d : Nat} {S : Nat → Shp} {I : Nat → Nat → Int32} {J : Nat → Nat → Int64} {R : Nat → Nat → Nat} {c : Nat × Nat} {Q : Option (Option Value) → MH → Prop} {r0 : Nat} {x1 x2 x3 : Int32} (h_r0 : LyCi S R r0) (kt : (I r0 0) ≤ x3 → X xs L (d + 1) 35 47 [.ref r0, .int x1, .int x2, .int x3] [] (S, I, J, R, c) Q) (kf : ¬ ((I r0 0) ≤ x3) → X xs L (d + 1) 35 22 [.ref r0, .int x1, .int x2, .int x3] [] (S, I, J, R, c) Q) : X xs L (d + 1) 35 14 [.ref r0, .int x1, .int x2, .int x3] [] (S, I, J, R, c) Q := by
  refine X_iload_n (q := 3) (show decode (mB 35) 14 = .ok (.iload_n 3, 1) by decide +kernel) (pc' := 15) rfl rfl rfl ?_
  refine X_aload_n (q := 0) (show decode (mB 35) 15 = .ok (.aload_n 0, 1) by decide +kernel) (pc' := 16) rfl rfl rfl ?_
  refine X_getI (ci := 1) (f := 0) (x := I r0 0) (show decode (mB 35) 16 = .ok (.getfield 41, 3) by decide +kernel) (pc' := 19) rfl h_r0.s0 (by decide +kernel) rfl rfl ?_
  exact X_icmp_ge (tgt := 47) (show decode (mB 35) 19 = .ok (.if_icmp .ge 28, 3) by decide +kernel) rfl (pc' := 22) rfl kt kf
set_option maxRecDepth 4000 in
theorem b_X1_putInOrder_22 {xs : Nat → Int32} {L d : Nat} {S : Nat → Shp} {I : Nat → Nat → Int32} {J : Nat → Nat → Int64} {R : Nat → Nat → Nat} {c : Nat × Nat} {Q : Option (Option Value) → MH → Prop} {r0 : Nat} {x1 x2 x3 : Int32} (h_r0 : LyCi S R r0) (k : X xs L d 36 0 [.ref r0, .int x3] [] (S, I, J, R, c) (Kc xs L (d + 1) 35 27 [.ref r0, .int x1, .int x2, .int x3] [] Q)) : X xs L (d + 1) 35 22 [.ref r0, .int x1, .int x2, .int x3] [] (S, I, J, R, c) Q := by
  refine X_aload_n (q := 0) (show decode (mB 35) 22 = .ok (.aload_n 0, 1) by decide +kernel) (pc' := 23) rfl rfl rfl ?_
  refine X_iload_n (q := 3) (show decode (mB 35) 23 = .ok (.iload_n 3, 1) by decide +kernel) (pc' := 24) rfl rfl rfl ?_
  exact X_callV (y := 36) (n := 1) (st := [.int x3, .ref r0]) (as := [.ref r0, .int x3]) (rest := []) (ls0 := [.ref r0, .int x3]) (ci := 1) (show decode (mB 35) 24 = .ok (.invokevirtual 65, 3) by decide +kernel) (pc' := 27) rfl (by decide +kernel) (by decide +kernel) rfl h_r0.s0 (by decide +kernel) rfl rfl rfl rfl rfl k
set_option maxRecDepth 4000 in
theorem b_X1_putInOrder_27 {xs : Nat → Int32} {L d : Nat} {S : Nat → Shp} {I : Nat → Nat → Int32} {J : Nat → Nat → Int64} {R : Nat → Nat → Nat} {c : Nat × Nat} {Q : Option (Option Value) → MH → Prop} {r0 : Nat} {x1 x2 x3 sx0 : Int32}  (kt : ¬ sx0 = x2 → X xs L (d + 1) 35 41 [.ref r0, .int x1, .int x2, .int x3] [] (S, I, J, R, c) Q) (kf : ¬ (¬ sx0 = x2) → X xs L (d + 1) 35 31 [.ref r0, .int x1, .int x2, .int x3] [] (S, I, J, R, c) Q) : X xs L (d + 1) 35 27 [.ref r0, .int x1, .int x2, .int x3] [.int sx0] (S, I, J, R, c) Q := by
  refine X_iload_n (q := 2) (show decode (mB 35) 27 = .ok (.iload_n 2, 1) by decide +kernel) (pc' := 28) rfl rfl rfl ?_
  exact X_icmp_ne (tgt := 41) (show decode (mB 35) 28 = .ok (.if_icmp .ne 13, 3) by decide +kernel) rfl (pc' := 31) rfl kt kf
set_option maxRecDepth 4000 in
theorem b_X1_putInOrder_31 {xs : Nat → Int32} {L d : Nat} {S : Nat → Shp} {I : Nat → Nat → Int32} {J : Nat → Nat → Int64} {R : Nat → Nat → Nat} {c : Nat × Nat} {Q : Option (Option Value) → MH → Prop} {r0 : Nat} {x1 x2 x3 : Int32} (h_r0 : LyCi S R r0) (hb37 : inb x1 40 = true) (k : X xs L (d + 1) 35 41 [.ref r0, .int (x1 + 1), .int x2, .int x3] [] (S, (u2 I (r0 + 9) x1.toNatClampNeg x3), J, R, c) Q) : X xs L (d + 1) 35 31 [.ref r0, .int x1, .int x2, .int x3] [] (S, I, J, R, c) Q := by
  refine X_aload_n (q := 0) (show decode (mB 35) 31 = .ok (.aload_n 0, 1) by decide +kernel) (pc' := 32) rfl rfl rfl ?_
  refine X_getR (ci := 1) (f := 8) (q := (r0 + 9)) (show decode (mB 35) 32 = .ok (.getfield 38, 3) by decide +kernel) (pc' := 35) rfl h_r0.s0 (by decide +kernel) rfl h_r0.r0_8 ?_
  refine X_iload_n (q := 1) (show decode (mB 35) 35 = .ok (.iload_n 1, 1) by decide +kernel) (pc' := 36) rfl rfl rfl ?_
  refine X_iload_n (q := 3) (show decode (mB 35) 36 = .ok (.iload_n 3, 1) by decide +kernel) (pc' := 37) rfl rfl rfl ?_
  refine X_iastore (show decode (mB 35) 37 = .ok (.iastore, 1) by decide +kernel) (pc' := 38) rfl h_r0.s9 hb37 ?_
  refine X_iinc (q := 1) (v := x1 + 1) (ls' := [.ref r0, .int (x1 + 1), .int x2, .int x3]) (show decode (mB 35) 38 = .ok (.iinc 1 1, 3) by decide +kernel) (pc' := 41) rfl rfl rfl rfl ?_
  exact k
set_option maxRecDepth 4000 in
theorem b_X1_putInOrder_41 {xs : Nat → Int32} {L d : Nat} {S : Nat → Shp} {I : Nat → Nat → Int32} {J : Nat → Nat → Int64} {R : Nat → Nat → Nat} {c : Nat × Nat} {Q : Option (Option Value) → MH → Prop} {r0 : Nat} {x1 x2 x3 : Int32}  (k : X xs L (d + 1) 35 14 [.ref r0, .int x1, .int x2, .int (x3 + 1)] [] (S, I, J, R, c) Q) : X xs L (d + 1) 35 41 [.ref r0, .int x1, .int x2, .int x3] [] (S, I, J, R, c) Q := by
  refine X_iinc (q := 3) (v := x3 + 1) (ls' := [.ref r0, .int x1, .int x2, .int (x3 + 1)]) (show decode (mB 35) 41 = .ok (.iinc 3 1, 3) by decide +kernel) (pc' := 44) rfl rfl rfl rfl ?_
  refine X_goto (tgt := 14) (show decode (mB 35) 44 = .ok (.goto (-30), 3) by decide +kernel) rfl ?_
  exact k
set_option maxRecDepth 4000 in
theorem b_X1_putInOrder_47 {xs : Nat → Int32} {L d : Nat} {S : Nat → Shp} {I : Nat → Nat → Int32} {J : Nat → Nat → Int64} {R : Nat → Nat → Nat} {c : Nat × Nat} {Q : Option (Option Value) → MH → Prop} {r0 : Nat} {x1 x2 x3 : Int32}  (k : X xs L (d + 1) 35 4 [.ref r0, .int x1, .int (x2 + 1), .int x3] [] (S, I, J, R, c) Q) : X xs L (d + 1) 35 47 [.ref r0, .int x1, .int x2, .int x3] [] (S, I, J, R, c) Q := by
  refine X_iinc (q := 2) (v := x2 + 1) (ls' := [.ref r0, .int x1, .int (x2 + 1), .int x3]) (show decode (mB 35) 47 = .ok (.iinc 2 1, 3) by decide +kernel) (pc' := 50) rfl rfl rfl rfl ?_
  refine X_goto (tgt := 4) (show decode (mB 35) 50 = .ok (.goto (-46), 3) by decide +kernel) rfl ?_
  exact k
set_option maxRecDepth 4000 in
theorem b_X1_putInOrder_53 {xs : Nat → Int32} {L d : Nat} {S : Nat → Shp} {I : Nat → Nat → Int32} {J : Nat → Nat → Int64} {R : Nat → Nat → Nat} {c : Nat × Nat} {Q : Option (Option Value) → MH → Prop} {r0 : Nat} {x1 x2 : Int32} {v3 : Value}  (k : Q (some none) (S, I, J, R, c)) : X xs L (d + 1) 35 53 [.ref r0, .int x1, .int x2, v3] [] (S, I, J, R, c) Q := by
  exact X_return (show decode (mB 35) 53 = .ok (.return_, 1) by decide +kernel) (by decide +kernel) k
set_option maxRecDepth 4000 in
theorem b_X1_rankOf_0 {xs : Nat → Int32} {L d : Nat} {S : Nat → Shp} {I : Nat → Nat → Int32} {J : Nat → Nat → Int64} {R : Nat → Nat → Nat} {c : Nat × Nat} {Q : Option (Option Value) → MH → Prop} {r0 : Nat} {x1 : Int32} (h_r0 : LyCi S R r0) (hb5 : inb x1 40 = true) (kt : ¬ (I (r0 + 2) x1.toNatClampNeg) = 1 → X xs L (d + 1) 36 24 [.ref r0, .int x1] [] (S, I, J, R, c) Q) (kf : ¬ (¬ (I (r0 + 2) x1.toNatClampNeg) = 1) → X xs L (d + 1) 36 10 [.ref r0, .int x1] [] (S, I, J, R, c) Q) : X xs L (d + 1) 36 0 [.ref r0, .int x1] [] (S, I, J, R, c) Q := by
  refine X_aload_n (q := 0) (show decode (mB 36) 0 = .ok (.aload_n 0, 1) by decide +kernel) (pc' := 1) rfl rfl rfl ?_
  refine X_getR (ci := 1) (f := 2) (q := (r0 + 2)) (show decode (mB 36) 1 = .ok (.getfield 15, 3) by decide +kernel) (pc' := 4) rfl h_r0.s0 (by decide +kernel) rfl h_r0.r0_2 ?_
  refine X_iload_n (q := 1) (show decode (mB 36) 4 = .ok (.iload_n 1, 1) by decide +kernel) (pc' := 5) rfl rfl rfl ?_
  refine X_iaload (w := I (r0 + 2) x1.toNatClampNeg) (show decode (mB 36) 5 = .ok (.iaload, 1) by decide +kernel) (pc' := 6) rfl h_r0.s2 hb5 rfl ?_
  refine X_iconst (v := 1) (show decode (mB 36) 6 = .ok (.iconst 1, 1) by decide +kernel) (pc' := 7) rfl rfl ?_
  exact X_icmp_ne (tgt := 24) (show decode (mB 36) 7 = .ok (.if_icmp .ne 17, 3) by decide +kernel) rfl (pc' := 10) rfl kt kf
set_option maxRecDepth 4000 in
theorem b_X1_rankOf_10 {xs : Nat → Int32} {L d : Nat} {S : Nat → Shp} {I : Nat → Nat → Int32} {J : Nat → Nat → Int64} {R : Nat → Nat → Nat} {c : Nat × Nat} {Q : Option (Option Value) → MH → Prop} {r0 : Nat} {x1 : Int32} (h_r0 : LyCi S R r0) (hb16 : inb x1 40 = true) (k : X xs L d 167 0 [.long (J (r0 + 8) x1.toNatClampNeg), .null] [] (S, I, J, R, c) (Kc xs L (d + 1) 36 20 [.ref r0, .int x1] [.int 1] Q)) : X xs L (d + 1) 36 10 [.ref r0, .int x1] [] (S, I, J, R, c) Q := by
  refine X_iconst (v := 1) (show decode (mB 36) 10 = .ok (.iconst 1, 1) by decide +kernel) (pc' := 11) rfl rfl ?_
  refine X_aload_n (q := 0) (show decode (mB 36) 11 = .ok (.aload_n 0, 1) by decide +kernel) (pc' := 12) rfl rfl rfl ?_
  refine X_getR (ci := 1) (f := 7) (q := (r0 + 8)) (show decode (mB 36) 12 = .ok (.getfield 35, 3) by decide +kernel) (pc' := 15) rfl h_r0.s0 (by decide +kernel) rfl h_r0.r0_7 ?_
  refine X_iload_n (q := 1) (show decode (mB 36) 15 = .ok (.iload_n 1, 1) by decide +kernel) (pc' := 16) rfl rfl rfl ?_
  refine X_laload (w := J (r0 + 8) x1.toNatClampNeg) (show decode (mB 36) 16 = .ok (.laload, 1) by decide +kernel) (pc' := 17) rfl h_r0.s8 hb16 rfl ?_
  exact X_callS (y := 167) (n := 1) (st := [.long (J (r0 + 8) x1.toNatClampNeg), .int 1]) (as := [.long (J (r0 + 8) x1.toNatClampNeg)]) (rest := [.int 1]) (ls0 := [.long (J (r0 + 8) x1.toNatClampNeg), .null]) (show decode (mB 36) 17 = .ok (.invokestatic 68, 3) by decide +kernel) (pc' := 20) rfl (by decide +kernel) (by decide +kernel) rfl rfl rfl rfl rfl rfl rfl rfl k
set_option maxRecDepth 4000 in
theorem b_X1_rankOf_20 {xs : Nat → Int32} {L d : Nat} {S : Nat → Shp} {I : Nat → Nat → Int32} {J : Nat → Nat → Int64} {R : Nat → Nat → Nat} {c : Nat × Nat} {Q : Option (Option Value) → MH → Prop} {r0 : Nat} {x1 sx0 sx1 : Int32}  (k : X xs L (d + 1) 36 25 [.ref r0, .int x1] [.int (sx0 + sx1)] (S, I, J, R, c) Q) : X xs L (d + 1) 36 20 [.ref r0, .int x1] [.int sx1, .int sx0] (S, I, J, R, c) Q := by
  refine X_iadd (show decode (mB 36) 20 = .ok (.iadd, 1) by decide +kernel) (pc' := 21) rfl ?_
  refine X_goto (tgt := 25) (show decode (mB 36) 21 = .ok (.goto 4, 3) by decide +kernel) rfl ?_
  exact k
set_option maxRecDepth 4000 in
theorem b_X1_rankOf_24 {xs : Nat → Int32} {L d : Nat} {S : Nat → Shp} {I : Nat → Nat → Int32} {J : Nat → Nat → Int64} {R : Nat → Nat → Nat} {c : Nat × Nat} {Q : Option (Option Value) → MH → Prop} {r0 : Nat} {x1 : Int32}  (k : X xs L (d + 1) 36 25 [.ref r0, .int x1] [.int 0] (S, I, J, R, c) Q) : X xs L (d + 1) 36 24 [.ref r0, .int x1] [] (S, I, J, R, c) Q := by
  refine X_iconst (v := 0) (show decode (mB 36) 24 = .ok (.iconst 0, 1) by decide +kernel) (pc' := 25) rfl rfl ?_
  exact k
set_option maxRecDepth 4000 in
theorem b_X1_rankOf_25 {xs : Nat → Int32} {L d : Nat} {S : Nat → Shp} {I : Nat → Nat → Int32} {J : Nat → Nat → Int64} {R : Nat → Nat → Nat} {c : Nat × Nat} {Q : Option (Option Value) → MH → Prop} {r0 : Nat} {x1 sx0 : Int32}  (k : Q (some (some (.int sx0))) (S, I, J, R, c)) : X xs L (d + 1) 36 25 [.ref r0, .int x1] [.int sx0] (S, I, J, R, c) Q := by
  exact X_ireturn (ty := .int) (show decode (mB 36) 25 = .ok (.ireturn, 1) by decide +kernel) (by decide +kernel) rfl k
set_option maxRecDepth 4000 in
theorem b_X3_clear_0 {xs : Nat → Int32} {L d : Nat} {S : Nat → Shp} {I : Nat → Nat → Int32} {J : Nat → Nat → Int64} {R : Nat → Nat → Nat} {c : Nat × Nat} {Q : Option (Option Value) → MH → Prop} {r0 : Nat} (h_r0 : LyCm S R r0) (k : Q (some none) (S, (u2 (u2 (u2 (u2 I r0 0 0) r0 2 0) r0 3 0) r0 4 0), J, R, c)) : X xs L d 46 0 [.ref r0] [] (S, I, J, R, c) Q := by
  refine X_aload_n (q := 0) (show decode (mB 46) 0 = .ok (.aload_n 0, 1) by decide +kernel) (pc' := 1) rfl rfl rfl ?_
  refine X_iconst (v := 0) (show decode (mB 46) 1 = .ok (.iconst 0, 1) by decide +kernel) (pc' := 2) rfl rfl ?_
  refine X_putI (ci := 3) (f := 0) (show decode (mB 46) 2 = .ok (.putfield 41, 3) by decide +kernel) (pc' := 5) rfl h_r0.s0 (by decide +kernel) (by decide +kernel) rfl ?_
  refine X_aload_n (q := 0) (show decode (mB 46) 5 = .ok (.aload_n 0, 1) by decide +kernel) (pc' := 6) rfl rfl rfl ?_
  refine X_iconst (v := 0) (show decode (mB 46) 6 = .ok (.iconst 0, 1) by decide +kernel) (pc' := 7) rfl rfl ?_
  refine X_putI (ci := 3) (f := 2) (show decode (mB 46) 7 = .ok (.putfield 45, 3) by decide +kernel) (pc' := 10) rfl h_r0.s0 (by decide +kernel) (by decide +kernel) rfl ?_
  refine X_aload_n (q := 0) (show decode (mB 46) 10 = .ok (.aload_n 0, 1) by decide +kernel) (pc' := 11) rfl rfl rfl ?_
  refine X_iconst (v := 0) (show decode (mB 46) 11 = .ok (.iconst 0, 1) by decide +kernel) (pc' := 12) rfl rfl ?_
  refine X_putI (ci := 3) (f := 3) (show decode (mB 46) 12 = .ok (.putfield 48, 3) by decide +kernel) (pc' := 15) rfl h_r0.s0 (by decide +kernel) (by decide +kernel) rfl ?_
  refine X_aload_n (q := 0) (show decode (mB 46) 15 = .ok (.aload_n 0, 1) by decide +kernel) (pc' := 16) rfl rfl rfl ?_
  refine X_iconst (v := 0) (show decode (mB 46) 16 = .ok (.iconst 0, 1) by decide +kernel) (pc' := 17) rfl rfl ?_
  refine X_putI (ci := 3) (f := 4) (show decode (mB 46) 17 = .ok (.putfield 51, 3) by decide +kernel) (pc' := 20) rfl h_r0.s0 (by decide +kernel) (by decide +kernel) rfl ?_
  exact X_return (show decode (mB 46) 20 = .ok (.return_, 1) by decide +kernel) (by decide +kernel) k
set_option maxRecDepth 4000 in
theorem b_X3_variable_0 {xs : Nat → Int32} {L d : Nat} {S : Nat → Shp} {I : Nat → Nat → Int32} {J : Nat → Nat → Int64} {R : Nat → Nat → Nat} {c : Nat × Nat} {Q : Option (Option Value) → MH → Prop} {r0 : Nat} {y1 : Int64}  (k : X xs L d 47 2 [.ref r0, .long y1, .null, .int 0] [] (S, I, J, R, c) Q) : X xs L d 47 0 [.ref r0, .long y1, .null, .null] [] (S, I, J, R, c) Q := by
  refine X_iconst (v := 0) (show decode (mB 47) 0 = .ok (.iconst 0, 1) by decide +kernel) (pc' := 1) rfl rfl ?_
  refine X_istore_n (q := 3) (ls' := [.ref r0, .long y1, .null, .int 0]) (show decode (mB 47) 1 = .ok (.istore_n 3, 1) by decide +kernel) (pc' := 2) rfl rfl rfl ?_
  exact k
set_option maxRecDepth 4000 in
theorem b_X3_variable_2 {xs : Nat → Int32} {L d : Nat} {S : Nat → Shp} {I : Nat → Nat → Int32} {J : Nat → Nat → Int64} {R : Nat → Nat → Nat} {c : Nat × Nat} {Q : Option (Option Value) → MH → Prop} {r0 : Nat} {y1 : Int64} {x3 : Int32} (h_r0 : LyCm S R r0) (kt : (I r0 0) ≤ x3 → X xs L d 47 29 [.ref r0, .long y1, .null, .int x3] [] (S, I, J, R, c) Q) (kf : ¬ ((I r0 0) ≤ x3) → X xs L d 47 10 [.ref r0, .long y1, .null, .int x3] [] (S, I, J, R, c) Q) : X xs L d 47 2 [.ref r0, .long y1, .null, .int x3] [] (S, I, J, R, c) Q := by
  refine X_iload_n (q := 3) (show decode (mB 47) 2 = .ok (.iload_n 3, 1) by decide +kernel) (pc' := 3) rfl rfl rfl ?_
  refine X_aload_n (q := 0) (show decode (mB 47) 3 = .ok (.aload_n 0, 1) by decide +kernel) (pc' := 4) rfl rfl rfl ?_
  refine X_getI (ci := 3) (f := 0) (x := I r0 0) (show decode (mB 47) 4 = .ok (.getfield 41, 3) by decide +kernel) (pc' := 7) rfl h_r0.s0 (by decide +kernel) rfl rfl ?_
  exact X_icmp_ge (tgt := 29) (show decode (mB 47) 7 = .ok (.if_icmp .ge 22, 3) by decide +kernel) rfl (pc' := 10) rfl kt kf
set_option maxRecDepth 4000 in
theorem b_X3_variable_10 {xs : Nat → Int32} {L d : Nat} {S : Nat → Shp} {I : Nat → Nat → Int32} {J : Nat → Nat → Int64} {R : Nat → Nat → Nat} {c : Nat × Nat} {Q : Option (Option Value) → MH → Prop} {r0 : Nat} {y1 : Int64} {x3 : Int32} (h_r0 : LyCm S R r0) (hb15 : inb x3 9 = true) (kt : ¬ (lg_cmp (J (r0 + 1) x3.toNatClampNeg) y1) = 0 → X xs L d 47 23 [.ref r0, .long y1, .null, .int x3] [] (S, I, J, R, c) Q) (kf : ¬ (¬ (lg_cmp (J (r0 + 1) x3.toNatClampNeg) y1) = 0) → X xs L d 47 21 [.ref r0, .long y1, .null, .int x3] [] (S, I, J, R, c) Q) : X xs L d 47 10 [.ref r0, .long y1, .null, .int x3] [] (S, I, J, R, c) Q := by
  refine X_aload_n (q := 0) (show decode (mB 47) 10 = .ok (.aload_n 0, 1) by decide +kernel) (pc' := 11) rfl rfl rfl ?_
  refine X_getR (ci := 3) (f := 1) (q := (r0 + 1)) (show decode (mB 47) 11 = .ok (.getfield 11, 3) by decide +kernel) (pc' := 14) rfl h_r0.s0 (by decide +kernel) rfl h_r0.r0_1 ?_
  refine X_iload_n (q := 3) (show decode (mB 47) 14 = .ok (.iload_n 3, 1) by decide +kernel) (pc' := 15) rfl rfl rfl ?_
  refine X_laload (w := J (r0 + 1) x3.toNatClampNeg) (show decode (mB 47) 15 = .ok (.laload, 1) by decide +kernel) (pc' := 16) rfl h_r0.s1 hb15 rfl ?_
  refine X_lload_n (q := 1) (show decode (mB 47) 16 = .ok (.lload_n 1, 1) by decide +kernel) (pc' := 17) rfl rfl rfl ?_
  refine X_lcmp (show decode (mB 47) 17 = .ok (.lcmp, 1) by decide +kernel) (pc' := 18) rfl ?_
  exact X_if_ne (tgt := 23) (show decode (mB 47) 18 = .ok (.ifCond .ne 5, 3) by decide +kernel) rfl (pc' := 21) rfl kt kf
set_option maxRecDepth 4000 in
theorem b_X3_variable_21 {xs : Nat → Int32} {L d : Nat} {S : Nat → Shp} {I : Nat → Nat → Int32} {J : Nat → Nat → Int64} {R : Nat → Nat → Nat} {c : Nat × Nat} {Q : Option (Option Value) → MH → Prop} {r0 : Nat} {y1 : Int64} {x3 : Int32}  (k : Q (some (some (.int x3))) (S, I, J, R, c)) : X xs L d 47 21 [.ref r0, .long y1, .null, .int x3] [] (S, I, J, R, c) Q := by
  refine X_iload_n (q := 3) (show decode (mB 47) 21 = .ok (.iload_n 3, 1) by decide +kernel) (pc' := 22) rfl rfl rfl ?_
  exact X_ireturn (ty := .int) (show decode (mB 47) 22 = .ok (.ireturn, 1) by decide +kernel) (by decide +kernel) rfl k
set_option maxRecDepth 4000 in
theorem b_X3_variable_23 {xs : Nat → Int32} {L d : Nat} {S : Nat → Shp} {I : Nat → Nat → Int32} {J : Nat → Nat → Int64} {R : Nat → Nat → Nat} {c : Nat × Nat} {Q : Option (Option Value) → MH → Prop} {r0 : Nat} {y1 : Int64} {x3 : Int32}  (k : X xs L d 47 2 [.ref r0, .long y1, .null, .int (x3 + 1)] [] (S, I, J, R, c) Q) : X xs L d 47 23 [.ref r0, .long y1, .null, .int x3] [] (S, I, J, R, c) Q := by
  refine X_iinc (q := 3) (v := x3 + 1) (ls' := [.ref r0, .long y1, .null, .int (x3 + 1)]) (show decode (mB 47) 23 = .ok (.iinc 3 1, 3) by decide +kernel) (pc' := 26) rfl rfl rfl rfl ?_
  refine X_goto (tgt := 2) (show decode (mB 47) 26 = .ok (.goto (-24), 3) by decide +kernel) rfl ?_
  exact k
set_option maxRecDepth 4000 in
theorem b_X3_variable_29 {xs : Nat → Int32} {L d : Nat} {S : Nat → Shp} {I : Nat → Nat → Int32} {J : Nat → Nat → Int64} {R : Nat → Nat → Nat} {c : Nat × Nat} {Q : Option (Option Value) → MH → Prop} {r0 : Nat} {y1 : Int64} {x3 : Int32} (h_r0 : LyCm S R r0) (kt : (I r0 0) < 9 → X xs L d 47 41 [.ref r0, .long y1, .null, .int x3] [] (S, I, J, R, c) Q) (kf : ¬ ((I r0 0) < 9) → X xs L d 47 38 [.ref r0, .long y1, .null, .int x3] [] (S, I, J, R, c) Q) : X xs L d 47 29 [.ref r0, .long y1, .null, .int x3] [] (S, I, J, R, c) Q := by
  refine X_aload_n (q := 0) (show decode (mB 47) 29 = .ok (.aload_n 0, 1) by decide +kernel) (pc' := 30) rfl rfl rfl ?_
  refine X_getI (ci := 3) (f := 0) (x := I r0 0) (show decode (mB 47) 30 = .ok (.getfield 41, 3) by decide +kernel) (pc' := 33) rfl h_r0.s0 (by decide +kernel) rfl rfl ?_
  refine X_bipush (v := 9) (show decode (mB 47) 33 = .ok (.bipush 9, 2) by decide +kernel) (pc' := 35) rfl (by decide +kernel) ?_
  exact X_icmp_lt (tgt := 41) (show decode (mB 47) 35 = .ok (.if_icmp .lt 6, 3) by decide +kernel) rfl (pc' := 38) rfl kt kf
set_option maxRecDepth 4000 in
theorem b_X3_variable_38 {xs : Nat → Int32} {L d : Nat} {S : Nat → Shp} {I : Nat → Nat → Int32} {J : Nat → Nat → Int64} {R : Nat → Nat → Nat} {c : Nat × Nat} {Q : Option (Option Value) → MH → Prop} {r0 : Nat} {y1 : Int64} {x3 : Int32}  (k : Q (some (some (.int (-2)))) (S, I, J, R, c)) : X xs L d 47 38 [.ref r0, .long y1, .null, .int x3] [] (S, I, J, R, c) Q := by
  refine X_bipush (v := (-2)) (show decode (mB 47) 38 = .ok (.bipush (-2), 2) by decide +kernel) (pc' := 40) rfl (by decide +kernel) ?_
  exact X_ireturn (ty := .int) (show decode (mB 47) 40 = .ok (.ireturn, 1) by decide +kernel) (by decide +kernel) rfl k
set_option maxRecDepth 4000 in
theorem b_X3_variable_41 {xs : Nat → Int32} {L d : Nat} {S : Nat → Shp} {I : Nat → Nat → Int32} {J : Nat → Nat → Int64} {R : Nat → Nat → Nat} {c : Nat × Nat} {Q : Option (Option Value) → MH → Prop} {r0 : Nat} {y1 : Int64} {x3 : Int32} (h_r0 : LyCm S R r0) (hb50 : inb (I r0 0) 9 = true) (k : Q (some (some (.int (((I r0 0) + 1) - 1)))) (S, (u2 I r0 0 ((I r0 0) + 1)), (u2 J (r0 + 1) ((I r0 0).toNatClampNeg) y1), R, c)) : X xs L d 47 41 [.ref r0, .long y1, .null, .int x3] [] (S, I, J, R, c) Q := by
  refine X_aload_n (q := 0) (show decode (mB 47) 41 = .ok (.aload_n 0, 1) by decide +kernel) (pc' := 42) rfl rfl rfl ?_
  refine X_getR (ci := 3) (f := 1) (q := (r0 + 1)) (show decode (mB 47) 42 = .ok (.getfield 11, 3) by decide +kernel) (pc' := 45) rfl h_r0.s0 (by decide +kernel) rfl h_r0.r0_1 ?_
  refine X_aload_n (q := 0) (show decode (mB 47) 45 = .ok (.aload_n 0, 1) by decide +kernel) (pc' := 46) rfl rfl rfl ?_
  refine X_getI (ci := 3) (f := 0) (x := I r0 0) (show decode (mB 47) 46 = .ok (.getfield 41, 3) by decide +kernel) (pc' := 49) rfl h_r0.s0 (by decide +kernel) rfl rfl ?_
  refine X_lload_n (q := 1) (show decode (mB 47) 49 = .ok (.lload_n 1, 1) by decide +kernel) (pc' := 50) rfl rfl rfl ?_
  refine X_lastore (show decode (mB 47) 50 = .ok (.lastore, 1) by decide +kernel) (pc' := 51) rfl h_r0.s1 hb50 ?_
  refine X_aload_n (q := 0) (show decode (mB 47) 51 = .ok (.aload_n 0, 1) by decide +kernel) (pc' := 52) rfl rfl rfl ?_
  refine X_dup (show decode (mB 47) 52 = .ok (.dup, 1) by decide +kernel) (pc' := 53) rfl rfl ?_
  refine X_getI (ci := 3) (f := 0) (x := I r0 0) (show decode (mB 47) 53 = .ok (.getfield 41, 3) by decide +kernel) (pc' := 56) rfl h_r0.s0 (by decide +kernel) rfl rfl ?_
  refine X_iconst (v := 1) (show decode (mB 47) 56 = .ok (.iconst 1, 1) by decide +kernel) (pc' := 57) rfl rfl ?_
  refine X_iadd (show decode (mB 47) 57 = .ok (.iadd, 1) by decide +kernel) (pc' := 58) rfl ?_
  refine X_putI (ci := 3) (f := 0) (show decode (mB 47) 58 = .ok (.putfield 41, 3) by decide +kernel) (pc' := 61) rfl h_r0.s0 (by decide +kernel) (by decide +kernel) rfl ?_
  refine X_aload_n (q := 0) (show decode (mB 47) 61 = .ok (.aload_n 0, 1) by decide +kernel) (pc' := 62) rfl rfl rfl ?_
  refine X_getI (ci := 3) (f := 0) (x := (I r0 0) + 1) (show decode (mB 47) 62 = .ok (.getfield 41, 3) by decide +kernel) (pc' := 65) rfl h_r0.s0 (by decide +kernel) rfl (by simp [u2, u1]) ?_
  refine X_iconst (v := 1) (show decode (mB 47) 65 = .ok (.iconst 1, 1) by decide +kernel) (pc' := 66) rfl rfl ?_
  refine X_isub (show decode (mB 47) 66 = .ok (.isub, 1) by decide +kernel) (pc' := 67) rfl ?_
  exact X_ireturn (ty := .int) (show decode (mB 47) 67 = .ok (.ireturn, 1) by decide +kernel) (by decide +kernel) rfl k
set_option maxRecDepth 4000 in
theorem b_X3_setTimes_0 {xs : Nat → Int32} {L d : Nat} {S : Nat → Shp} {I : Nat → Nat → Int32} {J : Nat → Nat → Int64} {R : Nat → Nat → Nat} {c : Nat × Nat} {Q : Option (Option Value) → MH → Prop} {r0 : Nat} {x1 x2 x3 : Int32} (h_r0 : LyCm S R r0) (hb6 : inb x1 48 = true) (hb13 : inb x1 48 = true) (k : Q (some none) (S, (u2 (u2 (u2 I (r0 + 3) x1.toNatClampNeg x2) (r0 + 4) x1.toNatClampNeg x3) r0 4 (if (I r0 4) < x3 then x3 else I r0 4)), J, R, c)) : X xs L (d + 1) 48 0 [.ref r0, .int x1, .int x2, .int x3] [] (S, I, J, R, c) Q := by
  refine X_aload_n (q := 0) (show decode (mB 48) 0 = .ok (.aload_n 0, 1) by decide +kernel) (pc' := 1) rfl rfl rfl ?_
  refine X_getR (ci := 3) (f := 6) (q := (r0 + 3)) (show decode (mB 48) 1 = .ok (.getfield 19, 3) by decide +kernel) (pc' := 4) rfl h_r0.s0 (by decide +kernel) rfl h_r0.r0_6 ?_
  refine X_iload_n (q := 1) (show decode (mB 48) 4 = .ok (.iload_n 1, 1) by decide +kernel) (pc' := 5) rfl rfl rfl ?_
  refine X_iload_n (q := 2) (show decode (mB 48) 5 = .ok (.iload_n 2, 1) by decide +kernel) (pc' := 6) rfl rfl rfl ?_
  refine X_iastore (show decode (mB 48) 6 = .ok (.iastore, 1) by decide +kernel) (pc' := 7) rfl h_r0.s3 hb6 ?_
  refine X_aload_n (q := 0) (show decode (mB 48) 7 = .ok (.aload_n 0, 1) by decide +kernel) (pc' := 8) rfl rfl rfl ?_
  refine X_getR (ci := 3) (f := 7) (q := (r0 + 4)) (show decode (mB 48) 8 = .ok (.getfield 22, 3) by decide +kernel) (pc' := 11) rfl h_r0.s0 (by decide +kernel) rfl h_r0.r0_7 ?_
  refine X_iload_n (q := 1) (show decode (mB 48) 11 = .ok (.iload_n 1, 1) by decide +kernel) (pc' := 12) rfl rfl rfl ?_
  refine X_iload_n (q := 3) (show decode (mB 48) 12 = .ok (.iload_n 3, 1) by decide +kernel) (pc' := 13) rfl rfl rfl ?_
  refine X_iastore (show decode (mB 48) 13 = .ok (.iastore, 1) by decide +kernel) (pc' := 14) rfl h_r0.s4 hb13 ?_
  refine X_aload_n (q := 0) (show decode (mB 48) 14 = .ok (.aload_n 0, 1) by decide +kernel) (pc' := 15) rfl rfl rfl ?_
  refine X_aload_n (q := 0) (show decode (mB 48) 15 = .ok (.aload_n 0, 1) by decide +kernel) (pc' := 16) rfl rfl rfl ?_
  refine X_getI (ci := 3) (f := 4) (x := I r0 4) (show decode (mB 48) 16 = .ok (.getfield 51, 3) by decide +kernel) (pc' := 19) rfl h_r0.s0 (by decide +kernel) rfl (by simp [u2, u1]) ?_
  refine X_iload_n (q := 3) (show decode (mB 48) 19 = .ok (.iload_n 3, 1) by decide +kernel) (pc' := 20) rfl rfl rfl ?_
  refine X_max (show decode (mB 48) 20 = .ok (.invokestatic 54, 3) by decide +kernel) (pc' := 23) rfl (by decide +kernel) ⟨Nat.le_add_left 1 d, Nat.le_of_ble_eq_true rfl⟩ ?_
  refine X_putI (ci := 3) (f := 4) (show decode (mB 48) 23 = .ok (.putfield 51, 3) by decide +kernel) (pc' := 26) rfl h_r0.s0 (by decide +kernel) (by decide +kernel) rfl ?_
  exact X_return (show decode (mB 48) 26 = .ok (.return_, 1) by decide +kernel) (by decide +kernel) k
set_option maxRecDepth 4000 in
theorem b_X7_run_0 {xs : Nat → Int32} {L d : Nat} {S : Nat → Shp} {I : Nat → Nat → Int32} {J : Nat → Nat → Int64} {R : Nat → Nat → Nat} {c : Nat × Nat} {Q : Option (Option Value) → MH → Prop} {r1 r4 r5 : Nat} {x2 x3 x6 : Int32} (hL : Lay S R)  (k : X xs L (d + 1) 72 8 [.ref 14, .ref r1, .int x2, .int x3, .ref r4, .ref r5, .int x6, .int x2, .null] [] (S, (u2 I 14 2 0), J, R, c) Q) : X xs L (d + 1) 72 0 [.ref 14, .ref r1, .int x2, .int x3, .ref r4, .ref r5, .int x6, .null, .null] [] (S, I, J, R, c) Q := by
  refine X_aload_n (q := 0) (show decode (mB 72) 0 = .ok (.aload_n 0, 1) by decide +kernel) (pc' := 1) rfl rfl rfl ?_
  refine X_iconst (v := 0) (show decode (mB 72) 1 = .ok (.iconst 0, 1) by decide +kernel) (pc' := 2) rfl rfl ?_
  refine X_putI (ci := 6) (f := 2) (show decode (mB 72) 2 = .ok (.putfield 16, 3) by decide +kernel) (pc' := 5) rfl (ls_14 hL) (by decide +kernel) (by decide +kernel) rfl ?_
  refine X_iload_n (q := 2) (show decode (mB 72) 5 = .ok (.iload_n 2, 1) by decide +kernel) (pc' := 6) rfl rfl rfl ?_
  refine X_istore (q := 7) (ls' := [.ref 14, .ref r1, .int x2, .int x3, .ref r4, .ref r5, .int x6, .int x2, .null]) (show decode (mB 72) 6 = .ok (.istore 7, 2) by decide +kernel) (pc' := 8) rfl rfl ?_
  exact k
set_option maxRecDepth 4000 in
theorem b_X7_run_8 {xs : Nat → Int32} {L d : Nat} {S : Nat → Shp} {I : Nat → Nat → Int32} {J : Nat → Nat → Int64} {R : Nat → Nat → Nat} {c : Nat × Nat} {Q : Option (Option Value) → MH → Prop} {r1 r4 r5 : Nat} {x2 x3 x6 x7 : Int32} {v8 : Value}  (kt : x3 ≤ x7 → X xs L (d + 1) 72 63 [.ref 14, .ref r1, .int x2, .int x3, .ref r4, .ref r5, .int x6, .int x7, v8] [] (S, I, J, R, c) Q) (kf : ¬ (x3 ≤ x7) → X xs L (d + 1) 72 14 [.ref 14, .ref r1, .int x2, .int x3, .ref r4, .ref r5, .int x6, .int x7, v8] [] (S, I, J, R, c) Q) : X xs L (d + 1) 72 8 [.ref 14, .ref r1, .int x2, .int x3, .ref r4, .ref r5, .int x6, .int x7, v8] [] (S, I, J, R, c) Q := by
  refine X_iload (q := 7) (show decode (mB 72) 8 = .ok (.iload 7, 2) by decide +kernel) (pc' := 10) rfl rfl ?_
  refine X_iload_n (q := 3) (show decode (mB 72) 10 = .ok (.iload_n 3, 1) by decide +kernel) (pc' := 11) rfl rfl rfl ?_
  exact X_icmp_ge (tgt := 63) (show decode (mB 72) 11 = .ok (.if_icmp .ge 52, 3) by decide +kernel) rfl (pc' := 14) rfl kt kf
set_option maxRecDepth 4000 in
theorem b_X7_run_14 {xs : Nat → Int32} {L d : Nat} {S : Nat → Shp} {I : Nat → Nat → Int32} {J : Nat → Nat → Int64} {R : Nat → Nat → Nat} {c : Nat × Nat} {Q : Option (Option Value) → MH → Prop} {r1 r4 r5 : Nat} {x2 x3 x6 x7 : Int32} {v8 : Value} (h_r1 : LyCd S R r1) (k : X xs L d 58 0 [.ref r1, .int x7] [] (S, I, J, R, c) (Kc xs L (d + 1) 72 20 [.ref 14, .ref r1, .int x2, .int x3, .ref r4, .ref r5, .int x6, .int x7, v8] [] Q)) : X xs L (d + 1) 72 14 [.ref 14, .ref r1, .int x2, .int x3, .ref r4, .ref r5, .int x6, .int x7, v8] [] (S, I, J, R, c) Q := by
  refine X_aload_n (q := 1) (show decode (mB 72) 14 = .ok (.aload_n 1, 1) by decide +kernel) (pc' := 15) rfl rfl rfl ?_
  refine X_iload (q := 7) (show decode (mB 72) 15 = .ok (.iload 7, 2) by decide +kernel) (pc' := 17) rfl rfl ?_
  exact X_callV (y := 58) (n := 1) (st := [.int x7, .ref r1]) (as := [.ref r1, .int x7]) (rest := []) (ls0 := [.ref r1, .int x7]) (ci := 5) (show decode (mB 72) 17 = .ok (.invokevirtual 20, 3) by decide +kernel) (pc' := 20) rfl (by decide +kernel) (by decide +kernel) rfl h_r1.s0 (by decide +kernel) rfl rfl rfl rfl rfl k
set_option maxRecDepth 4000 in
theorem b_X7_run_20 {xs : Nat → Int32} {L d : Nat} {S : Nat → Shp} {I : Nat → Nat → Int32} {J : Nat → Nat → Int64} {R : Nat → Nat → Nat} {c : Nat × Nat} {Q : Option (Option Value) → MH → Prop} {r1 r4 r5 : Nat} {x2 x3 x6 x7 sx0 : Int32} {v8 : Value}  (kt : sx0 < 0 → X xs L (d + 1) 72 50 [.ref 14, .ref r1, .int x2, .int x3, .ref r4, .ref r5, .int x6, .int x7, .int sx0] [] (S, I, J, R, c) Q) (kf : ¬ (sx0 < 0) → X xs L (d + 1) 72 27 [.ref 14, .ref r1, .int x2, .int x3, .ref r4, .ref r5, .int x6, .int x7, .int sx0] [] (S, I, J, R, c) Q) : X xs L (d + 1) 72 20 [.ref 14, .ref r1, .int x2, .int x3, .ref r4, .ref r5, .int x6, .int x7, v8] [.int sx0] (S, I, J, R, c) Q := by
  refine X_istore (q := 8) (ls' := [.ref 14, .ref r1, .int x2, .int x3, .ref r4, .ref r5, .int x6, .int x7, .int sx0]) (show decode (mB 72) 20 = .ok (.istore 8, 2) by decide +kernel) (pc' := 22) rfl rfl ?_
  refine X_iload (q := 8) (show decode (mB 72) 22 = .ok (.iload 8, 2) by decide +kernel) (pc' := 24) rfl rfl ?_
  exact X_if_lt (tgt := 50) (show decode (mB 72) 24 = .ok (.ifCond .lt 26, 3) by decide +kernel) rfl (pc' := 27) rfl kt kf
set_option maxRecDepth 4000 in
theorem b_X7_run_27 {xs : Nat → Int32} {L d : Nat} {S : Nat → Shp} {I : Nat → Nat → Int32} {J : Nat → Nat → Int64} {R : Nat → Nat → Nat} {c : Nat × Nat} {Q : Option (Option Value) → MH → Prop} {r1 r4 r5 n_r4 n_r5 : Nat} {x2 x3 x6 x7 x8 : Int32} (hL : Lay S R) (hs_r4 : S r4 = .inr (.long, n_r4)) (hb35 : inb (x6 + x8) n_r4 = true) (hs_r5 : S r5 = .inr (.long, n_r5)) (hb43 : inb (x6 + x8) n_r5 = true) (k : X xs L d 75 0 [.ref 14, .long (J r4 (x6 + x8).toNatClampNeg), .null, .long (J r5 (x6 + x8).toNatClampNeg), .null] [] (S, I, J, R, c) (Kc xs L (d + 1) 72 47 [.ref 14, .ref r1, .int x2, .int x3, .ref r4, .ref r5, .int x6, .int x7, .int x8] [] Q)) : X xs L (d + 1) 72 27 [.ref 14, .ref r1, .int x2, .int x3, .ref r4, .ref r5, .int x6, .int x7, .int x8] [] (S, I, J, R, c) Q := by
  refine X_aload_n (q := 0) (show decode (mB 72) 27 = .ok (.aload_n 0, 1) by decide +kernel) (pc' := 28) rfl rfl rfl ?_
  refine X_aload (q := 4) (show decode (mB 72) 28 = .ok (.aload 4, 2) by decide +kernel) (pc' := 30) rfl rfl ?_
  refine X_iload (q := 6) (show decode (mB 72) 30 = .ok (.iload 6, 2) by decide +kernel) (pc' := 32) rfl rfl ?_
  refine X_iload (q := 8) (show decode (mB 72) 32 = .ok (.iload 8, 2) by decide +kernel) (pc' := 34) rfl rfl ?_
  refine X_iadd (show decode (mB 72) 34 = .ok (.iadd, 1) by decide +kernel) (pc' := 35) rfl ?_
  refine X_laload (w := J r4 (x6 + x8).toNatClampNeg) (show decode (mB 72) 35 = .ok (.laload, 1) by decide +kernel) (pc' := 36) rfl hs_r4 hb35 rfl ?_
  refine X_aload (q := 5) (show decode (mB 72) 36 = .ok (.aload 5, 2) by decide +kernel) (pc' := 38) rfl rfl ?_
  refine X_iload (q := 6) (show decode (mB 72) 38 = .ok (.iload 6, 2) by decide +kernel) (pc' := 40) rfl rfl ?_
  refine X_iload (q := 8) (show decode (mB 72) 40 = .ok (.iload 8, 2) by decide +kernel) (pc' := 42) rfl rfl ?_
  refine X_iadd (show decode (mB 72) 42 = .ok (.iadd, 1) by decide +kernel) (pc' := 43) rfl ?_
  refine X_laload (w := J r5 (x6 + x8).toNatClampNeg) (show decode (mB 72) 43 = .ok (.laload, 1) by decide +kernel) (pc' := 44) rfl hs_r5 hb43 rfl ?_
  exact X_callV (y := 75) (n := 2) (st := [.long (J r5 (x6 + x8).toNatClampNeg), .long (J r4 (x6 + x8).toNatClampNeg), .ref 14]) (as := [.ref 14, .long (J r4 (x6 + x8).toNatClampNeg), .long (J r5 (x6 + x8).toNatClampNeg)]) (rest := []) (ls0 := [.ref 14, .long (J r4 (x6 + x8).toNatClampNeg), .null, .long (J r5 (x6 + x8).toNatClampNeg), .null]) (ci := 6) (show decode (mB 72) 44 = .ok (.invokevirtual 26, 3) by decide +kernel) (pc' := 47) rfl (by decide +kernel) (by decide +kernel) rfl (ls_14 hL) (by decide +kernel) rfl rfl rfl rfl rfl k
set_option maxRecDepth 4000 in
theorem b_X7_run_47 {xs : Nat → Int32} {L d : Nat} {S : Nat → Shp} {I : Nat → Nat → Int32} {J : Nat → Nat → Int64} {R : Nat → Nat → Nat} {c : Nat × Nat} {Q : Option (Option Value) → MH → Prop} {r1 r4 r5 : Nat} {x2 x3 x6 x7 x8 : Int32}  (k : X xs L (d + 1) 72 57 [.ref 14, .ref r1, .int x2, .int x3, .ref r4, .ref r5, .int x6, .int x7, .int x8] [] (S, I, J, R, c) Q) : X xs L (d + 1) 72 47 [.ref 14, .ref r1, .int x2, .int x3, .ref r4, .ref r5, .int x6, .int x7, .int x8] [] (S, I, J, R, c) Q := by
  refine X_goto (tgt := 57) (show decode (mB 72) 47 = .ok (.goto 10, 3) by decide +kernel) rfl ?_
  exact k
set_option maxRecDepth 4000 in
theorem b_X7_run_50 {xs : Nat → Int32} {L d : Nat} {S : Nat → Shp} {I : Nat → Nat → Int32} {J : Nat → Nat → Int64} {R : Nat → Nat → Nat} {c : Nat × Nat} {Q : Option (Option Value) → MH → Prop} {r1 r4 r5 : Nat} {x2 x3 x6 x7 x8 : Int32} (hL : Lay S R)  (k : X xs L d 76 0 [.ref 14, .int (-x8)] [] (S, I, J, R, c) (Kc xs L (d + 1) 72 57 [.ref 14, .ref r1, .int x2, .int x3, .ref r4, .ref r5, .int x6, .int x7, .int x8] [] Q)) : X xs L (d + 1) 72 50 [.ref 14, .ref r1, .int x2, .int x3, .ref r4, .ref r5, .int x6, .int x7, .int x8] [] (S, I, J, R, c) Q := by
  refine X_aload_n (q := 0) (show decode (mB 72) 50 = .ok (.aload_n 0, 1) by decide +kernel) (pc' := 51) rfl rfl rfl ?_
  refine X_iload (q := 8) (show decode (mB 72) 51 = .ok (.iload 8, 2) by decide +kernel) (pc' := 53) rfl rfl ?_
  refine X_ineg (show decode (mB 72) 53 = .ok (.ineg, 1) by decide +kernel) (pc' := 54) rfl ?_
  exact X_callV (y := 76) (n := 1) (st := [.int (-x8), .ref 14]) (as := [.ref 14, .int (-x8)]) (rest := []) (ls0 := [.ref 14, .int (-x8)]) (ci := 6) (show decode (mB 72) 54 = .ok (.invokevirtual 30, 3) by decide +kernel) (pc' := 57) rfl (by decide +kernel) (by decide +kernel) rfl (ls_14 hL) (by decide +kernel) rfl rfl rfl rfl rfl k
set_option maxRecDepth 4000 in
theorem b_X7_run_57 {xs : Nat → Int32} {L d : Nat} {S : Nat → Shp} {I : Nat → Nat → Int32} {J : Nat → Nat → Int64} {R : Nat → Nat → Nat} {c : Nat × Nat} {Q : Option (Option Value) → MH → Prop} {r1 r4 r5 : Nat} {x2 x3 x6 x7 x8 : Int32}  (k : X xs L (d + 1) 72 8 [.ref 14, .ref r1, .int x2, .int x3, .ref r4, .ref r5, .int x6, .int (x7 + 1), .int x8] [] (S, I, J, R, c) Q) : X xs L (d + 1) 72 57 [.ref 14, .ref r1, .int x2, .int x3, .ref r4, .ref r5, .int x6, .int x7, .int x8] [] (S, I, J, R, c) Q := by
  refine X_iinc (q := 7) (v := x7 + 1) (ls' := [.ref 14, .ref r1, .int x2, .int x3, .ref r4, .ref r5, .int x6, .int (x7 + 1), .int x8]) (show decode (mB 72) 57 = .ok (.iinc 7 1, 3) by decide +kernel) (pc' := 60) rfl rfl rfl rfl ?_
  refine X_goto (tgt := 8) (show decode (mB 72) 60 = .ok (.goto (-52), 3) by decide +kernel) rfl ?_
  exact k
set_option maxRecDepth 4000 in
theorem b_X7_run_63 {xs : Nat → Int32} {L d : Nat} {S : Nat → Shp} {I : Nat → Nat → Int32} {J : Nat → Nat → Int64} {R : Nat → Nat → Nat} {c : Nat × Nat} {Q : Option (Option Value) → MH → Prop} {r1 r4 r5 : Nat} {x2 x3 x6 x7 : Int32} {v8 : Value}  (k : Q (some none) (S, I, J, R, c)) : X xs L (d + 1) 72 63 [.ref 14, .ref r1, .int x2, .int x3, .ref r4, .ref r5, .int x6, .int x7, v8] [] (S, I, J, R, c) Q := by
  exact X_return (show decode (mB 72) 63 = .ok (.return_, 1) by decide +kernel) (by decide +kernel) k
set_option maxRecDepth 4000 in
theorem b_X7_ones_0 {xs : Nat → Int32} {L d : Nat} {S : Nat → Shp} {I : Nat → Nat → Int32} {J : Nat → Nat → Int64} {R : Nat → Nat → Nat} {c : Nat × Nat} {Q : Option (Option Value) → MH → Prop}  (hL : Lay S R)  (kt : (I 14 2) ≤ 0 → X xs L d 73 21 [.ref 14] [] (S, I, J, R, c) Q) (kf : ¬ ((I 14 2) ≤ 0) → X xs L d 73 7 [.ref 14] [] (S, I, J, R, c) Q) : X xs L d 73 0 [.ref 14] [] (S, I, J, R, c) Q := by
  refine X_aload_n (q := 0) (show decode (mB 73) 0 = .ok (.aload_n 0, 1) by decide +kernel) (pc' := 1) rfl rfl rfl ?_
  refine X_getI (ci := 6) (f := 2) (x := I 14 2) (show decode (mB 73) 1 = .ok (.getfield 16, 3) by decide +kernel) (pc' := 4) rfl (ls_14 hL) (by decide +kernel) rfl rfl ?_
  exact X_if_le (tgt := 21) (show decode (mB 73) 4 = .ok (.ifCond .le 17, 3) by decide +kernel) rfl (pc' := 7) rfl kt kf
set_option maxRecDepth 4000 in
theorem b_X7_ones_7 {xs : Nat → Int32} {L d : Nat} {S : Nat → Shp} {I : Nat → Nat → Int32} {J : Nat → Nat → Int64} {R : Nat → Nat → Nat} {c : Nat × Nat} {Q : Option (Option Value) → MH → Prop}  (hL : Lay S R) (hb17 : inb ((I 14 2) - 1) 64 = true) (k : X xs L d 73 22 [.ref 14] [.long (J 15 ((I 14 2) - 1).toNatClampNeg)] (S, I, J, R, c) Q) : X xs L d 73 7 [.ref 14] [] (S, I, J, R, c) Q := by
  refine X_aload_n (q := 0) (show decode (mB 73) 7 = .ok (.aload_n 0, 1) by decide +kernel) (pc' := 8) rfl rfl rfl ?_
  refine X_getR (ci := 6) (f := 0) (q := 15) (show decode (mB 73) 8 = .ok (.getfield 9, 3) by decide +kernel) (pc' := 11) rfl (ls_14 hL) (by decide +kernel) rfl (lr_14_0 hL) ?_
  refine X_aload_n (q := 0) (show decode (mB 73) 11 = .ok (.aload_n 0, 1) by decide +kernel) (pc' := 12) rfl rfl rfl ?_
  refine X_getI (ci := 6) (f := 2) (x := I 14 2) (show decode (mB 73) 12 = .ok (.getfield 16, 3) by decide +kernel) (pc' := 15) rfl (ls_14 hL) (by decide +kernel) rfl rfl ?_
  refine X_iconst (v := 1) (show decode (mB 73) 15 = .ok (.iconst 1, 1) by decide +kernel) (pc' := 16) rfl rfl ?_
  refine X_isub (show decode (mB 73) 16 = .ok (.isub, 1) by decide +kernel) (pc' := 17) rfl ?_
  refine X_laload (w := J 15 ((I 14 2) - 1).toNatClampNeg) (show decode (mB 73) 17 = .ok (.laload, 1) by decide +kernel) (pc' := 18) rfl (ls_15 hL) hb17 rfl ?_
  refine X_goto (tgt := 22) (show decode (mB 73) 18 = .ok (.goto 4, 3) by decide +kernel) rfl ?_
  exact k
set_option maxRecDepth 4000 in
theorem b_X7_ones_21 {xs : Nat → Int32} {L d : Nat} {S : Nat → Shp} {I : Nat → Nat → Int32} {J : Nat → Nat → Int64} {R : Nat → Nat → Nat} {c : Nat × Nat} {Q : Option (Option Value) → MH → Prop}   (k : X xs L d 73 22 [.ref 14] [.long 0] (S, I, J, R, c) Q) : X xs L d 73 21 [.ref 14] [] (S, I, J, R, c) Q := by
  refine X_lconst (v := 0) (show decode (mB 73) 21 = .ok (.lconst 0, 1) by decide +kernel) (pc' := 22) rfl rfl ?_
  exact k
set_option maxRecDepth 4000 in
theorem b_X7_ones_22 {xs : Nat → Int32} {L d : Nat} {S : Nat → Shp} {I : Nat → Nat → Int32} {J : Nat → Nat → Int64} {R : Nat → Nat → Nat} {c : Nat × Nat} {Q : Option (Option Value) → MH → Prop} {sy0 : Int64}  (k : Q (some (some (.long sy0))) (S, I, J, R, c)) : X xs L d 73 22 [.ref 14] [.long sy0] (S, I, J, R, c) Q := by
  exact X_lreturn (show decode (mB 73) 22 = .ok (.lreturn, 1) by decide +kernel) (by decide +kernel) k
set_option maxRecDepth 4000 in
theorem b_X7_zeros_0 {xs : Nat → Int32} {L d : Nat} {S : Nat → Shp} {I : Nat → Nat → Int32} {J : Nat → Nat → Int64} {R : Nat → Nat → Nat} {c : Nat × Nat} {Q : Option (Option Value) → MH → Prop}  (hL : Lay S R)  (kt : (I 14 2) ≤ 0 → X xs L d 74 21 [.ref 14] [] (S, I, J, R, c) Q) (kf : ¬ ((I 14 2) ≤ 0) → X xs L d 74 7 [.ref 14] [] (S, I, J, R, c) Q) : X xs L d 74 0 [.ref 14] [] (S, I, J, R, c) Q := by
  refine X_aload_n (q := 0) (show decode (mB 74) 0 = .ok (.aload_n 0, 1) by decide +kernel) (pc' := 1) rfl rfl rfl ?_
  refine X_getI (ci := 6) (f := 2) (x := I 14 2) (show decode (mB 74) 1 = .ok (.getfield 16, 3) by decide +kernel) (pc' := 4) rfl (ls_14 hL) (by decide +kernel) rfl rfl ?_
  exact X_if_le (tgt := 21) (show decode (mB 74) 4 = .ok (.ifCond .le 17, 3) by decide +kernel) rfl (pc' := 7) rfl kt kf
set_option maxRecDepth 4000 in
theorem b_X7_zeros_7 {xs : Nat → Int32} {L d : Nat} {S : Nat → Shp} {I : Nat → Nat → Int32} {J : Nat → Nat → Int64} {R : Nat → Nat → Nat} {c : Nat × Nat} {Q : Option (Option Value) → MH → Prop}  (hL : Lay S R) (hb17 : inb ((I 14 2) - 1) 64 = true) (k : X xs L d 74 22 [.ref 14] [.long (J 16 ((I 14 2) - 1).toNatClampNeg)] (S, I, J, R, c) Q) : X xs L d 74 7 [.ref 14] [] (S, I, J, R, c) Q := by
  refine X_aload_n (q := 0) (show decode (mB 74) 7 = .ok (.aload_n 0, 1) by decide +kernel) (pc' := 8) rfl rfl rfl ?_
  refine X_getR (ci := 6) (f := 1) (q := 16) (show decode (mB 74) 8 = .ok (.getfield 13, 3) by decide +kernel) (pc' := 11) rfl (ls_14 hL) (by decide +kernel) rfl (lr_14_1 hL) ?_
  refine X_aload_n (q := 0) (show decode (mB 74) 11 = .ok (.aload_n 0, 1) by decide +kernel) (pc' := 12) rfl rfl rfl ?_
  refine X_getI (ci := 6) (f := 2) (x := I 14 2) (show decode (mB 74) 12 = .ok (.getfield 16, 3) by decide +kernel) (pc' := 15) rfl (ls_14 hL) (by decide +kernel) rfl rfl ?_
  refine X_iconst (v := 1) (show decode (mB 74) 15 = .ok (.iconst 1, 1) by decide +kernel) (pc' := 16) rfl rfl ?_
  refine X_isub (show decode (mB 74) 16 = .ok (.isub, 1) by decide +kernel) (pc' := 17) rfl ?_
  refine X_laload (w := J 16 ((I 14 2) - 1).toNatClampNeg) (show decode (mB 74) 17 = .ok (.laload, 1) by decide +kernel) (pc' := 18) rfl (ls_16 hL) hb17 rfl ?_
  refine X_goto (tgt := 22) (show decode (mB 74) 18 = .ok (.goto 4, 3) by decide +kernel) rfl ?_
  exact k
set_option maxRecDepth 4000 in
theorem b_X7_zeros_21 {xs : Nat → Int32} {L d : Nat} {S : Nat → Shp} {I : Nat → Nat → Int32} {J : Nat → Nat → Int64} {R : Nat → Nat → Nat} {c : Nat × Nat} {Q : Option (Option Value) → MH → Prop}   (k : X xs L d 74 22 [.ref 14] [.long 0] (S, I, J, R, c) Q) : X xs L d 74 21 [.ref 14] [] (S, I, J, R, c) Q := by
  refine X_lconst (v := 0) (show decode (mB 74) 21 = .ok (.lconst 0, 1) by decide +kernel) (pc' := 22) rfl rfl ?_
  exact k
set_option maxRecDepth 4000 in
theorem b_X7_zeros_22 {xs : Nat → Int32} {L d : Nat} {S : Nat → Shp} {I : Nat → Nat → Int32} {J : Nat → Nat → Int64} {R : Nat → Nat → Nat} {c : Nat × Nat} {Q : Option (Option Value) → MH → Prop} {sy0 : Int64}  (k : Q (some (some (.long sy0))) (S, I, J, R, c)) : X xs L d 74 22 [.ref 14] [.long sy0] (S, I, J, R, c) Q := by
  exact X_lreturn (show decode (mB 74) 22 = .ok (.lreturn, 1) by decide +kernel) (by decide +kernel) k
set_option maxRecDepth 4000 in
theorem b_X7_push_0 {xs : Nat → Int32} {L d : Nat} {S : Nat → Shp} {I : Nat → Nat → Int32} {J : Nat → Nat → Int64} {R : Nat → Nat → Nat} {c : Nat × Nat} {Q : Option (Option Value) → MH → Prop} {y1 y3 : Int64} (hL : Lay S R)  (kt : 64 ≤ (I 14 2) → X xs L d 75 39 [.ref 14, .long y1, .null, .long y3, .null] [] (S, I, J, R, c) Q) (kf : ¬ (64 ≤ (I 14 2)) → X xs L d 75 9 [.ref 14, .long y1, .null, .long y3, .null] [] (S, I, J, R, c) Q) : X xs L d 75 0 [.ref 14, .long y1, .null, .long y3, .null] [] (S, I, J, R, c) Q := by
  refine X_aload_n (q := 0) (show decode (mB 75) 0 = .ok (.aload_n 0, 1) by decide +kernel) (pc' := 1) rfl rfl rfl ?_
  refine X_getI (ci := 6) (f := 2) (x := I 14 2) (show decode (mB 75) 1 = .ok (.getfield 16, 3) by decide +kernel) (pc' := 4) rfl (ls_14 hL) (by decide +kernel) rfl rfl ?_
  refine X_bipush (v := 64) (show decode (mB 75) 4 = .ok (.bipush 64, 2) by decide +kernel) (pc' := 6) rfl (by decide +kernel) ?_
  exact X_icmp_ge (tgt := 39) (show decode (mB 75) 6 = .ok (.if_icmp .ge 33, 3) by decide +kernel) rfl (pc' := 9) rfl kt kf
set_option maxRecDepth 4000 in
theorem b_X7_push_9 {xs : Nat → Int32} {L d : Nat} {S : Nat → Shp} {I : Nat → Nat → Int32} {J : Nat → Nat → Int64} {R : Nat → Nat → Nat} {c : Nat × Nat} {Q : Option (Option Value) → MH → Prop} {y1 y3 : Int64} (hL : Lay S R) (hb18 : inb (I 14 2) 64 = true) (hb28 : inb (I 14 2) 64 = true) (k : X xs L d 75 39 [.ref 14, .long y1, .null, .long y3, .null] [] (S, (u2 I 14 2 ((I 14 2) + 1)), (u2 (u2 J 15 ((I 14 2).toNatClampNeg) y1) 16 ((I 14 2).toNatClampNeg) y3), R, c) Q) : X xs L d 75 9 [.ref 14, .long y1, .null, .long y3, .null] [] (S, I, J, R, c) Q := by
  refine X_aload_n (q := 0) (show decode (mB 75) 9 = .ok (.aload_n 0, 1) by decide +kernel) (pc' := 10) rfl rfl rfl ?_
  refine X_getR (ci := 6) (f := 0) (q := 15) (show decode (mB 75) 10 = .ok (.getfield 9, 3) by decide +kernel) (pc' := 13) rfl (ls_14 hL) (by decide +kernel) rfl (lr_14_0 hL) ?_
  refine X_aload_n (q := 0) (show decode (mB 75) 13 = .ok (.aload_n 0, 1) by decide +kernel) (pc' := 14) rfl rfl rfl ?_
  refine X_getI (ci := 6) (f := 2) (x := I 14 2) (show decode (mB 75) 14 = .ok (.getfield 16, 3) by decide +kernel) (pc' := 17) rfl (ls_14 hL) (by decide +kernel) rfl rfl ?_
  refine X_lload_n (q := 1) (show decode (mB 75) 17 = .ok (.lload_n 1, 1) by decide +kernel) (pc' := 18) rfl rfl rfl ?_
  refine X_lastore (show decode (mB 75) 18 = .ok (.lastore, 1) by decide +kernel) (pc' := 19) rfl (ls_15 hL) hb18 ?_
  refine X_aload_n (q := 0) (show decode (mB 75) 19 = .ok (.aload_n 0, 1) by decide +kernel) (pc' := 20) rfl rfl rfl ?_
  refine X_getR (ci := 6) (f := 1) (q := 16) (show decode (mB 75) 20 = .ok (.getfield 13, 3) by decide +kernel) (pc' := 23) rfl (ls_14 hL) (by decide +kernel) rfl (lr_14_1 hL) ?_
  refine X_aload_n (q := 0) (show decode (mB 75) 23 = .ok (.aload_n 0, 1) by decide +kernel) (pc' := 24) rfl rfl rfl ?_
  refine X_getI (ci := 6) (f := 2) (x := I 14 2) (show decode (mB 75) 24 = .ok (.getfield 16, 3) by decide +kernel) (pc' := 27) rfl (ls_14 hL) (by decide +kernel) rfl rfl ?_
  refine X_lload_n (q := 3) (show decode (mB 75) 27 = .ok (.lload_n 3, 1) by decide +kernel) (pc' := 28) rfl rfl rfl ?_
  refine X_lastore (show decode (mB 75) 28 = .ok (.lastore, 1) by decide +kernel) (pc' := 29) rfl (ls_16 hL) hb28 ?_
  refine X_aload_n (q := 0) (show decode (mB 75) 29 = .ok (.aload_n 0, 1) by decide +kernel) (pc' := 30) rfl rfl rfl ?_
  refine X_dup (show decode (mB 75) 30 = .ok (.dup, 1) by decide +kernel) (pc' := 31) rfl rfl ?_
  refine X_getI (ci := 6) (f := 2) (x := I 14 2) (show decode (mB 75) 31 = .ok (.getfield 16, 3) by decide +kernel) (pc' := 34) rfl (ls_14 hL) (by decide +kernel) rfl rfl ?_
  refine X_iconst (v := 1) (show decode (mB 75) 34 = .ok (.iconst 1, 1) by decide +kernel) (pc' := 35) rfl rfl ?_
  refine X_iadd (show decode (mB 75) 35 = .ok (.iadd, 1) by decide +kernel) (pc' := 36) rfl ?_
  refine X_putI (ci := 6) (f := 2) (show decode (mB 75) 36 = .ok (.putfield 16, 3) by decide +kernel) (pc' := 39) rfl (ls_14 hL) (by decide +kernel) (by decide +kernel) rfl ?_
  exact k
set_option maxRecDepth 4000 in
theorem b_X7_push_39 {xs : Nat → Int32} {L d : Nat} {S : Nat → Shp} {I : Nat → Nat → Int32} {J : Nat → Nat → Int64} {R : Nat → Nat → Nat} {c : Nat × Nat} {Q : Option (Option Value) → MH → Prop} {y1 y3 : Int64}  (k : Q (some none) (S, I, J, R, c)) : X xs L d 75 39 [.ref 14, .long y1, .null, .long y3, .null] [] (S, I, J, R, c) Q := by
  exact X_return (show decode (mB 75) 39 = .ok (.return_, 1) by decide +kernel) (by decide +kernel) k
set_option maxRecDepth 4000 in
theorem b_X7_apply_0 {xs : Nat → Int32} {L d : Nat} {S : Nat → Shp} {I : Nat → Nat → Int32} {J : Nat → Nat → Int64} {R : Nat → Nat → Nat} {c : Nat × Nat} {Q : Option (Option Value) → MH → Prop} {x1 : Int32}  (kt : ¬ x1 = 48 → X xs L (d + 1) 76 17 [.ref 14, .int x1] [] (S, I, J, R, c) Q) (kf : ¬ (¬ x1 = 48) → X xs L (d + 1) 76 6 [.ref 14, .int x1] [] (S, I, J, R, c) Q) : X xs L (d + 1) 76 0 [.ref 14, .int x1] [] (S, I, J, R, c) Q := by
  refine X_iload_n (q := 1) (show decode (mB 76) 0 = .ok (.iload_n 1, 1) by decide +kernel) (pc' := 1) rfl rfl rfl ?_
  refine X_bipush (v := 48) (show decode (mB 76) 1 = .ok (.bipush 48, 2) by decide +kernel) (pc' := 3) rfl (by decide +kernel) ?_
  exact X_icmp_ne (tgt := 17) (show decode (mB 76) 3 = .ok (.if_icmp .ne 14, 3) by decide +kernel) rfl (pc' := 6) rfl kt kf
set_option maxRecDepth 4000 in
theorem b_X7_apply_6 {xs : Nat → Int32} {L d : Nat} {S : Nat → Shp} {I : Nat → Nat → Int32} {J : Nat → Nat → Int64} {R : Nat → Nat → Nat} {c : Nat × Nat} {Q : Option (Option Value) → MH → Prop} {x1 : Int32} (hL : Lay S R)  (k : X xs L d 75 0 [.ref 14, .long 0, .null, .long (-1), .null] [] (S, I, J, R, c) (Kc xs L (d + 1) 76 14 [.ref 14, .int x1] [] Q)) : X xs L (d + 1) 76 6 [.ref 14, .int x1] [] (S, I, J, R, c) Q := by
  refine X_aload_n (q := 0) (show decode (mB 76) 6 = .ok (.aload_n 0, 1) by decide +kernel) (pc' := 7) rfl rfl rfl ?_
  refine X_lconst (v := 0) (show decode (mB 76) 7 = .ok (.lconst 0, 1) by decide +kernel) (pc' := 8) rfl rfl ?_
  refine X_ldc2 (v := (-1)) (show decode (mB 76) 8 = .ok (.ldc2_w 34, 3) by decide +kernel) (pc' := 11) rfl (by decide +kernel) ?_
  exact X_callV (y := 75) (n := 2) (st := [.long (-1), .long 0, .ref 14]) (as := [.ref 14, .long 0, .long (-1)]) (rest := []) (ls0 := [.ref 14, .long 0, .null, .long (-1), .null]) (ci := 6) (show decode (mB 76) 11 = .ok (.invokevirtual 26, 3) by decide +kernel) (pc' := 14) rfl (by decide +kernel) (by decide +kernel) rfl (ls_14 hL) (by decide +kernel) rfl rfl rfl rfl rfl k
set_option maxRecDepth 4000 in
theorem b_X7_apply_14 {xs : Nat → Int32} {L d : Nat} {S : Nat → Shp} {I : Nat → Nat → Int32} {J : Nat → Nat → Int64} {R : Nat → Nat → Nat} {c : Nat × Nat} {Q : Option (Option Value) → MH → Prop} {x1 : Int32}  (k : X xs L (d + 1) 76 52 [.ref 14, .int x1] [] (S, I, J, R, c) Q) : X xs L (d + 1) 76 14 [.ref 14, .int x1] [] (S, I, J, R, c) Q := by
  refine X_goto (tgt := 52) (show decode (mB 76) 14 = .ok (.goto 38, 3) by decide +kernel) rfl ?_
  exact k
set_option maxRecDepth 4000 in
theorem b_X7_apply_17 {xs : Nat → Int32} {L d : Nat} {S : Nat → Shp} {I : Nat → Nat → Int32} {J : Nat → Nat → Int64} {R : Nat → Nat → Nat} {c : Nat × Nat} {Q : Option (Option Value) → MH → Prop} {x1 : Int32}  (kt : ¬ x1 = 49 → X xs L (d + 1) 76 34 [.ref 14, .int x1] [] (S, I, J, R, c) Q) (kf : ¬ (¬ x1 = 49) → X xs L (d + 1) 76 23 [.ref 14, .int x1] [] (S, I, J, R, c) Q) : X xs L (d + 1) 76 17 [.ref 14, .int x1] [] (S, I, J, R, c) Q := by
  refine X_iload_n (q := 1) (show decode (mB 76) 17 = .ok (.iload_n 1, 1) by decide +kernel) (pc' := 18) rfl rfl rfl ?_
  refine X_bipush (v := 49) (show decode (mB 76) 18 = .ok (.bipush 49, 2) by decide +kernel) (pc' := 20) rfl (by decide +kernel) ?_
  exact X_icmp_ne (tgt := 34) (show decode (mB 76) 20 = .ok (.if_icmp .ne 14, 3) by decide +kernel) rfl (pc' := 23) rfl kt kf
set_option maxRecDepth 4000 in
theorem b_X7_apply_23 {xs : Nat → Int32} {L d : Nat} {S : Nat → Shp} {I : Nat → Nat → Int32} {J : Nat → Nat → Int64} {R : Nat → Nat → Nat} {c : Nat × Nat} {Q : Option (Option Value) → MH → Prop} {x1 : Int32} (hL : Lay S R)  (k : X xs L d 75 0 [.ref 14, .long (-1), .null, .long 0, .null] [] (S, I, J, R, c) (Kc xs L (d + 1) 76 31 [.ref 14, .int x1] [] Q)) : X xs L (d + 1) 76 23 [.ref 14, .int x1] [] (S, I, J, R, c) Q := by
  refine X_aload_n (q := 0) (show decode (mB 76) 23 = .ok (.aload_n 0, 1) by decide +kernel) (pc' := 24) rfl rfl rfl ?_
  refine X_ldc2 (v := (-1)) (show decode (mB 76) 24 = .ok (.ldc2_w 34, 3) by decide +kernel) (pc' := 27) rfl (by decide +kernel) ?_
  refine X_lconst (v := 0) (show decode (mB 76) 27 = .ok (.lconst 0, 1) by decide +kernel) (pc' := 28) rfl rfl ?_
  exact X_callV (y := 75) (n := 2) (st := [.long 0, .long (-1), .ref 14]) (as := [.ref 14, .long (-1), .long 0]) (rest := []) (ls0 := [.ref 14, .long (-1), .null, .long 0, .null]) (ci := 6) (show decode (mB 76) 28 = .ok (.invokevirtual 26, 3) by decide +kernel) (pc' := 31) rfl (by decide +kernel) (by decide +kernel) rfl (ls_14 hL) (by decide +kernel) rfl rfl rfl rfl rfl k
set_option maxRecDepth 4000 in
theorem b_X7_apply_31 {xs : Nat → Int32} {L d : Nat} {S : Nat → Shp} {I : Nat → Nat → Int32} {J : Nat → Nat → Int64} {R : Nat → Nat → Nat} {c : Nat × Nat} {Q : Option (Option Value) → MH → Prop} {x1 : Int32}  (k : X xs L (d + 1) 76 52 [.ref 14, .int x1] [] (S, I, J, R, c) Q) : X xs L (d + 1) 76 31 [.ref 14, .int x1] [] (S, I, J, R, c) Q := by
  refine X_goto (tgt := 52) (show decode (mB 76) 31 = .ok (.goto 21, 3) by decide +kernel) rfl ?_
  exact k
set_option maxRecDepth 4000 in
theorem b_X7_apply_34 {xs : Nat → Int32} {L d : Nat} {S : Nat → Shp} {I : Nat → Nat → Int32} {J : Nat → Nat → Int64} {R : Nat → Nat → Nat} {c : Nat × Nat} {Q : Option (Option Value) → MH → Prop} {x1 : Int32}  (kt : ¬ x1 = 33 → X xs L (d + 1) 76 47 [.ref 14, .int x1] [] (S, I, J, R, c) Q) (kf : ¬ (¬ x1 = 33) → X xs L (d + 1) 76 40 [.ref 14, .int x1] [] (S, I, J, R, c) Q) : X xs L (d + 1) 76 34 [.ref 14, .int x1] [] (S, I, J, R, c) Q := by
  refine X_iload_n (q := 1) (show decode (mB 76) 34 = .ok (.iload_n 1, 1) by decide +kernel) (pc' := 35) rfl rfl rfl ?_
  refine X_bipush (v := 33) (show decode (mB 76) 35 = .ok (.bipush 33, 2) by decide +kernel) (pc' := 37) rfl (by decide +kernel) ?_
  exact X_icmp_ne (tgt := 47) (show decode (mB 76) 37 = .ok (.if_icmp .ne 10, 3) by decide +kernel) rfl (pc' := 40) rfl kt kf
set_option maxRecDepth 4000 in
theorem b_X7_apply_40 {xs : Nat → Int32} {L d : Nat} {S : Nat → Shp} {I : Nat → Nat → Int32} {J : Nat → Nat → Int64} {R : Nat → Nat → Nat} {c : Nat × Nat} {Q : Option (Option Value) → MH → Prop} {x1 : Int32} (hL : Lay S R)  (k : X xs L d 77 0 [.ref 14, .null, .null] [] (S, I, J, R, c) (Kc xs L (d + 1) 76 44 [.ref 14, .int x1] [] Q)) : X xs L (d + 1) 76 40 [.ref 14, .int x1] [] (S, I, J, R, c) Q := by
  refine X_aload_n (q := 0) (show decode (mB 76) 40 = .ok (.aload_n 0, 1) by decide +kernel) (pc' := 41) rfl rfl rfl ?_
  exact X_callV (y := 77) (n := 0) (st := [.ref 14]) (as := [.ref 14]) (rest := []) (ls0 := [.ref 14, .null, .null]) (ci := 6) (show decode (mB 76) 41 = .ok (.invokevirtual 36, 3) by decide +kernel) (pc' := 44) rfl (by decide +kernel) (by decide +kernel) rfl (ls_14 hL) (by decide +kernel) rfl rfl rfl rfl rfl k
set_option maxRecDepth 4000 in
theorem b_X7_apply_44 {xs : Nat → Int32} {L d : Nat} {S : Nat → Shp} {I : Nat → Nat → Int32} {J : Nat → Nat → Int64} {R : Nat → Nat → Nat} {c : Nat × Nat} {Q : Option (Option Value) → MH → Prop} {x1 : Int32}  (k : X xs L (d + 1) 76 52 [.ref 14, .int x1] [] (S, I, J, R, c) Q) : X xs L (d + 1) 76 44 [.ref 14, .int x1] [] (S, I, J, R, c) Q := by
  refine X_goto (tgt := 52) (show decode (mB 76) 44 = .ok (.goto 8, 3) by decide +kernel) rfl ?_
  exact k
set_option maxRecDepth 4000 in
theorem b_X7_apply_47 {xs : Nat → Int32} {L d : Nat} {S : Nat → Shp} {I : Nat → Nat → Int32} {J : Nat → Nat → Int64} {R : Nat → Nat → Nat} {c : Nat × Nat} {Q : Option (Option Value) → MH → Prop} {x1 : Int32} (hL : Lay S R)  (k : X xs L d 78 0 [.ref 14, .int x1, .null, .null, .null, .null, .null, .null, .null, .null] [] (S, I, J, R, c) (Kc xs L (d + 1) 76 52 [.ref 14, .int x1] [] Q)) : X xs L (d + 1) 76 47 [.ref 14, .int x1] [] (S, I, J, R, c) Q := by
  refine X_aload_n (q := 0) (show decode (mB 76) 47 = .ok (.aload_n 0, 1) by decide +kernel) (pc' := 48) rfl rfl rfl ?_
  refine X_iload_n (q := 1) (show decode (mB 76) 48 = .ok (.iload_n 1, 1) by decide +kernel) (pc' := 49) rfl rfl rfl ?_
  exact X_callV (y := 78) (n := 1) (st := [.int x1, .ref 14]) (as := [.ref 14, .int x1]) (rest := []) (ls0 := [.ref 14, .int x1, .null, .null, .null, .null, .null, .null, .null, .null]) (ci := 6) (show decode (mB 76) 49 = .ok (.invokevirtual 39, 3) by decide +kernel) (pc' := 52) rfl (by decide +kernel) (by decide +kernel) rfl (ls_14 hL) (by decide +kernel) rfl rfl rfl rfl rfl k
set_option maxRecDepth 4000 in
theorem b_X7_apply_52 {xs : Nat → Int32} {L d : Nat} {S : Nat → Shp} {I : Nat → Nat → Int32} {J : Nat → Nat → Int64} {R : Nat → Nat → Nat} {c : Nat × Nat} {Q : Option (Option Value) → MH → Prop} {x1 : Int32}  (k : Q (some none) (S, I, J, R, c)) : X xs L (d + 1) 76 52 [.ref 14, .int x1] [] (S, I, J, R, c) Q := by
  exact X_return (show decode (mB 76) 52 = .ok (.return_, 1) by decide +kernel) (by decide +kernel) k
set_option maxRecDepth 4000 in
theorem b_X7_invert_0 {xs : Nat → Int32} {L d : Nat} {S : Nat → Shp} {I : Nat → Nat → Int32} {J : Nat → Nat → Int64} {R : Nat → Nat → Nat} {c : Nat × Nat} {Q : Option (Option Value) → MH → Prop}  (hL : Lay S R)  (kt : 1 ≤ (I 14 2) → X xs L d 77 9 [.ref 14, .null, .null] [] (S, I, J, R, c) Q) (kf : ¬ (1 ≤ (I 14 2)) → X xs L d 77 8 [.ref 14, .null, .null] [] (S, I, J, R, c) Q) : X xs L d 77 0 [.ref 14, .null, .null] [] (S, I, J, R, c) Q := by
  refine X_aload_n (q := 0) (show decode (mB 77) 0 = .ok (.aload_n 0, 1) by decide +kernel) (pc' := 1) rfl rfl rfl ?_
  refine X_getI (ci := 6) (f := 2) (x := I 14 2) (show decode (mB 77) 1 = .ok (.getfield 16, 3) by decide +kernel) (pc' := 4) rfl (ls_14 hL) (by decide +kernel) rfl rfl ?_
  refine X_iconst (v := 1) (show decode (mB 77) 4 = .ok (.iconst 1, 1) by decide +kernel) (pc' := 5) rfl rfl ?_
  exact X_icmp_ge (tgt := 9) (show decode (mB 77) 5 = .ok (.if_icmp .ge 4, 3) by decide +kernel) rfl (pc' := 8) rfl kt kf
set_option maxRecDepth 4000 in
theorem b_X7_invert_8 {xs : Nat → Int32} {L d : Nat} {S : Nat → Shp} {I : Nat → Nat → Int32} {J : Nat → Nat → Int64} {R : Nat → Nat → Nat} {c : Nat × Nat} {Q : Option (Option Value) → MH → Prop}   (k : Q (some none) (S, I, J, R, c)) : X xs L d 77 8 [.ref 14, .null, .null] [] (S, I, J, R, c) Q := by
  exact X_return (show decode (mB 77) 8 = .ok (.return_, 1) by decide +kernel) (by decide +kernel) k
set_option maxRecDepth 4000 in
theorem b_X7_invert_9 {xs : Nat → Int32} {L d : Nat} {S : Nat → Shp} {I : Nat → Nat → Int32} {J : Nat → Nat → Int64} {R : Nat → Nat → Nat} {c : Nat × Nat} {Q : Option (Option Value) → MH → Prop}  (hL : Lay S R) (hb19 : inb ((I 14 2) - 1) 64 = true) (hb41 : inb ((I 14 2) - 1) 64 = true) (hb42 : inb ((I 14 2) - 1) 64 = true) (hb54 : inb ((I 14 2) - 1) 64 = true) (k : Q (some none) (S, I, (u2 (u2 J 15 (((I 14 2) - 1).toNatClampNeg) (J 16 ((I 14 2) - 1).toNatClampNeg)) 16 (((I 14 2) - 1).toNatClampNeg) (J 15 ((I 14 2) - 1).toNatClampNeg)), R, c)) : X xs L d 77 9 [.ref 14, .null, .null] [] (S, I, J, R, c) Q := by
  refine X_aload_n (q := 0) (show decode (mB 77) 9 = .ok (.aload_n 0, 1) by decide +kernel) (pc' := 10) rfl rfl rfl ?_
  refine X_getR (ci := 6) (f := 0) (q := 15) (show decode (mB 77) 10 = .ok (.getfield 9, 3) by decide +kernel) (pc' := 13) rfl (ls_14 hL) (by decide +kernel) rfl (lr_14_0 hL) ?_
  refine X_aload_n (q := 0) (show decode (mB 77) 13 = .ok (.aload_n 0, 1) by decide +kernel) (pc' := 14) rfl rfl rfl ?_
  refine X_getI (ci := 6) (f := 2) (x := I 14 2) (show decode (mB 77) 14 = .ok (.getfield 16, 3) by decide +kernel) (pc' := 17) rfl (ls_14 hL) (by decide +kernel) rfl rfl ?_
  refine X_iconst (v := 1) (show decode (mB 77) 17 = .ok (.iconst 1, 1) by decide +kernel) (pc' := 18) rfl rfl ?_
  refine X_isub (show decode (mB 77) 18 = .ok (.isub, 1) by decide +kernel) (pc' := 19) rfl ?_
  refine X_laload (w := J 15 ((I 14 2) - 1).toNatClampNeg) (show decode (mB 77) 19 = .ok (.laload, 1) by decide +kernel) (pc' := 20) rfl (ls_15 hL) hb19 rfl ?_
  refine X_lstore_n (q := 1) (ls' := [.ref 14, .long (J 15 ((I 14 2) - 1).toNatClampNeg), .null]) (show decode (mB 77) 20 = .ok (.lstore_n 1, 1) by decide +kernel) (pc' := 21) rfl rfl rfl ?_
  refine X_aload_n (q := 0) (show decode (mB 77) 21 = .ok (.aload_n 0, 1) by decide +kernel) (pc' := 22) rfl rfl rfl ?_
  refine X_getR (ci := 6) (f := 0) (q := 15) (show decode (mB 77) 22 = .ok (.getfield 9, 3) by decide +kernel) (pc' := 25) rfl (ls_14 hL) (by decide +kernel) rfl (lr_14_0 hL) ?_
  refine X_aload_n (q := 0) (show decode (mB 77) 25 = .ok (.aload_n 0, 1) by decide +kernel) (pc' := 26) rfl rfl rfl ?_
  refine X_getI (ci := 6) (f := 2) (x := I 14 2) (show decode (mB 77) 26 = .ok (.getfield 16, 3) by decide +kernel) (pc' := 29) rfl (ls_14 hL) (by decide +kernel) rfl rfl ?_
  refine X_iconst (v := 1) (show decode (mB 77) 29 = .ok (.iconst 1, 1) by decide +kernel) (pc' := 30) rfl rfl ?_
  refine X_isub (show decode (mB 77) 30 = .ok (.isub, 1) by decide +kernel) (pc' := 31) rfl ?_
  refine X_aload_n (q := 0) (show decode (mB 77) 31 = .ok (.aload_n 0, 1) by decide +kernel) (pc' := 32) rfl rfl rfl ?_
  refine X_getR (ci := 6) (f := 1) (q := 16) (show decode (mB 77) 32 = .ok (.getfield 13, 3) by decide +kernel) (pc' := 35) rfl (ls_14 hL) (by decide +kernel) rfl (lr_14_1 hL) ?_
  refine X_aload_n (q := 0) (show decode (mB 77) 35 = .ok (.aload_n 0, 1) by decide +kernel) (pc' := 36) rfl rfl rfl ?_
  refine X_getI (ci := 6) (f := 2) (x := I 14 2) (show decode (mB 77) 36 = .ok (.getfield 16, 3) by decide +kernel) (pc' := 39) rfl (ls_14 hL) (by decide +kernel) rfl rfl ?_
  refine X_iconst (v := 1) (show decode (mB 77) 39 = .ok (.iconst 1, 1) by decide +kernel) (pc' := 40) rfl rfl ?_
  refine X_isub (show decode (mB 77) 40 = .ok (.isub, 1) by decide +kernel) (pc' := 41) rfl ?_
  refine X_laload (w := J 16 ((I 14 2) - 1).toNatClampNeg) (show decode (mB 77) 41 = .ok (.laload, 1) by decide +kernel) (pc' := 42) rfl (ls_16 hL) hb41 rfl ?_
  refine X_lastore (show decode (mB 77) 42 = .ok (.lastore, 1) by decide +kernel) (pc' := 43) rfl (ls_15 hL) hb42 ?_
  refine X_aload_n (q := 0) (show decode (mB 77) 43 = .ok (.aload_n 0, 1) by decide +kernel) (pc' := 44) rfl rfl rfl ?_
  refine X_getR (ci := 6) (f := 1) (q := 16) (show decode (mB 77) 44 = .ok (.getfield 13, 3) by decide +kernel) (pc' := 47) rfl (ls_14 hL) (by decide +kernel) rfl (lr_14_1 hL) ?_
  refine X_aload_n (q := 0) (show decode (mB 77) 47 = .ok (.aload_n 0, 1) by decide +kernel) (pc' := 48) rfl rfl rfl ?_
  refine X_getI (ci := 6) (f := 2) (x := I 14 2) (show decode (mB 77) 48 = .ok (.getfield 16, 3) by decide +kernel) (pc' := 51) rfl (ls_14 hL) (by decide +kernel) rfl rfl ?_
  refine X_iconst (v := 1) (show decode (mB 77) 51 = .ok (.iconst 1, 1) by decide +kernel) (pc' := 52) rfl rfl ?_
  refine X_isub (show decode (mB 77) 52 = .ok (.isub, 1) by decide +kernel) (pc' := 53) rfl ?_
  refine X_lload_n (q := 1) (show decode (mB 77) 53 = .ok (.lload_n 1, 1) by decide +kernel) (pc' := 54) rfl rfl rfl ?_
  refine X_lastore (show decode (mB 77) 54 = .ok (.lastore, 1) by decide +kernel) (pc' := 55) rfl (ls_16 hL) hb54 ?_
  exact X_return (show decode (mB 77) 55 = .ok (.return_, 1) by decide +kernel) (by decide +kernel) k
set_option maxRecDepth 4000 in
theorem b_X7_join_0 {xs : Nat → Int32} {L d : Nat} {S : Nat → Shp} {I : Nat → Nat → Int32} {J : Nat → Nat → Int64} {R : Nat → Nat → Nat} {c : Nat × Nat} {Q : Option (Option Value) → MH → Prop} {x1 : Int32} (hL : Lay S R)  (kt : 2 ≤ (I 14 2) → X xs L d 78 9 [.ref 14, .int x1, .null, .null, .null, .null, .null, .null, .null, .null] [] (S, I, J, R, c) Q) (kf : ¬ (2 ≤ (I 14 2)) → X xs L d 78 8 [.ref 14, .int x1, .null, .null, .null, .null, .null, .null, .null, .null] [] (S, I, J, R, c) Q) : X xs L d 78 0 [.ref 14, .int x1, .null, .null, .null, .null, .null, .null, .null, .null] [] (S, I, J, R, c) Q := by
  refine X_aload_n (q := 0) (show decode (mB 78) 0 = .ok (.aload_n 0, 1) by decide +kernel) (pc' := 1) rfl rfl rfl ?_
  refine X_getI (ci := 6) (f := 2) (x := I 14 2) (show decode (mB 78) 1 = .ok (.getfield 16, 3) by decide +kernel) (pc' := 4) rfl (ls_14 hL) (by decide +kernel) rfl rfl ?_
  refine X_iconst (v := 2) (show decode (mB 78) 4 = .ok (.iconst 2, 1) by decide +kernel) (pc' := 5) rfl rfl ?_
  exact X_icmp_ge (tgt := 9) (show decode (mB 78) 5 = .ok (.if_icmp .ge 4, 3) by decide +kernel) rfl (pc' := 8) rfl kt kf
set_option maxRecDepth 4000 in
theorem b_X7_join_8 {xs : Nat → Int32} {L d : Nat} {S : Nat → Shp} {I : Nat → Nat → Int32} {J : Nat → Nat → Int64} {R : Nat → Nat → Nat} {c : Nat × Nat} {Q : Option (Option Value) → MH → Prop} {x1 : Int32}  (k : Q (some none) (S, I, J, R, c)) : X xs L d 78 8 [.ref 14, .int x1, .null, .null, .null, .null, .null, .null, .null, .null] [] (S, I, J, R, c) Q := by
  exact X_return (show decode (mB 78) 8 = .ok (.return_, 1) by decide +kernel) (by decide +kernel) k
set_option maxRecDepth 4000 in
theorem b_X7_join_9 {xs : Nat → Int32} {L d : Nat} {S : Nat → Shp} {I : Nat → Nat → Int32} {J : Nat → Nat → Int64} {R : Nat → Nat → Nat} {c : Nat × Nat} {Q : Option (Option Value) → MH → Prop} {x1 : Int32} (hL : Lay S R) (hb29 : inb (((I 14 2) - 1) - 1) 64 = true) (hb41 : inb (((I 14 2) - 1) - 1) 64 = true) (hb52 : inb ((I 14 2) - 1) 64 = true) (hb63 : inb ((I 14 2) - 1) 64 = true) (kt : ¬ x1 = 38 → X xs L d 78 106 [.ref 14, .int x1, .long (J 15 (((I 14 2) - 1) - 1).toNatClampNeg), .null, .long (J 16 (((I 14 2) - 1) - 1).toNatClampNeg), .null, .long (J 15 ((I 14 2) - 1).toNatClampNeg), .null, .long (J 16 ((I 14 2) - 1).toNatClampNeg), .null] [] (S, (u2 I 14 2 ((I 14 2) - 1)), J, R, c) Q) (kf : ¬ (¬ x1 = 38) → X xs L d 78 72 [.ref 14, .int x1, .long (J 15 (((I 14 2) - 1) - 1).toNatClampNeg), .null, .long (J 16 (((I 14 2) - 1) - 1).toNatClampNeg), .null, .long (J 15 ((I 14 2) - 1).toNatClampNeg), .null, .long (J 16 ((I 14 2) - 1).toNatClampNeg), .null] [] (S, (u2 I 14 2 ((I 14 2) - 1)), J, R, c) Q) : X xs L d 78 9 [.ref 14, .int x1, .null, .null, .null, .null, .null, .null, .null, .null] [] (S, I, J, R, c) Q := by
  refine X_aload_n (q := 0) (show decode (mB 78) 9 = .ok (.aload_n 0, 1) by decide +kernel) (pc' := 10) rfl rfl rfl ?_
  refine X_dup (show decode (mB 78) 10 = .ok (.dup, 1) by decide +kernel) (pc' := 11) rfl rfl ?_
  refine X_getI (ci := 6) (f := 2) (x := I 14 2) (show decode (mB 78) 11 = .ok (.getfield 16, 3) by decide +kernel) (pc' := 14) rfl (ls_14 hL) (by decide +kernel) rfl rfl ?_
  refine X_iconst (v := 1) (show decode (mB 78) 14 = .ok (.iconst 1, 1) by decide +kernel) (pc' := 15) rfl rfl ?_
  refine X_isub (show decode (mB 78) 15 = .ok (.isub, 1) by decide +kernel) (pc' := 16) rfl ?_
  refine X_putI (ci := 6) (f := 2) (show decode (mB 78) 16 = .ok (.putfield 16, 3) by decide +kernel) (pc' := 19) rfl (ls_14 hL) (by decide +kernel) (by decide +kernel) rfl ?_
  refine X_aload_n (q := 0) (show decode (mB 78) 19 = .ok (.aload_n 0, 1) by decide +kernel) (pc' := 20) rfl rfl rfl ?_
  refine X_getR (ci := 6) (f := 0) (q := 15) (show decode (mB 78) 20 = .ok (.getfield 9, 3) by decide +kernel) (pc' := 23) rfl (ls_14 hL) (by decide +kernel) rfl (lr_14_0 hL) ?_
  refine X_aload_n (q := 0) (show decode (mB 78) 23 = .ok (.aload_n 0, 1) by decide +kernel) (pc' := 24) rfl rfl rfl ?_
  refine X_getI (ci := 6) (f := 2) (x := (I 14 2) - 1) (show decode (mB 78) 24 = .ok (.getfield 16, 3) by decide +kernel) (pc' := 27) rfl (ls_14 hL) (by decide +kernel) rfl (by simp [u2, u1]) ?_
  refine X_iconst (v := 1) (show decode (mB 78) 27 = .ok (.iconst 1, 1) by decide +kernel) (pc' := 28) rfl rfl ?_
  refine X_isub (show decode (mB 78) 28 = .ok (.isub, 1) by decide +kernel) (pc' := 29) rfl ?_
  refine X_laload (w := J 15 (((I 14 2) - 1) - 1).toNatClampNeg) (show decode (mB 78) 29 = .ok (.laload, 1) by decide +kernel) (pc' := 30) rfl (ls_15 hL) hb29 rfl ?_
  refine X_lstore_n (q := 2) (ls' := [.ref 14, .int x1, .long (J 15 (((I 14 2) - 1) - 1).toNatClampNeg), .null, .null, .null, .null, .null, .null, .null]) (show decode (mB 78) 30 = .ok (.lstore_n 2, 1) by decide +kernel) (pc' := 31) rfl rfl rfl ?_
  refine X_aload_n (q := 0) (show decode (mB 78) 31 = .ok (.aload_n 0, 1) by decide +kernel) (pc' := 32) rfl rfl rfl ?_
  refine X_getR (ci := 6) (f := 1) (q := 16) (show decode (mB 78) 32 = .ok (.getfield 13, 3) by decide +kernel) (pc' := 35) rfl (ls_14 hL) (by decide +kernel) rfl (lr_14_1 hL) ?_
  refine X_aload_n (q := 0) (show decode (mB 78) 35 = .ok (.aload_n 0, 1) by decide +kernel) (pc' := 36) rfl rfl rfl ?_
  refine X_getI (ci := 6) (f := 2) (x := (I 14 2) - 1) (show decode (mB 78) 36 = .ok (.getfield 16, 3) by decide +kernel) (pc' := 39) rfl (ls_14 hL) (by decide +kernel) rfl (by simp [u2, u1]) ?_
  refine X_iconst (v := 1) (show decode (mB 78) 39 = .ok (.iconst 1, 1) by decide +kernel) (pc' := 40) rfl rfl ?_
  refine X_isub (show decode (mB 78) 40 = .ok (.isub, 1) by decide +kernel) (pc' := 41) rfl ?_
  refine X_laload (w := J 16 (((I 14 2) - 1) - 1).toNatClampNeg) (show decode (mB 78) 41 = .ok (.laload, 1) by decide +kernel) (pc' := 42) rfl (ls_16 hL) hb41 rfl ?_
  refine X_lstore (q := 4) (ls' := [.ref 14, .int x1, .long (J 15 (((I 14 2) - 1) - 1).toNatClampNeg), .null, .long (J 16 (((I 14 2) - 1) - 1).toNatClampNeg), .null, .null, .null, .null, .null]) (show decode (mB 78) 42 = .ok (.lstore 4, 2) by decide +kernel) (pc' := 44) rfl rfl ?_
  refine X_aload_n (q := 0) (show decode (mB 78) 44 = .ok (.aload_n 0, 1) by decide +kernel) (pc' := 45) rfl rfl rfl ?_
  refine X_getR (ci := 6) (f := 0) (q := 15) (show decode (mB 78) 45 = .ok (.getfield 9, 3) by decide +kernel) (pc' := 48) rfl (ls_14 hL) (by decide +kernel) rfl (lr_14_0 hL) ?_
  refine X_aload_n (q := 0) (show decode (mB 78) 48 = .ok (.aload_n 0, 1) by decide +kernel) (pc' := 49) rfl rfl rfl ?_
  refine X_getI (ci := 6) (f := 2) (x := (I 14 2) - 1) (show decode (mB 78) 49 = .ok (.getfield 16, 3) by decide +kernel) (pc' := 52) rfl (ls_14 hL) (by decide +kernel) rfl (by simp [u2, u1]) ?_
  refine X_laload (w := J 15 ((I 14 2) - 1).toNatClampNeg) (show decode (mB 78) 52 = .ok (.laload, 1) by decide +kernel) (pc' := 53) rfl (ls_15 hL) hb52 rfl ?_
  refine X_lstore (q := 6) (ls' := [.ref 14, .int x1, .long (J 15 (((I 14 2) - 1) - 1).toNatClampNeg), .null, .long (J 16 (((I 14 2) - 1) - 1).toNatClampNeg), .null, .long (J 15 ((I 14 2) - 1).toNatClampNeg), .null, .null, .null]) (show decode (mB 78) 53 = .ok (.lstore 6, 2) by decide +kernel) (pc' := 55) rfl rfl ?_
  refine X_aload_n (q := 0) (show decode (mB 78) 55 = .ok (.aload_n 0, 1) by decide +kernel) (pc' := 56) rfl rfl rfl ?_
  refine X_getR (ci := 6) (f := 1) (q := 16) (show decode (mB 78) 56 = .ok (.getfield 13, 3) by decide +kernel) (pc' := 59) rfl (ls_14 hL) (by decide +kernel) rfl (lr_14_1 hL) ?_
  refine X_aload_n (q := 0) (show decode (mB 78) 59 = .ok (.aload_n 0, 1) by decide +kernel) (pc' := 60) rfl rfl rfl ?_
  refine X_getI (ci := 6) (f := 2) (x := (I 14 2) - 1) (show decode (mB 78) 60 = .ok (.getfield 16, 3) by decide +kernel) (pc' := 63) rfl (ls_14 hL) (by decide +kernel) rfl (by simp [u2, u1]) ?_
  refine X_laload (w := J 16 ((I 14 2) - 1).toNatClampNeg) (show decode (mB 78) 63 = .ok (.laload, 1) by decide +kernel) (pc' := 64) rfl (ls_16 hL) hb63 rfl ?_
  refine X_lstore (q := 8) (ls' := [.ref 14, .int x1, .long (J 15 (((I 14 2) - 1) - 1).toNatClampNeg), .null, .long (J 16 (((I 14 2) - 1) - 1).toNatClampNeg), .null, .long (J 15 ((I 14 2) - 1).toNatClampNeg), .null, .long (J 16 ((I 14 2) - 1).toNatClampNeg), .null]) (show decode (mB 78) 64 = .ok (.lstore 8, 2) by decide +kernel) (pc' := 66) rfl rfl ?_
  refine X_iload_n (q := 1) (show decode (mB 78) 66 = .ok (.iload_n 1, 1) by decide +kernel) (pc' := 67) rfl rfl rfl ?_
  refine X_bipush (v := 38) (show decode (mB 78) 67 = .ok (.bipush 38, 2) by decide +kernel) (pc' := 69) rfl (by decide +kernel) ?_
  exact X_icmp_ne (tgt := 106) (show decode (mB 78) 69 = .ok (.if_icmp .ne 37, 3) by decide +kernel) rfl (pc' := 72) rfl kt kf
set_option maxRecDepth 4000 in
theorem b_X7_join_72 {xs : Nat → Int32} {L d : Nat} {S : Nat → Shp} {I : Nat → Nat → Int32} {J : Nat → Nat → Int64} {R : Nat → Nat → Nat} {c : Nat × Nat} {Q : Option (Option Value) → MH → Prop} {x1 : Int32} {y2 y4 y6 y8 : Int64} (hL : Lay S R) (hb86 : inb ((I 14 2) - 1) 64 = true) (hb102 : inb ((I 14 2) - 1) 64 = true) (k : X xs L d 78 188 [.ref 14, .int x1, .long y2, .null, .long y4, .null, .long y6, .null, .long y8, .null] [] (S, I, (u2 (u2 J 15 (((I 14 2) - 1).toNatClampNeg) (y2 &&& y6)) 16 (((I 14 2) - 1).toNatClampNeg) (y4 ||| y8)), R, c) Q) : X xs L d 78 72 [.ref 14, .int x1, .long y2, .null, .long y4, .null, .long y6, .null, .long y8, .null] [] (S, I, J, R, c) Q := by
  refine X_aload_n (q := 0) (show decode (mB 78) 72 = .ok (.aload_n 0, 1) by decide +kernel) (pc' := 73) rfl rfl rfl ?_
  refine X_getR (ci := 6) (f := 0) (q := 15) (show decode (mB 78) 73 = .ok (.getfield 9, 3) by decide +kernel) (pc' := 76) rfl (ls_14 hL) (by decide +kernel) rfl (lr_14_0 hL) ?_
  refine X_aload_n (q := 0) (show decode (mB 78) 76 = .ok (.aload_n 0, 1) by decide +kernel) (pc' := 77) rfl rfl rfl ?_
  refine X_getI (ci := 6) (f := 2) (x := I 14 2) (show decode (mB 78) 77 = .ok (.getfield 16, 3) by decide +kernel) (pc' := 80) rfl (ls_14 hL) (by decide +kernel) rfl rfl ?_
  refine X_iconst (v := 1) (show decode (mB 78) 80 = .ok (.iconst 1, 1) by decide +kernel) (pc' := 81) rfl rfl ?_
  refine X_isub (show decode (mB 78) 81 = .ok (.isub, 1) by decide +kernel) (pc' := 82) rfl ?_
  refine X_lload_n (q := 2) (show decode (mB 78) 82 = .ok (.lload_n 2, 1) by decide +kernel) (pc' := 83) rfl rfl rfl ?_
  refine X_lload (q := 6) (show decode (mB 78) 83 = .ok (.lload 6, 2) by decide +kernel) (pc' := 85) rfl rfl ?_
  refine X_land (show decode (mB 78) 85 = .ok (.land, 1) by decide +kernel) (pc' := 86) rfl ?_
  refine X_lastore (show decode (mB 78) 86 = .ok (.lastore, 1) by decide +kernel) (pc' := 87) rfl (ls_15 hL) hb86 ?_
  refine X_aload_n (q := 0) (show decode (mB 78) 87 = .ok (.aload_n 0, 1) by decide +kernel) (pc' := 88) rfl rfl rfl ?_
  refine X_getR (ci := 6) (f := 1) (q := 16) (show decode (mB 78) 88 = .ok (.getfield 13, 3) by decide +kernel) (pc' := 91) rfl (ls_14 hL) (by decide +kernel) rfl (lr_14_1 hL) ?_
  refine X_aload_n (q := 0) (show decode (mB 78) 91 = .ok (.aload_n 0, 1) by decide +kernel) (pc' := 92) rfl rfl rfl ?_
  refine X_getI (ci := 6) (f := 2) (x := I 14 2) (show decode (mB 78) 92 = .ok (.getfield 16, 3) by decide +kernel) (pc' := 95) rfl (ls_14 hL) (by decide +kernel) rfl rfl ?_
  refine X_iconst (v := 1) (show decode (mB 78) 95 = .ok (.iconst 1, 1) by decide +kernel) (pc' := 96) rfl rfl ?_
  refine X_isub (show decode (mB 78) 96 = .ok (.isub, 1) by decide +kernel) (pc' := 97) rfl ?_
  refine X_lload (q := 4) (show decode (mB 78) 97 = .ok (.lload 4, 2) by decide +kernel) (pc' := 99) rfl rfl ?_
  refine X_lload (q := 8) (show decode (mB 78) 99 = .ok (.lload 8, 2) by decide +kernel) (pc' := 101) rfl rfl ?_
  refine X_lor (show decode (mB 78) 101 = .ok (.lor, 1) by decide +kernel) (pc' := 102) rfl ?_
  refine X_lastore (show decode (mB 78) 102 = .ok (.lastore, 1) by decide +kernel) (pc' := 103) rfl (ls_16 hL) hb102 ?_
  refine X_goto (tgt := 188) (show decode (mB 78) 103 = .ok (.goto 85, 3) by decide +kernel) rfl ?_
  exact k
set_option maxRecDepth 4000 in
theorem b_X7_join_106 {xs : Nat → Int32} {L d : Nat} {S : Nat → Shp} {I : Nat → Nat → Int32} {J : Nat → Nat → Int64} {R : Nat → Nat → Nat} {c : Nat × Nat} {Q : Option (Option Value) → MH → Prop} {x1 : Int32} {y2 y4 y6 y8 : Int64}  (kt : ¬ x1 = 124 → X xs L d 78 146 [.ref 14, .int x1, .long y2, .null, .long y4, .null, .long y6, .null, .long y8, .null] [] (S, I, J, R, c) Q) (kf : ¬ (¬ x1 = 124) → X xs L d 78 112 [.ref 14, .int x1, .long y2, .null, .long y4, .null, .long y6, .null, .long y8, .null] [] (S, I, J, R, c) Q) : X xs L d 78 106 [.ref 14, .int x1, .long y2, .null, .long y4, .null, .long y6, .null, .long y8, .null] [] (S, I, J, R, c) Q := by
  refine X_iload_n (q := 1) (show decode (mB 78) 106 = .ok (.iload_n 1, 1) by decide +kernel) (pc' := 107) rfl rfl rfl ?_
  refine X_bipush (v := 124) (show decode (mB 78) 107 = .ok (.bipush 124, 2) by decide +kernel) (pc' := 109) rfl (by decide +kernel) ?_
  exact X_icmp_ne (tgt := 146) (show decode (mB 78) 109 = .ok (.if_icmp .ne 37, 3) by decide +kernel) rfl (pc' := 112) rfl kt kf
set_option maxRecDepth 4000 in
theorem b_X7_join_112 {xs : Nat → Int32} {L d : Nat} {S : Nat → Shp} {I : Nat → Nat → Int32} {J : Nat → Nat → Int64} {R : Nat → Nat → Nat} {c : Nat × Nat} {Q : Option (Option Value) → MH → Prop} {x1 : Int32} {y2 y4 y6 y8 : Int64} (hL : Lay S R) (hb126 : inb ((I 14 2) - 1) 64 = true) (hb142 : inb ((I 14 2) - 1) 64 = true) (k : X xs L d 78 188 [.ref 14, .int x1, .long y2, .null, .long y4, .null, .long y6, .null, .long y8, .null] [] (S, I, (u2 (u2 J 15 (((I 14 2) - 1).toNatClampNeg) (y2 ||| y6)) 16 (((I 14 2) - 1).toNatClampNeg) (y4 &&& y8)), R, c) Q) : X xs L d 78 112 [.ref 14, .int x1, .long y2, .null, .long y4, .null, .long y6, .null, .long y8, .null] [] (S, I, J, R, c) Q := by
  refine X_aload_n (q := 0) (show decode (mB 78) 112 = .ok (.aload_n 0, 1) by decide +kernel) (pc' := 113) rfl rfl rfl ?_
  refine X_getR (ci := 6) (f := 0) (q := 15) (show decode (mB 78) 113 = .ok (.getfield 9, 3) by decide +kernel) (pc' := 116) rfl (ls_14 hL) (by decide +kernel) rfl (lr_14_0 hL) ?_
  refine X_aload_n (q := 0) (show decode (mB 78) 116 = .ok (.aload_n 0, 1) by decide +kernel) (pc' := 117) rfl rfl rfl ?_
  refine X_getI (ci := 6) (f := 2) (x := I 14 2) (show decode (mB 78) 117 = .ok (.getfield 16, 3) by decide +kernel) (pc' := 120) rfl (ls_14 hL) (by decide +kernel) rfl rfl ?_
  refine X_iconst (v := 1) (show decode (mB 78) 120 = .ok (.iconst 1, 1) by decide +kernel) (pc' := 121) rfl rfl ?_
  refine X_isub (show decode (mB 78) 121 = .ok (.isub, 1) by decide +kernel) (pc' := 122) rfl ?_
  refine X_lload_n (q := 2) (show decode (mB 78) 122 = .ok (.lload_n 2, 1) by decide +kernel) (pc' := 123) rfl rfl rfl ?_
  refine X_lload (q := 6) (show decode (mB 78) 123 = .ok (.lload 6, 2) by decide +kernel) (pc' := 125) rfl rfl ?_
  refine X_lor (show decode (mB 78) 125 = .ok (.lor, 1) by decide +kernel) (pc' := 126) rfl ?_
  refine X_lastore (show decode (mB 78) 126 = .ok (.lastore, 1) by decide +kernel) (pc' := 127) rfl (ls_15 hL) hb126 ?_
  refine X_aload_n (q := 0) (show decode (mB 78) 127 = .ok (.aload_n 0, 1) by decide +kernel) (pc' := 128) rfl rfl rfl ?_
  refine X_getR (ci := 6) (f := 1) (q := 16) (show decode (mB 78) 128 = .ok (.getfield 13, 3) by decide +kernel) (pc' := 131) rfl (ls_14 hL) (by decide +kernel) rfl (lr_14_1 hL) ?_
  refine X_aload_n (q := 0) (show decode (mB 78) 131 = .ok (.aload_n 0, 1) by decide +kernel) (pc' := 132) rfl rfl rfl ?_
  refine X_getI (ci := 6) (f := 2) (x := I 14 2) (show decode (mB 78) 132 = .ok (.getfield 16, 3) by decide +kernel) (pc' := 135) rfl (ls_14 hL) (by decide +kernel) rfl rfl ?_
  refine X_iconst (v := 1) (show decode (mB 78) 135 = .ok (.iconst 1, 1) by decide +kernel) (pc' := 136) rfl rfl ?_
  refine X_isub (show decode (mB 78) 136 = .ok (.isub, 1) by decide +kernel) (pc' := 137) rfl ?_
  refine X_lload (q := 4) (show decode (mB 78) 137 = .ok (.lload 4, 2) by decide +kernel) (pc' := 139) rfl rfl ?_
  refine X_lload (q := 8) (show decode (mB 78) 139 = .ok (.lload 8, 2) by decide +kernel) (pc' := 141) rfl rfl ?_
  refine X_land (show decode (mB 78) 141 = .ok (.land, 1) by decide +kernel) (pc' := 142) rfl ?_
  refine X_lastore (show decode (mB 78) 142 = .ok (.lastore, 1) by decide +kernel) (pc' := 143) rfl (ls_16 hL) hb142 ?_
  refine X_goto (tgt := 188) (show decode (mB 78) 143 = .ok (.goto 45, 3) by decide +kernel) rfl ?_
  exact k
set_option maxRecDepth 4000 in
theorem b_X7_join_146 {xs : Nat → Int32} {L d : Nat} {S : Nat → Shp} {I : Nat → Nat → Int32} {J : Nat → Nat → Int64} {R : Nat → Nat → Nat} {c : Nat × Nat} {Q : Option (Option Value) → MH → Prop} {x1 : Int32} {y2 y4 y6 y8 : Int64} (hL : Lay S R) (hb166 : inb ((I 14 2) - 1) 64 = true) (hb187 : inb ((I 14 2) - 1) 64 = true) (k : X xs L d 78 188 [.ref 14, .int x1, .long y2, .null, .long y4, .null, .long y6, .null, .long y8, .null] [] (S, I, (u2 (u2 J 15 (((I 14 2) - 1).toNatClampNeg) ((y2 &&& y8) ||| (y4 &&& y6))) 16 (((I 14 2) - 1).toNatClampNeg) ((y2 &&& y6) ||| (y4 &&& y8))), R, c) Q) : X xs L d 78 146 [.ref 14, .int x1, .long y2, .null, .long y4, .null, .long y6, .null, .long y8, .null] [] (S, I, J, R, c) Q := by
  refine X_aload_n (q := 0) (show decode (mB 78) 146 = .ok (.aload_n 0, 1) by decide +kernel) (pc' := 147) rfl rfl rfl ?_
  refine X_getR (ci := 6) (f := 0) (q := 15) (show decode (mB 78) 147 = .ok (.getfield 9, 3) by decide +kernel) (pc' := 150) rfl (ls_14 hL) (by decide +kernel) rfl (lr_14_0 hL) ?_
  refine X_aload_n (q := 0) (show decode (mB 78) 150 = .ok (.aload_n 0, 1) by decide +kernel) (pc' := 151) rfl rfl rfl ?_
  refine X_getI (ci := 6) (f := 2) (x := I 14 2) (show decode (mB 78) 151 = .ok (.getfield 16, 3) by decide +kernel) (pc' := 154) rfl (ls_14 hL) (by decide +kernel) rfl rfl ?_
  refine X_iconst (v := 1) (show decode (mB 78) 154 = .ok (.iconst 1, 1) by decide +kernel) (pc' := 155) rfl rfl ?_
  refine X_isub (show decode (mB 78) 155 = .ok (.isub, 1) by decide +kernel) (pc' := 156) rfl ?_
  refine X_lload_n (q := 2) (show decode (mB 78) 156 = .ok (.lload_n 2, 1) by decide +kernel) (pc' := 157) rfl rfl rfl ?_
  refine X_lload (q := 8) (show decode (mB 78) 157 = .ok (.lload 8, 2) by decide +kernel) (pc' := 159) rfl rfl ?_
  refine X_land (show decode (mB 78) 159 = .ok (.land, 1) by decide +kernel) (pc' := 160) rfl ?_
  refine X_lload (q := 4) (show decode (mB 78) 160 = .ok (.lload 4, 2) by decide +kernel) (pc' := 162) rfl rfl ?_
  refine X_lload (q := 6) (show decode (mB 78) 162 = .ok (.lload 6, 2) by decide +kernel) (pc' := 164) rfl rfl ?_
  refine X_land (show decode (mB 78) 164 = .ok (.land, 1) by decide +kernel) (pc' := 165) rfl ?_
  refine X_lor (show decode (mB 78) 165 = .ok (.lor, 1) by decide +kernel) (pc' := 166) rfl ?_
  refine X_lastore (show decode (mB 78) 166 = .ok (.lastore, 1) by decide +kernel) (pc' := 167) rfl (ls_15 hL) hb166 ?_
  refine X_aload_n (q := 0) (show decode (mB 78) 167 = .ok (.aload_n 0, 1) by decide +kernel) (pc' := 168) rfl rfl rfl ?_
  refine X_getR (ci := 6) (f := 1) (q := 16) (show decode (mB 78) 168 = .ok (.getfield 13, 3) by decide +kernel) (pc' := 171) rfl (ls_14 hL) (by decide +kernel) rfl (lr_14_1 hL) ?_
  refine X_aload_n (q := 0) (show decode (mB 78) 171 = .ok (.aload_n 0, 1) by decide +kernel) (pc' := 172) rfl rfl rfl ?_
  refine X_getI (ci := 6) (f := 2) (x := I 14 2) (show decode (mB 78) 172 = .ok (.getfield 16, 3) by decide +kernel) (pc' := 175) rfl (ls_14 hL) (by decide +kernel) rfl rfl ?_
  refine X_iconst (v := 1) (show decode (mB 78) 175 = .ok (.iconst 1, 1) by decide +kernel) (pc' := 176) rfl rfl ?_
  refine X_isub (show decode (mB 78) 176 = .ok (.isub, 1) by decide +kernel) (pc' := 177) rfl ?_
  refine X_lload_n (q := 2) (show decode (mB 78) 177 = .ok (.lload_n 2, 1) by decide +kernel) (pc' := 178) rfl rfl rfl ?_
  refine X_lload (q := 6) (show decode (mB 78) 178 = .ok (.lload 6, 2) by decide +kernel) (pc' := 180) rfl rfl ?_
  refine X_land (show decode (mB 78) 180 = .ok (.land, 1) by decide +kernel) (pc' := 181) rfl ?_
  refine X_lload (q := 4) (show decode (mB 78) 181 = .ok (.lload 4, 2) by decide +kernel) (pc' := 183) rfl rfl ?_
  refine X_lload (q := 8) (show decode (mB 78) 183 = .ok (.lload 8, 2) by decide +kernel) (pc' := 185) rfl rfl ?_
  refine X_land (show decode (mB 78) 185 = .ok (.land, 1) by decide +kernel) (pc' := 186) rfl ?_
  refine X_lor (show decode (mB 78) 186 = .ok (.lor, 1) by decide +kernel) (pc' := 187) rfl ?_
  refine X_lastore (show decode (mB 78) 187 = .ok (.lastore, 1) by decide +kernel) (pc' := 188) rfl (ls_16 hL) hb187 ?_
  exact k
set_option maxRecDepth 4000 in
theorem b_X7_join_188 {xs : Nat → Int32} {L d : Nat} {S : Nat → Shp} {I : Nat → Nat → Int32} {J : Nat → Nat → Int64} {R : Nat → Nat → Nat} {c : Nat × Nat} {Q : Option (Option Value) → MH → Prop} {x1 : Int32} {y2 y4 y6 y8 : Int64}  (k : Q (some none) (S, I, J, R, c)) : X xs L d 78 188 [.ref 14, .int x1, .long y2, .null, .long y4, .null, .long y6, .null, .long y8, .null] [] (S, I, J, R, c) Q := by
  exact X_return (show decode (mB 78) 188 = .ok (.return_, 1) by decide +kernel) (by decide +kernel) k
