/-! ===== P1: blocks (by wip/whole/gen/blocks.py) ===== -/
set_option maxRecDepth 4000 in
theorem b_L_law_18 {xs : Nat → Int32} {L d : Nat} {S : Nat → Shp} {I : Nat → Nat → Int32} {J : Nat → Nat → Int64} {R : Nat → Nat → Nat} {c : Nat × Nat} {Q : Option (Option Value) → MH → Prop} {x3 : Int32}  (kt : ((Int32.ofNat L) - 6) < x3 → X xs L (d + 1) 168 428 [.retAddr 0, .ref 1, .ref 65, .int x3] [] (S, I, J, R, c) Q) (kf : ¬ (((Int32.ofNat L) - 6) < x3) → X xs L (d + 1) 168 27 [.retAddr 0, .ref 1, .ref 65, .int x3] [] (S, I, J, R, c) Q) : X xs L (d + 1) 168 18 [.retAddr 0, .ref 1, .ref 65, .int x3] [] (S, I, J, R, c) Q := by
  refine X_iload_n (q := 3) (show decode (mB 168) 18 = .ok (.iload_n 3, 1) by decide +kernel) (pc' := 19) rfl rfl rfl ?_
  refine X_eload_n (q := 0) (show decode (mB 168) 19 = .ok (.aload_n 0, 1) by decide +kernel) (pc' := 20) rfl rfl rfl ?_
  refine X_slen (show decode (mB 168) 20 = .ok (.arraylength, 1) by decide +kernel) (pc' := 21) rfl ?_
  refine X_bipush (v := 6) (show decode (mB 168) 21 = .ok (.bipush 6, 2) by decide +kernel) (pc' := 23) rfl (by decide +kernel) ?_
  refine X_isub (show decode (mB 168) 23 = .ok (.isub, 1) by decide +kernel) (pc' := 24) rfl ?_
  exact X_icmp_gt (tgt := 428) (show decode (mB 168) 24 = .ok (.if_icmp .gt 404, 3) by decide +kernel) rfl (pc' := 27) rfl kt kf
set_option maxRecDepth 4000 in
theorem b_L_law_27 {xs : Nat → Int32} {L d : Nat} {S : Nat → Shp} {I : Nat → Nat → Int32} {J : Nat → Nat → Int64} {R : Nat → Nat → Nat} {c : Nat × Nat} {Q : Option (Option Value) → MH → Prop} {x3 : Int32} {tgt : Nat} (hb29 : inb x3 L = true) (hsw : xnB 33 (.tableswitch 389 0 11 #[63, 126, 149, 162, 175, 188, 201, 224, 257, 300, 343, 366]) (.int ((xs x3.toNatClampNeg) &&& 15) :: []) = some (tgt, [])) (k : X xs L (d + 1) 168 tgt [.retAddr 0, .ref 1, .ref 65, .int x3] [] (S, I, J, R, c) Q) : X xs L (d + 1) 168 27 [.retAddr 0, .ref 1, .ref 65, .int x3] [] (S, I, J, R, c) Q := by
  refine X_eload_n (q := 0) (show decode (mB 168) 27 = .ok (.aload_n 0, 1) by decide +kernel) (pc' := 28) rfl rfl rfl ?_
  refine X_iload_n (q := 3) (show decode (mB 168) 28 = .ok (.iload_n 3, 1) by decide +kernel) (pc' := 29) rfl rfl rfl ?_
  refine X_saload (show decode (mB 168) 29 = .ok (.iaload, 1) by decide +kernel) (pc' := 30) rfl hb29 ?_
  refine X_bipush (v := 15) (show decode (mB 168) 30 = .ok (.bipush 15, 2) by decide +kernel) (pc' := 32) rfl (by decide +kernel) ?_
  refine X_iand (show decode (mB 168) 32 = .ok (.iand, 1) by decide +kernel) (pc' := 33) rfl ?_
  exact X_sw (show decode (mB 168) 33 = .ok (.tableswitch 389 0 11 #[63, 126, 149, 162, 175, 188, 201, 224, 257, 300, 343, 366], 63) by decide +kernel) rfl rfl hsw k
set_option maxRecDepth 4000 in
theorem b_L_law_96 {xs : Nat → Int32} {L d : Nat} {S : Nat → Shp} {I : Nat → Nat → Int32} {J : Nat → Nat → Int64} {R : Nat → Nat → Nat} {c : Nat × Nat} {Q : Option (Option Value) → MH → Prop} {x3 : Int32} (hL : Lay S R) (hb101 : inb (x3 + 1) L = true) (hb106 : inb (x3 + 2) L = true) (hb111 : inb (x3 + 3) L = true) (hb116 : inb (x3 + 4) L = true) (hb121 : inb (x3 + 5) L = true) (k : X xs L d 102 0 [.ref 1, .int (xs (x3 + 1).toNatClampNeg), .int (xs (x3 + 2).toNatClampNeg), .int (xs (x3 + 3).toNatClampNeg), .int (xs (x3 + 4).toNatClampNeg), .int (xs (x3 + 5).toNatClampNeg)] [] (S, I, J, R, c) (Kc xs L (d + 1) 168 125 [.retAddr 0, .ref 1, .ref 65, .int x3] [] Q)) : X xs L (d + 1) 168 96 [.retAddr 0, .ref 1, .ref 65, .int x3] [] (S, I, J, R, c) Q := by
  refine X_aload_n (q := 1) (show decode (mB 168) 96 = .ok (.aload_n 1, 1) by decide +kernel) (pc' := 97) rfl rfl rfl ?_
  refine X_eload_n (q := 0) (show decode (mB 168) 97 = .ok (.aload_n 0, 1) by decide +kernel) (pc' := 98) rfl rfl rfl ?_
  refine X_iload_n (q := 3) (show decode (mB 168) 98 = .ok (.iload_n 3, 1) by decide +kernel) (pc' := 99) rfl rfl rfl ?_
  refine X_iconst (v := 1) (show decode (mB 168) 99 = .ok (.iconst 1, 1) by decide +kernel) (pc' := 100) rfl rfl ?_
  refine X_iadd (show decode (mB 168) 100 = .ok (.iadd, 1) by decide +kernel) (pc' := 101) rfl ?_
  refine X_saload (show decode (mB 168) 101 = .ok (.iaload, 1) by decide +kernel) (pc' := 102) rfl hb101 ?_
  refine X_eload_n (q := 0) (show decode (mB 168) 102 = .ok (.aload_n 0, 1) by decide +kernel) (pc' := 103) rfl rfl rfl ?_
  refine X_iload_n (q := 3) (show decode (mB 168) 103 = .ok (.iload_n 3, 1) by decide +kernel) (pc' := 104) rfl rfl rfl ?_
  refine X_iconst (v := 2) (show decode (mB 168) 104 = .ok (.iconst 2, 1) by decide +kernel) (pc' := 105) rfl rfl ?_
  refine X_iadd (show decode (mB 168) 105 = .ok (.iadd, 1) by decide +kernel) (pc' := 106) rfl ?_
  refine X_saload (show decode (mB 168) 106 = .ok (.iaload, 1) by decide +kernel) (pc' := 107) rfl hb106 ?_
  refine X_eload_n (q := 0) (show decode (mB 168) 107 = .ok (.aload_n 0, 1) by decide +kernel) (pc' := 108) rfl rfl rfl ?_
  refine X_iload_n (q := 3) (show decode (mB 168) 108 = .ok (.iload_n 3, 1) by decide +kernel) (pc' := 109) rfl rfl rfl ?_
  refine X_iconst (v := 3) (show decode (mB 168) 109 = .ok (.iconst 3, 1) by decide +kernel) (pc' := 110) rfl rfl ?_
  refine X_iadd (show decode (mB 168) 110 = .ok (.iadd, 1) by decide +kernel) (pc' := 111) rfl ?_
  refine X_saload (show decode (mB 168) 111 = .ok (.iaload, 1) by decide +kernel) (pc' := 112) rfl hb111 ?_
  refine X_eload_n (q := 0) (show decode (mB 168) 112 = .ok (.aload_n 0, 1) by decide +kernel) (pc' := 113) rfl rfl rfl ?_
  refine X_iload_n (q := 3) (show decode (mB 168) 113 = .ok (.iload_n 3, 1) by decide +kernel) (pc' := 114) rfl rfl rfl ?_
  refine X_iconst (v := 4) (show decode (mB 168) 114 = .ok (.iconst 4, 1) by decide +kernel) (pc' := 115) rfl rfl ?_
  refine X_iadd (show decode (mB 168) 115 = .ok (.iadd, 1) by decide +kernel) (pc' := 116) rfl ?_
  refine X_saload (show decode (mB 168) 116 = .ok (.iaload, 1) by decide +kernel) (pc' := 117) rfl hb116 ?_
  refine X_eload_n (q := 0) (show decode (mB 168) 117 = .ok (.aload_n 0, 1) by decide +kernel) (pc' := 118) rfl rfl rfl ?_
  refine X_iload_n (q := 3) (show decode (mB 168) 118 = .ok (.iload_n 3, 1) by decide +kernel) (pc' := 119) rfl rfl rfl ?_
  refine X_iconst (v := 5) (show decode (mB 168) 119 = .ok (.iconst 5, 1) by decide +kernel) (pc' := 120) rfl rfl ?_
  refine X_iadd (show decode (mB 168) 120 = .ok (.iadd, 1) by decide +kernel) (pc' := 121) rfl ?_
  refine X_saload (show decode (mB 168) 121 = .ok (.iaload, 1) by decide +kernel) (pc' := 122) rfl hb121 ?_
  exact X_callV (y := 102) (n := 5) (st := [.int (xs (x3 + 5).toNatClampNeg), .int (xs (x3 + 4).toNatClampNeg), .int (xs (x3 + 3).toNatClampNeg), .int (xs (x3 + 2).toNatClampNeg), .int (xs (x3 + 1).toNatClampNeg), .ref 1]) (as := [.ref 1, .int (xs (x3 + 1).toNatClampNeg), .int (xs (x3 + 2).toNatClampNeg), .int (xs (x3 + 3).toNatClampNeg), .int (xs (x3 + 4).toNatClampNeg), .int (xs (x3 + 5).toNatClampNeg)]) (rest := []) (ls0 := [.ref 1, .int (xs (x3 + 1).toNatClampNeg), .int (xs (x3 + 2).toNatClampNeg), .int (xs (x3 + 3).toNatClampNeg), .int (xs (x3 + 4).toNatClampNeg), .int (xs (x3 + 5).toNatClampNeg)]) (ci := 9) (show decode (mB 168) 122 = .ok (.invokevirtual 13, 3) by decide +kernel) (pc' := 125) rfl (by decide +kernel) (by decide +kernel) rfl (ls_1 hL) (by decide +kernel) rfl rfl rfl rfl rfl k
set_option maxRecDepth 4000 in
theorem b_L_law_125 {xs : Nat → Int32} {L d : Nat} {S : Nat → Shp} {I : Nat → Nat → Int32} {J : Nat → Nat → Int64} {R : Nat → Nat → Nat} {c : Nat × Nat} {Q : Option (Option Value) → MH → Prop} {x3 sx0 : Int32} (hL : Lay S R) (hb130 : inb (x3 + 1) L = true) (hb135 : inb (x3 + 2) L = true) (hb140 : inb (x3 + 3) L = true) (hb145 : inb (x3 + 4) L = true) (hb150 : inb (x3 + 5) L = true) (k : X xs L d 120 0 [.ref 65, .int (xs (x3 + 1).toNatClampNeg), .int (xs (x3 + 2).toNatClampNeg), .int (xs (x3 + 3).toNatClampNeg), .int (xs (x3 + 4).toNatClampNeg), .int (xs (x3 + 5).toNatClampNeg)] [] (S, I, J, R, c) (Kc xs L (d + 1) 168 154 [.retAddr 0, .ref 1, .ref 65, .int x3] [.int sx0] Q)) : X xs L (d + 1) 168 125 [.retAddr 0, .ref 1, .ref 65, .int x3] [.int sx0] (S, I, J, R, c) Q := by
  refine X_aload_n (q := 2) (show decode (mB 168) 125 = .ok (.aload_n 2, 1) by decide +kernel) (pc' := 126) rfl rfl rfl ?_
  refine X_eload_n (q := 0) (show decode (mB 168) 126 = .ok (.aload_n 0, 1) by decide +kernel) (pc' := 127) rfl rfl rfl ?_
  refine X_iload_n (q := 3) (show decode (mB 168) 127 = .ok (.iload_n 3, 1) by decide +kernel) (pc' := 128) rfl rfl rfl ?_
  refine X_iconst (v := 1) (show decode (mB 168) 128 = .ok (.iconst 1, 1) by decide +kernel) (pc' := 129) rfl rfl ?_
  refine X_iadd (show decode (mB 168) 129 = .ok (.iadd, 1) by decide +kernel) (pc' := 130) rfl ?_
  refine X_saload (show decode (mB 168) 130 = .ok (.iaload, 1) by decide +kernel) (pc' := 131) rfl hb130 ?_
  refine X_eload_n (q := 0) (show decode (mB 168) 131 = .ok (.aload_n 0, 1) by decide +kernel) (pc' := 132) rfl rfl rfl ?_
  refine X_iload_n (q := 3) (show decode (mB 168) 132 = .ok (.iload_n 3, 1) by decide +kernel) (pc' := 133) rfl rfl rfl ?_
  refine X_iconst (v := 2) (show decode (mB 168) 133 = .ok (.iconst 2, 1) by decide +kernel) (pc' := 134) rfl rfl ?_
  refine X_iadd (show decode (mB 168) 134 = .ok (.iadd, 1) by decide +kernel) (pc' := 135) rfl ?_
  refine X_saload (show decode (mB 168) 135 = .ok (.iaload, 1) by decide +kernel) (pc' := 136) rfl hb135 ?_
  refine X_eload_n (q := 0) (show decode (mB 168) 136 = .ok (.aload_n 0, 1) by decide +kernel) (pc' := 137) rfl rfl rfl ?_
  refine X_iload_n (q := 3) (show decode (mB 168) 137 = .ok (.iload_n 3, 1) by decide +kernel) (pc' := 138) rfl rfl rfl ?_
  refine X_iconst (v := 3) (show decode (mB 168) 138 = .ok (.iconst 3, 1) by decide +kernel) (pc' := 139) rfl rfl ?_
  refine X_iadd (show decode (mB 168) 139 = .ok (.iadd, 1) by decide +kernel) (pc' := 140) rfl ?_
  refine X_saload (show decode (mB 168) 140 = .ok (.iaload, 1) by decide +kernel) (pc' := 141) rfl hb140 ?_
  refine X_eload_n (q := 0) (show decode (mB 168) 141 = .ok (.aload_n 0, 1) by decide +kernel) (pc' := 142) rfl rfl rfl ?_
  refine X_iload_n (q := 3) (show decode (mB 168) 142 = .ok (.iload_n 3, 1) by decide +kernel) (pc' := 143) rfl rfl rfl ?_
  refine X_iconst (v := 4) (show decode (mB 168) 143 = .ok (.iconst 4, 1) by decide +kernel) (pc' := 144) rfl rfl ?_
  refine X_iadd (show decode (mB 168) 144 = .ok (.iadd, 1) by decide +kernel) (pc' := 145) rfl ?_
  refine X_saload (show decode (mB 168) 145 = .ok (.iaload, 1) by decide +kernel) (pc' := 146) rfl hb145 ?_
  refine X_eload_n (q := 0) (show decode (mB 168) 146 = .ok (.aload_n 0, 1) by decide +kernel) (pc' := 147) rfl rfl rfl ?_
  refine X_iload_n (q := 3) (show decode (mB 168) 147 = .ok (.iload_n 3, 1) by decide +kernel) (pc' := 148) rfl rfl rfl ?_
  refine X_iconst (v := 5) (show decode (mB 168) 148 = .ok (.iconst 5, 1) by decide +kernel) (pc' := 149) rfl rfl ?_
  refine X_iadd (show decode (mB 168) 149 = .ok (.iadd, 1) by decide +kernel) (pc' := 150) rfl ?_
  refine X_saload (show decode (mB 168) 150 = .ok (.iaload, 1) by decide +kernel) (pc' := 151) rfl hb150 ?_
  exact X_callV (y := 120) (n := 5) (st := [.int (xs (x3 + 5).toNatClampNeg), .int (xs (x3 + 4).toNatClampNeg), .int (xs (x3 + 3).toNatClampNeg), .int (xs (x3 + 2).toNatClampNeg), .int (xs (x3 + 1).toNatClampNeg), .ref 65, .int sx0]) (as := [.ref 65, .int (xs (x3 + 1).toNatClampNeg), .int (xs (x3 + 2).toNatClampNeg), .int (xs (x3 + 3).toNatClampNeg), .int (xs (x3 + 4).toNatClampNeg), .int (xs (x3 + 5).toNatClampNeg)]) (rest := [.int sx0]) (ls0 := [.ref 65, .int (xs (x3 + 1).toNatClampNeg), .int (xs (x3 + 2).toNatClampNeg), .int (xs (x3 + 3).toNatClampNeg), .int (xs (x3 + 4).toNatClampNeg), .int (xs (x3 + 5).toNatClampNeg)]) (ci := 13) (show decode (mB 168) 151 = .ok (.invokevirtual 17, 3) by decide +kernel) (pc' := 154) rfl (by decide +kernel) (by decide +kernel) rfl (ls_65 hL) (by decide +kernel) rfl rfl rfl rfl rfl k
set_option maxRecDepth 4000 in
theorem b_L_law_154 {xs : Nat → Int32} {L d : Nat} {S : Nat → Shp} {I : Nat → Nat → Int32} {J : Nat → Nat → Int64} {R : Nat → Nat → Nat} {c : Nat × Nat} {Q : Option (Option Value) → MH → Prop} {x3 sx0 sx1 : Int32}  (kt : sx0 = sx1 → X xs L (d + 1) 168 422 [.retAddr 0, .ref 1, .ref 65, .int x3] [] (S, I, J, R, c) Q) (kf : ¬ (sx0 = sx1) → X xs L (d + 1) 168 157 [.retAddr 0, .ref 1, .ref 65, .int x3] [] (S, I, J, R, c) Q) : X xs L (d + 1) 168 154 [.retAddr 0, .ref 1, .ref 65, .int x3] [.int sx1, .int sx0] (S, I, J, R, c) Q := by
  exact X_icmp_eq (tgt := 422) (show decode (mB 168) 154 = .ok (.if_icmp .eq 268, 3) by decide +kernel) rfl (pc' := 157) rfl kt kf
set_option maxRecDepth 4000 in
theorem b_L_law_157 {xs : Nat → Int32} {L d : Nat} {S : Nat → Shp} {I : Nat → Nat → Int32} {J : Nat → Nat → Int64} {R : Nat → Nat → Nat} {c : Nat × Nat} {Q : Option (Option Value) → MH → Prop} {x3 : Int32}  (k : Q (some (some (.int 0))) (S, I, J, R, c)) : X xs L (d + 1) 168 157 [.retAddr 0, .ref 1, .ref 65, .int x3] [] (S, I, J, R, c) Q := by
  refine X_iconst (v := 0) (show decode (mB 168) 157 = .ok (.iconst 0, 1) by decide +kernel) (pc' := 158) rfl rfl ?_
  exact X_ireturn (ty := .boolean) (show decode (mB 168) 158 = .ok (.ireturn, 1) by decide +kernel) (by decide +kernel) rfl k
set_option maxRecDepth 4000 in
theorem b_L_law_159 {xs : Nat → Int32} {L d : Nat} {S : Nat → Shp} {I : Nat → Nat → Int32} {J : Nat → Nat → Int64} {R : Nat → Nat → Nat} {c : Nat × Nat} {Q : Option (Option Value) → MH → Prop} {x3 : Int32} (hL : Lay S R) (hb164 : inb (x3 + 1) L = true) (k : X xs L d 103 0 [.ref 1, .int (xs (x3 + 1).toNatClampNeg)] [] (S, I, J, R, c) (Kc xs L (d + 1) 168 168 [.retAddr 0, .ref 1, .ref 65, .int x3] [] Q)) : X xs L (d + 1) 168 159 [.retAddr 0, .ref 1, .ref 65, .int x3] [] (S, I, J, R, c) Q := by
  refine X_aload_n (q := 1) (show decode (mB 168) 159 = .ok (.aload_n 1, 1) by decide +kernel) (pc' := 160) rfl rfl rfl ?_
  refine X_eload_n (q := 0) (show decode (mB 168) 160 = .ok (.aload_n 0, 1) by decide +kernel) (pc' := 161) rfl rfl rfl ?_
  refine X_iload_n (q := 3) (show decode (mB 168) 161 = .ok (.iload_n 3, 1) by decide +kernel) (pc' := 162) rfl rfl rfl ?_
  refine X_iconst (v := 1) (show decode (mB 168) 162 = .ok (.iconst 1, 1) by decide +kernel) (pc' := 163) rfl rfl ?_
  refine X_iadd (show decode (mB 168) 163 = .ok (.iadd, 1) by decide +kernel) (pc' := 164) rfl ?_
  refine X_saload (show decode (mB 168) 164 = .ok (.iaload, 1) by decide +kernel) (pc' := 165) rfl hb164 ?_
  exact X_callV (y := 103) (n := 1) (st := [.int (xs (x3 + 1).toNatClampNeg), .ref 1]) (as := [.ref 1, .int (xs (x3 + 1).toNatClampNeg)]) (rest := []) (ls0 := [.ref 1, .int (xs (x3 + 1).toNatClampNeg)]) (ci := 9) (show decode (mB 168) 165 = .ok (.invokevirtual 18, 3) by decide +kernel) (pc' := 168) rfl (by decide +kernel) (by decide +kernel) rfl (ls_1 hL) (by decide +kernel) rfl rfl rfl rfl rfl k
set_option maxRecDepth 4000 in
theorem b_L_law_168 {xs : Nat → Int32} {L d : Nat} {S : Nat → Shp} {I : Nat → Nat → Int32} {J : Nat → Nat → Int64} {R : Nat → Nat → Nat} {c : Nat × Nat} {Q : Option (Option Value) → MH → Prop} {x3 sx0 : Int32} (hL : Lay S R) (hb173 : inb (x3 + 1) L = true) (k : X xs L d 121 0 [.ref 65, .int (xs (x3 + 1).toNatClampNeg)] [] (S, I, J, R, c) (Kc xs L (d + 1) 168 177 [.retAddr 0, .ref 1, .ref 65, .int x3] [.int sx0] Q)) : X xs L (d + 1) 168 168 [.retAddr 0, .ref 1, .ref 65, .int x3] [.int sx0] (S, I, J, R, c) Q := by
  refine X_aload_n (q := 2) (show decode (mB 168) 168 = .ok (.aload_n 2, 1) by decide +kernel) (pc' := 169) rfl rfl rfl ?_
  refine X_eload_n (q := 0) (show decode (mB 168) 169 = .ok (.aload_n 0, 1) by decide +kernel) (pc' := 170) rfl rfl rfl ?_
  refine X_iload_n (q := 3) (show decode (mB 168) 170 = .ok (.iload_n 3, 1) by decide +kernel) (pc' := 171) rfl rfl rfl ?_
  refine X_iconst (v := 1) (show decode (mB 168) 171 = .ok (.iconst 1, 1) by decide +kernel) (pc' := 172) rfl rfl ?_
  refine X_iadd (show decode (mB 168) 172 = .ok (.iadd, 1) by decide +kernel) (pc' := 173) rfl ?_
  refine X_saload (show decode (mB 168) 173 = .ok (.iaload, 1) by decide +kernel) (pc' := 174) rfl hb173 ?_
  exact X_callV (y := 121) (n := 1) (st := [.int (xs (x3 + 1).toNatClampNeg), .ref 65, .int sx0]) (as := [.ref 65, .int (xs (x3 + 1).toNatClampNeg)]) (rest := [.int sx0]) (ls0 := [.ref 65, .int (xs (x3 + 1).toNatClampNeg)]) (ci := 13) (show decode (mB 168) 174 = .ok (.invokevirtual 22, 3) by decide +kernel) (pc' := 177) rfl (by decide +kernel) (by decide +kernel) rfl (ls_65 hL) (by decide +kernel) rfl rfl rfl rfl rfl k
set_option maxRecDepth 4000 in
theorem b_L_law_177 {xs : Nat → Int32} {L d : Nat} {S : Nat → Shp} {I : Nat → Nat → Int32} {J : Nat → Nat → Int64} {R : Nat → Nat → Nat} {c : Nat × Nat} {Q : Option (Option Value) → MH → Prop} {x3 sx0 sx1 : Int32}  (kt : sx0 = sx1 → X xs L (d + 1) 168 422 [.retAddr 0, .ref 1, .ref 65, .int x3] [] (S, I, J, R, c) Q) (kf : ¬ (sx0 = sx1) → X xs L (d + 1) 168 180 [.retAddr 0, .ref 1, .ref 65, .int x3] [] (S, I, J, R, c) Q) : X xs L (d + 1) 168 177 [.retAddr 0, .ref 1, .ref 65, .int x3] [.int sx1, .int sx0] (S, I, J, R, c) Q := by
  exact X_icmp_eq (tgt := 422) (show decode (mB 168) 177 = .ok (.if_icmp .eq 245, 3) by decide +kernel) rfl (pc' := 180) rfl kt kf
set_option maxRecDepth 4000 in
theorem b_L_law_180 {xs : Nat → Int32} {L d : Nat} {S : Nat → Shp} {I : Nat → Nat → Int32} {J : Nat → Nat → Int64} {R : Nat → Nat → Nat} {c : Nat × Nat} {Q : Option (Option Value) → MH → Prop} {x3 : Int32}  (k : Q (some (some (.int 0))) (S, I, J, R, c)) : X xs L (d + 1) 168 180 [.retAddr 0, .ref 1, .ref 65, .int x3] [] (S, I, J, R, c) Q := by
  refine X_iconst (v := 0) (show decode (mB 168) 180 = .ok (.iconst 0, 1) by decide +kernel) (pc' := 181) rfl rfl ?_
  exact X_ireturn (ty := .boolean) (show decode (mB 168) 181 = .ok (.ireturn, 1) by decide +kernel) (by decide +kernel) rfl k
set_option maxRecDepth 4000 in
theorem b_L_law_182 {xs : Nat → Int32} {L d : Nat} {S : Nat → Shp} {I : Nat → Nat → Int32} {J : Nat → Nat → Int64} {R : Nat → Nat → Nat} {c : Nat × Nat} {Q : Option (Option Value) → MH → Prop} {x3 : Int32} (hL : Lay S R)  (k : X xs L d 104 0 [.ref 1, .null, .null] [] (S, I, J, R, c) (Kc xs L (d + 1) 168 186 [.retAddr 0, .ref 1, .ref 65, .int x3] [] Q)) : X xs L (d + 1) 168 182 [.retAddr 0, .ref 1, .ref 65, .int x3] [] (S, I, J, R, c) Q := by
  refine X_aload_n (q := 1) (show decode (mB 168) 182 = .ok (.aload_n 1, 1) by decide +kernel) (pc' := 183) rfl rfl rfl ?_
  exact X_callV (y := 104) (n := 0) (st := [.ref 1]) (as := [.ref 1]) (rest := []) (ls0 := [.ref 1, .null, .null]) (ci := 9) (show decode (mB 168) 183 = .ok (.invokevirtual 23, 3) by decide +kernel) (pc' := 186) rfl (by decide +kernel) (by decide +kernel) rfl (ls_1 hL) (by decide +kernel) rfl rfl rfl rfl rfl k
set_option maxRecDepth 4000 in
theorem b_L_law_186 {xs : Nat → Int32} {L d : Nat} {S : Nat → Shp} {I : Nat → Nat → Int32} {J : Nat → Nat → Int64} {R : Nat → Nat → Nat} {c : Nat × Nat} {Q : Option (Option Value) → MH → Prop} {x3 sx0 : Int32} (hL : Lay S R)  (k : X xs L d 143 0 [.ref 65, .null] [] (S, I, J, R, c) (Kc xs L (d + 1) 168 190 [.retAddr 0, .ref 1, .ref 65, .int x3] [.int sx0] Q)) : X xs L (d + 1) 168 186 [.retAddr 0, .ref 1, .ref 65, .int x3] [.int sx0] (S, I, J, R, c) Q := by
  refine X_aload_n (q := 2) (show decode (mB 168) 186 = .ok (.aload_n 2, 1) by decide +kernel) (pc' := 187) rfl rfl rfl ?_
  exact X_callV (y := 143) (n := 0) (st := [.ref 65, .int sx0]) (as := [.ref 65]) (rest := [.int sx0]) (ls0 := [.ref 65, .null]) (ci := 13) (show decode (mB 168) 187 = .ok (.invokevirtual 27, 3) by decide +kernel) (pc' := 190) rfl (by decide +kernel) (by decide +kernel) rfl (ls_65 hL) (by decide +kernel) rfl rfl rfl rfl rfl k
set_option maxRecDepth 4000 in
theorem b_L_law_190 {xs : Nat → Int32} {L d : Nat} {S : Nat → Shp} {I : Nat → Nat → Int32} {J : Nat → Nat → Int64} {R : Nat → Nat → Nat} {c : Nat × Nat} {Q : Option (Option Value) → MH → Prop} {x3 sx0 sx1 : Int32}  (kt : sx0 = sx1 → X xs L (d + 1) 168 422 [.retAddr 0, .ref 1, .ref 65, .int x3] [] (S, I, J, R, c) Q) (kf : ¬ (sx0 = sx1) → X xs L (d + 1) 168 193 [.retAddr 0, .ref 1, .ref 65, .int x3] [] (S, I, J, R, c) Q) : X xs L (d + 1) 168 190 [.retAddr 0, .ref 1, .ref 65, .int x3] [.int sx1, .int sx0] (S, I, J, R, c) Q := by
  exact X_icmp_eq (tgt := 422) (show decode (mB 168) 190 = .ok (.if_icmp .eq 232, 3) by decide +kernel) rfl (pc' := 193) rfl kt kf
set_option maxRecDepth 4000 in
theorem b_L_law_193 {xs : Nat → Int32} {L d : Nat} {S : Nat → Shp} {I : Nat → Nat → Int32} {J : Nat → Nat → Int64} {R : Nat → Nat → Nat} {c : Nat × Nat} {Q : Option (Option Value) → MH → Prop} {x3 : Int32}  (k : Q (some (some (.int 0))) (S, I, J, R, c)) : X xs L (d + 1) 168 193 [.retAddr 0, .ref 1, .ref 65, .int x3] [] (S, I, J, R, c) Q := by
  refine X_iconst (v := 0) (show decode (mB 168) 193 = .ok (.iconst 0, 1) by decide +kernel) (pc' := 194) rfl rfl ?_
  exact X_ireturn (ty := .boolean) (show decode (mB 168) 194 = .ok (.ireturn, 1) by decide +kernel) (by decide +kernel) rfl k
set_option maxRecDepth 4000 in
theorem b_L_law_195 {xs : Nat → Int32} {L d : Nat} {S : Nat → Shp} {I : Nat → Nat → Int32} {J : Nat → Nat → Int64} {R : Nat → Nat → Nat} {c : Nat × Nat} {Q : Option (Option Value) → MH → Prop} {x3 : Int32} (hL : Lay S R)  (k : X xs L d 105 0 [.ref 1, .null, .null] [] (S, I, J, R, c) (Kc xs L (d + 1) 168 199 [.retAddr 0, .ref 1, .ref 65, .int x3] [] Q)) : X xs L (d + 1) 168 195 [.retAddr 0, .ref 1, .ref 65, .int x3] [] (S, I, J, R, c) Q := by
  refine X_aload_n (q := 1) (show decode (mB 168) 195 = .ok (.aload_n 1, 1) by decide +kernel) (pc' := 196) rfl rfl rfl ?_
  exact X_callV (y := 105) (n := 0) (st := [.ref 1]) (as := [.ref 1]) (rest := []) (ls0 := [.ref 1, .null, .null]) (ci := 9) (show decode (mB 168) 196 = .ok (.invokevirtual 28, 3) by decide +kernel) (pc' := 199) rfl (by decide +kernel) (by decide +kernel) rfl (ls_1 hL) (by decide +kernel) rfl rfl rfl rfl rfl k
set_option maxRecDepth 4000 in
theorem b_L_law_199 {xs : Nat → Int32} {L d : Nat} {S : Nat → Shp} {I : Nat → Nat → Int32} {J : Nat → Nat → Int64} {R : Nat → Nat → Nat} {c : Nat × Nat} {Q : Option (Option Value) → MH → Prop} {x3 sx0 : Int32} (hL : Lay S R)  (k : X xs L d 147 0 [.ref 65, .null] [] (S, I, J, R, c) (Kc xs L (d + 1) 168 203 [.retAddr 0, .ref 1, .ref 65, .int x3] [.int sx0] Q)) : X xs L (d + 1) 168 199 [.retAddr 0, .ref 1, .ref 65, .int x3] [.int sx0] (S, I, J, R, c) Q := by
  refine X_aload_n (q := 2) (show decode (mB 168) 199 = .ok (.aload_n 2, 1) by decide +kernel) (pc' := 200) rfl rfl rfl ?_
  exact X_callV (y := 147) (n := 0) (st := [.ref 65, .int sx0]) (as := [.ref 65]) (rest := [.int sx0]) (ls0 := [.ref 65, .null]) (ci := 13) (show decode (mB 168) 200 = .ok (.invokevirtual 31, 3) by decide +kernel) (pc' := 203) rfl (by decide +kernel) (by decide +kernel) rfl (ls_65 hL) (by decide +kernel) rfl rfl rfl rfl rfl k
set_option maxRecDepth 4000 in
theorem b_L_law_203 {xs : Nat → Int32} {L d : Nat} {S : Nat → Shp} {I : Nat → Nat → Int32} {J : Nat → Nat → Int64} {R : Nat → Nat → Nat} {c : Nat × Nat} {Q : Option (Option Value) → MH → Prop} {x3 sx0 sx1 : Int32}  (kt : sx0 = sx1 → X xs L (d + 1) 168 422 [.retAddr 0, .ref 1, .ref 65, .int x3] [] (S, I, J, R, c) Q) (kf : ¬ (sx0 = sx1) → X xs L (d + 1) 168 206 [.retAddr 0, .ref 1, .ref 65, .int x3] [] (S, I, J, R, c) Q) : X xs L (d + 1) 168 203 [.retAddr 0, .ref 1, .ref 65, .int x3] [.int sx1, .int sx0] (S, I, J, R, c) Q := by
  exact X_icmp_eq (tgt := 422) (show decode (mB 168) 203 = .ok (.if_icmp .eq 219, 3) by decide +kernel) rfl (pc' := 206) rfl kt kf
set_option maxRecDepth 4000 in
theorem b_L_law_206 {xs : Nat → Int32} {L d : Nat} {S : Nat → Shp} {I : Nat → Nat → Int32} {J : Nat → Nat → Int64} {R : Nat → Nat → Nat} {c : Nat × Nat} {Q : Option (Option Value) → MH → Prop} {x3 : Int32}  (k : Q (some (some (.int 0))) (S, I, J, R, c)) : X xs L (d + 1) 168 206 [.retAddr 0, .ref 1, .ref 65, .int x3] [] (S, I, J, R, c) Q := by
  refine X_iconst (v := 0) (show decode (mB 168) 206 = .ok (.iconst 0, 1) by decide +kernel) (pc' := 207) rfl rfl ?_
  exact X_ireturn (ty := .boolean) (show decode (mB 168) 207 = .ok (.ireturn, 1) by decide +kernel) (by decide +kernel) rfl k
set_option maxRecDepth 4000 in
theorem b_L_law_208 {xs : Nat → Int32} {L d : Nat} {S : Nat → Shp} {I : Nat → Nat → Int32} {J : Nat → Nat → Int64} {R : Nat → Nat → Nat} {c : Nat × Nat} {Q : Option (Option Value) → MH → Prop} {x3 : Int32} (hL : Lay S R)  (k : X xs L d 106 0 [.ref 1] [] (S, I, J, R, c) (Kc xs L (d + 1) 168 212 [.retAddr 0, .ref 1, .ref 65, .int x3] [] Q)) : X xs L (d + 1) 168 208 [.retAddr 0, .ref 1, .ref 65, .int x3] [] (S, I, J, R, c) Q := by
  refine X_aload_n (q := 1) (show decode (mB 168) 208 = .ok (.aload_n 1, 1) by decide +kernel) (pc' := 209) rfl rfl rfl ?_
  exact X_callV (y := 106) (n := 0) (st := [.ref 1]) (as := [.ref 1]) (rest := []) (ls0 := [.ref 1]) (ci := 9) (show decode (mB 168) 209 = .ok (.invokevirtual 32, 3) by decide +kernel) (pc' := 212) rfl (by decide +kernel) (by decide +kernel) rfl (ls_1 hL) (by decide +kernel) rfl rfl rfl rfl rfl k
set_option maxRecDepth 4000 in
theorem b_L_law_212 {xs : Nat → Int32} {L d : Nat} {S : Nat → Shp} {I : Nat → Nat → Int32} {J : Nat → Nat → Int64} {R : Nat → Nat → Nat} {c : Nat × Nat} {Q : Option (Option Value) → MH → Prop} {x3 sx0 : Int32} (hL : Lay S R)  (k : X xs L d 157 0 [.ref 65, .null, .null] [] (S, I, J, R, c) (Kc xs L (d + 1) 168 216 [.retAddr 0, .ref 1, .ref 65, .int x3] [.int sx0] Q)) : X xs L (d + 1) 168 212 [.retAddr 0, .ref 1, .ref 65, .int x3] [.int sx0] (S, I, J, R, c) Q := by
  refine X_aload_n (q := 2) (show decode (mB 168) 212 = .ok (.aload_n 2, 1) by decide +kernel) (pc' := 213) rfl rfl rfl ?_
  exact X_callV (y := 157) (n := 0) (st := [.ref 65, .int sx0]) (as := [.ref 65]) (rest := [.int sx0]) (ls0 := [.ref 65, .null, .null]) (ci := 13) (show decode (mB 168) 213 = .ok (.invokevirtual 35, 3) by decide +kernel) (pc' := 216) rfl (by decide +kernel) (by decide +kernel) rfl (ls_65 hL) (by decide +kernel) rfl rfl rfl rfl rfl k
set_option maxRecDepth 4000 in
theorem b_L_law_216 {xs : Nat → Int32} {L d : Nat} {S : Nat → Shp} {I : Nat → Nat → Int32} {J : Nat → Nat → Int64} {R : Nat → Nat → Nat} {c : Nat × Nat} {Q : Option (Option Value) → MH → Prop} {x3 sx0 sx1 : Int32}  (kt : sx0 = sx1 → X xs L (d + 1) 168 422 [.retAddr 0, .ref 1, .ref 65, .int x3] [] (S, I, J, R, c) Q) (kf : ¬ (sx0 = sx1) → X xs L (d + 1) 168 219 [.retAddr 0, .ref 1, .ref 65, .int x3] [] (S, I, J, R, c) Q) : X xs L (d + 1) 168 216 [.retAddr 0, .ref 1, .ref 65, .int x3] [.int sx1, .int sx0] (S, I, J, R, c) Q := by
  exact X_icmp_eq (tgt := 422) (show decode (mB 168) 216 = .ok (.if_icmp .eq 206, 3) by decide +kernel) rfl (pc' := 219) rfl kt kf
set_option maxRecDepth 4000 in
theorem b_L_law_219 {xs : Nat → Int32} {L d : Nat} {S : Nat → Shp} {I : Nat → Nat → Int32} {J : Nat → Nat → Int64} {R : Nat → Nat → Nat} {c : Nat × Nat} {Q : Option (Option Value) → MH → Prop} {x3 : Int32}  (k : Q (some (some (.int 0))) (S, I, J, R, c)) : X xs L (d + 1) 168 219 [.retAddr 0, .ref 1, .ref 65, .int x3] [] (S, I, J, R, c) Q := by
  refine X_iconst (v := 0) (show decode (mB 168) 219 = .ok (.iconst 0, 1) by decide +kernel) (pc' := 220) rfl rfl ?_
  exact X_ireturn (ty := .boolean) (show decode (mB 168) 220 = .ok (.ireturn, 1) by decide +kernel) (by decide +kernel) rfl k
set_option maxRecDepth 4000 in
theorem b_L_law_221 {xs : Nat → Int32} {L d : Nat} {S : Nat → Shp} {I : Nat → Nat → Int32} {J : Nat → Nat → Int64} {R : Nat → Nat → Nat} {c : Nat × Nat} {Q : Option (Option Value) → MH → Prop} {x3 : Int32} (hL : Lay S R)  (k : X xs L d 107 0 [.ref 1] [] (S, I, J, R, c) (Kc xs L (d + 1) 168 225 [.retAddr 0, .ref 1, .ref 65, .int x3] [] Q)) : X xs L (d + 1) 168 221 [.retAddr 0, .ref 1, .ref 65, .int x3] [] (S, I, J, R, c) Q := by
  refine X_aload_n (q := 1) (show decode (mB 168) 221 = .ok (.aload_n 1, 1) by decide +kernel) (pc' := 222) rfl rfl rfl ?_
  exact X_callV (y := 107) (n := 0) (st := [.ref 1]) (as := [.ref 1]) (rest := []) (ls0 := [.ref 1]) (ci := 9) (show decode (mB 168) 222 = .ok (.invokevirtual 36, 3) by decide +kernel) (pc' := 225) rfl (by decide +kernel) (by decide +kernel) rfl (ls_1 hL) (by decide +kernel) rfl rfl rfl rfl rfl k
set_option maxRecDepth 4000 in
theorem b_L_law_225 {xs : Nat → Int32} {L d : Nat} {S : Nat → Shp} {I : Nat → Nat → Int32} {J : Nat → Nat → Int64} {R : Nat → Nat → Nat} {c : Nat × Nat} {Q : Option (Option Value) → MH → Prop} {x3 sx0 : Int32} (hL : Lay S R)  (k : X xs L d 158 0 [.ref 65, .null, .null] [] (S, I, J, R, c) (Kc xs L (d + 1) 168 229 [.retAddr 0, .ref 1, .ref 65, .int x3] [.int sx0] Q)) : X xs L (d + 1) 168 225 [.retAddr 0, .ref 1, .ref 65, .int x3] [.int sx0] (S, I, J, R, c) Q := by
  refine X_aload_n (q := 2) (show decode (mB 168) 225 = .ok (.aload_n 2, 1) by decide +kernel) (pc' := 226) rfl rfl rfl ?_
  exact X_callV (y := 158) (n := 0) (st := [.ref 65, .int sx0]) (as := [.ref 65]) (rest := [.int sx0]) (ls0 := [.ref 65, .null, .null]) (ci := 13) (show decode (mB 168) 226 = .ok (.invokevirtual 39, 3) by decide +kernel) (pc' := 229) rfl (by decide +kernel) (by decide +kernel) rfl (ls_65 hL) (by decide +kernel) rfl rfl rfl rfl rfl k
set_option maxRecDepth 4000 in
theorem b_L_law_229 {xs : Nat → Int32} {L d : Nat} {S : Nat → Shp} {I : Nat → Nat → Int32} {J : Nat → Nat → Int64} {R : Nat → Nat → Nat} {c : Nat × Nat} {Q : Option (Option Value) → MH → Prop} {x3 sx0 sx1 : Int32}  (kt : sx0 = sx1 → X xs L (d + 1) 168 422 [.retAddr 0, .ref 1, .ref 65, .int x3] [] (S, I, J, R, c) Q) (kf : ¬ (sx0 = sx1) → X xs L (d + 1) 168 232 [.retAddr 0, .ref 1, .ref 65, .int x3] [] (S, I, J, R, c) Q) : X xs L (d + 1) 168 229 [.retAddr 0, .ref 1, .ref 65, .int x3] [.int sx1, .int sx0] (S, I, J, R, c) Q := by
  exact X_icmp_eq (tgt := 422) (show decode (mB 168) 229 = .ok (.if_icmp .eq 193, 3) by decide +kernel) rfl (pc' := 232) rfl kt kf
set_option maxRecDepth 4000 in
theorem b_L_law_232 {xs : Nat → Int32} {L d : Nat} {S : Nat → Shp} {I : Nat → Nat → Int32} {J : Nat → Nat → Int64} {R : Nat → Nat → Nat} {c : Nat × Nat} {Q : Option (Option Value) → MH → Prop} {x3 : Int32}  (k : Q (some (some (.int 0))) (S, I, J, R, c)) : X xs L (d + 1) 168 232 [.retAddr 0, .ref 1, .ref 65, .int x3] [] (S, I, J, R, c) Q := by
  refine X_iconst (v := 0) (show decode (mB 168) 232 = .ok (.iconst 0, 1) by decide +kernel) (pc' := 233) rfl rfl ?_
  exact X_ireturn (ty := .boolean) (show decode (mB 168) 233 = .ok (.ireturn, 1) by decide +kernel) (by decide +kernel) rfl k
set_option maxRecDepth 4000 in
theorem b_L_law_234 {xs : Nat → Int32} {L d : Nat} {S : Nat → Shp} {I : Nat → Nat → Int32} {J : Nat → Nat → Int64} {R : Nat → Nat → Nat} {c : Nat × Nat} {Q : Option (Option Value) → MH → Prop} {x3 : Int32} (hL : Lay S R) (hb239 : inb (x3 + 1) L = true) (k : X xs L d 108 0 [.ref 1, .int (xs (x3 + 1).toNatClampNeg)] [] (S, I, J, R, c) (Kc xs L (d + 1) 168 243 [.retAddr 0, .ref 1, .ref 65, .int x3] [] Q)) : X xs L (d + 1) 168 234 [.retAddr 0, .ref 1, .ref 65, .int x3] [] (S, I, J, R, c) Q := by
  refine X_aload_n (q := 1) (show decode (mB 168) 234 = .ok (.aload_n 1, 1) by decide +kernel) (pc' := 235) rfl rfl rfl ?_
  refine X_eload_n (q := 0) (show decode (mB 168) 235 = .ok (.aload_n 0, 1) by decide +kernel) (pc' := 236) rfl rfl rfl ?_
  refine X_iload_n (q := 3) (show decode (mB 168) 236 = .ok (.iload_n 3, 1) by decide +kernel) (pc' := 237) rfl rfl rfl ?_
  refine X_iconst (v := 1) (show decode (mB 168) 237 = .ok (.iconst 1, 1) by decide +kernel) (pc' := 238) rfl rfl ?_
  refine X_iadd (show decode (mB 168) 238 = .ok (.iadd, 1) by decide +kernel) (pc' := 239) rfl ?_
  refine X_saload (show decode (mB 168) 239 = .ok (.iaload, 1) by decide +kernel) (pc' := 240) rfl hb239 ?_
  exact X_callV (y := 108) (n := 1) (st := [.int (xs (x3 + 1).toNatClampNeg), .ref 1]) (as := [.ref 1, .int (xs (x3 + 1).toNatClampNeg)]) (rest := []) (ls0 := [.ref 1, .int (xs (x3 + 1).toNatClampNeg)]) (ci := 9) (show decode (mB 168) 240 = .ok (.invokevirtual 40, 3) by decide +kernel) (pc' := 243) rfl (by decide +kernel) (by decide +kernel) rfl (ls_1 hL) (by decide +kernel) rfl rfl rfl rfl rfl k
set_option maxRecDepth 4000 in
theorem b_L_law_243 {xs : Nat → Int32} {L d : Nat} {S : Nat → Shp} {I : Nat → Nat → Int32} {J : Nat → Nat → Int64} {R : Nat → Nat → Nat} {c : Nat × Nat} {Q : Option (Option Value) → MH → Prop} {x3 sx0 : Int32} (hL : Lay S R) (hb248 : inb (x3 + 1) L = true) (k : X xs L d 159 0 [.ref 65, .int (xs (x3 + 1).toNatClampNeg), .null, .null] [] (S, I, J, R, c) (Kc xs L (d + 1) 168 252 [.retAddr 0, .ref 1, .ref 65, .int x3] [.int sx0] Q)) : X xs L (d + 1) 168 243 [.retAddr 0, .ref 1, .ref 65, .int x3] [.int sx0] (S, I, J, R, c) Q := by
  refine X_aload_n (q := 2) (show decode (mB 168) 243 = .ok (.aload_n 2, 1) by decide +kernel) (pc' := 244) rfl rfl rfl ?_
  refine X_eload_n (q := 0) (show decode (mB 168) 244 = .ok (.aload_n 0, 1) by decide +kernel) (pc' := 245) rfl rfl rfl ?_
  refine X_iload_n (q := 3) (show decode (mB 168) 245 = .ok (.iload_n 3, 1) by decide +kernel) (pc' := 246) rfl rfl rfl ?_
  refine X_iconst (v := 1) (show decode (mB 168) 246 = .ok (.iconst 1, 1) by decide +kernel) (pc' := 247) rfl rfl ?_
  refine X_iadd (show decode (mB 168) 247 = .ok (.iadd, 1) by decide +kernel) (pc' := 248) rfl ?_
  refine X_saload (show decode (mB 168) 248 = .ok (.iaload, 1) by decide +kernel) (pc' := 249) rfl hb248 ?_
  exact X_callV (y := 159) (n := 1) (st := [.int (xs (x3 + 1).toNatClampNeg), .ref 65, .int sx0]) (as := [.ref 65, .int (xs (x3 + 1).toNatClampNeg)]) (rest := [.int sx0]) (ls0 := [.ref 65, .int (xs (x3 + 1).toNatClampNeg), .null, .null]) (ci := 13) (show decode (mB 168) 249 = .ok (.invokevirtual 43, 3) by decide +kernel) (pc' := 252) rfl (by decide +kernel) (by decide +kernel) rfl (ls_65 hL) (by decide +kernel) rfl rfl rfl rfl rfl k
set_option maxRecDepth 4000 in
theorem b_L_law_252 {xs : Nat → Int32} {L d : Nat} {S : Nat → Shp} {I : Nat → Nat → Int32} {J : Nat → Nat → Int64} {R : Nat → Nat → Nat} {c : Nat × Nat} {Q : Option (Option Value) → MH → Prop} {x3 sx0 sx1 : Int32}  (kt : sx0 = sx1 → X xs L (d + 1) 168 422 [.retAddr 0, .ref 1, .ref 65, .int x3] [] (S, I, J, R, c) Q) (kf : ¬ (sx0 = sx1) → X xs L (d + 1) 168 255 [.retAddr 0, .ref 1, .ref 65, .int x3] [] (S, I, J, R, c) Q) : X xs L (d + 1) 168 252 [.retAddr 0, .ref 1, .ref 65, .int x3] [.int sx1, .int sx0] (S, I, J, R, c) Q := by
  exact X_icmp_eq (tgt := 422) (show decode (mB 168) 252 = .ok (.if_icmp .eq 170, 3) by decide +kernel) rfl (pc' := 255) rfl kt kf
set_option maxRecDepth 4000 in
theorem b_L_law_255 {xs : Nat → Int32} {L d : Nat} {S : Nat → Shp} {I : Nat → Nat → Int32} {J : Nat → Nat → Int64} {R : Nat → Nat → Nat} {c : Nat × Nat} {Q : Option (Option Value) → MH → Prop} {x3 : Int32}  (k : Q (some (some (.int 0))) (S, I, J, R, c)) : X xs L (d + 1) 168 255 [.retAddr 0, .ref 1, .ref 65, .int x3] [] (S, I, J, R, c) Q := by
  refine X_iconst (v := 0) (show decode (mB 168) 255 = .ok (.iconst 0, 1) by decide +kernel) (pc' := 256) rfl rfl ?_
  exact X_ireturn (ty := .boolean) (show decode (mB 168) 256 = .ok (.ireturn, 1) by decide +kernel) (by decide +kernel) rfl k
set_option maxRecDepth 4000 in
theorem b_L_law_257 {xs : Nat → Int32} {L d : Nat} {S : Nat → Shp} {I : Nat → Nat → Int32} {J : Nat → Nat → Int64} {R : Nat → Nat → Nat} {c : Nat × Nat} {Q : Option (Option Value) → MH → Prop} {x3 : Int32} (hL : Lay S R) (hb262 : inb (x3 + 1) L = true) (hb267 : inb (x3 + 2) L = true) (k : X xs L d 109 0 [.ref 1, .int (xs (x3 + 1).toNatClampNeg), .int (xs (x3 + 2).toNatClampNeg)] [] (S, I, J, R, c) (Kc xs L (d + 1) 168 271 [.retAddr 0, .ref 1, .ref 65, .int x3] [] Q)) : X xs L (d + 1) 168 257 [.retAddr 0, .ref 1, .ref 65, .int x3] [] (S, I, J, R, c) Q := by
  refine X_aload_n (q := 1) (show decode (mB 168) 257 = .ok (.aload_n 1, 1) by decide +kernel) (pc' := 258) rfl rfl rfl ?_
  refine X_eload_n (q := 0) (show decode (mB 168) 258 = .ok (.aload_n 0, 1) by decide +kernel) (pc' := 259) rfl rfl rfl ?_
  refine X_iload_n (q := 3) (show decode (mB 168) 259 = .ok (.iload_n 3, 1) by decide +kernel) (pc' := 260) rfl rfl rfl ?_
  refine X_iconst (v := 1) (show decode (mB 168) 260 = .ok (.iconst 1, 1) by decide +kernel) (pc' := 261) rfl rfl ?_
  refine X_iadd (show decode (mB 168) 261 = .ok (.iadd, 1) by decide +kernel) (pc' := 262) rfl ?_
  refine X_saload (show decode (mB 168) 262 = .ok (.iaload, 1) by decide +kernel) (pc' := 263) rfl hb262 ?_
  refine X_eload_n (q := 0) (show decode (mB 168) 263 = .ok (.aload_n 0, 1) by decide +kernel) (pc' := 264) rfl rfl rfl ?_
  refine X_iload_n (q := 3) (show decode (mB 168) 264 = .ok (.iload_n 3, 1) by decide +kernel) (pc' := 265) rfl rfl rfl ?_
  refine X_iconst (v := 2) (show decode (mB 168) 265 = .ok (.iconst 2, 1) by decide +kernel) (pc' := 266) rfl rfl ?_
  refine X_iadd (show decode (mB 168) 266 = .ok (.iadd, 1) by decide +kernel) (pc' := 267) rfl ?_
  refine X_saload (show decode (mB 168) 267 = .ok (.iaload, 1) by decide +kernel) (pc' := 268) rfl hb267 ?_
  exact X_callV (y := 109) (n := 2) (st := [.int (xs (x3 + 2).toNatClampNeg), .int (xs (x3 + 1).toNatClampNeg), .ref 1]) (as := [.ref 1, .int (xs (x3 + 1).toNatClampNeg), .int (xs (x3 + 2).toNatClampNeg)]) (rest := []) (ls0 := [.ref 1, .int (xs (x3 + 1).toNatClampNeg), .int (xs (x3 + 2).toNatClampNeg)]) (ci := 9) (show decode (mB 168) 268 = .ok (.invokevirtual 44, 3) by decide +kernel) (pc' := 271) rfl (by decide +kernel) (by decide +kernel) rfl (ls_1 hL) (by decide +kernel) rfl rfl rfl rfl rfl k
set_option maxRecDepth 4000 in
theorem b_L_law_271 {xs : Nat → Int32} {L d : Nat} {S : Nat → Shp} {I : Nat → Nat → Int32} {J : Nat → Nat → Int64} {R : Nat → Nat → Nat} {c : Nat × Nat} {Q : Option (Option Value) → MH → Prop} {x3 sx0 : Int32} (hL : Lay S R) (hb276 : inb (x3 + 1) L = true) (hb281 : inb (x3 + 2) L = true) (k : X xs L d 160 0 [.ref 65, .int (xs (x3 + 1).toNatClampNeg), .int (xs (x3 + 2).toNatClampNeg)] [] (S, I, J, R, c) (Kc xs L (d + 1) 168 285 [.retAddr 0, .ref 1, .ref 65, .int x3] [.int sx0] Q)) : X xs L (d + 1) 168 271 [.retAddr 0, .ref 1, .ref 65, .int x3] [.int sx0] (S, I, J, R, c) Q := by
  refine X_aload_n (q := 2) (show decode (mB 168) 271 = .ok (.aload_n 2, 1) by decide +kernel) (pc' := 272) rfl rfl rfl ?_
  refine X_eload_n (q := 0) (show decode (mB 168) 272 = .ok (.aload_n 0, 1) by decide +kernel) (pc' := 273) rfl rfl rfl ?_
  refine X_iload_n (q := 3) (show decode (mB 168) 273 = .ok (.iload_n 3, 1) by decide +kernel) (pc' := 274) rfl rfl rfl ?_
  refine X_iconst (v := 1) (show decode (mB 168) 274 = .ok (.iconst 1, 1) by decide +kernel) (pc' := 275) rfl rfl ?_
  refine X_iadd (show decode (mB 168) 275 = .ok (.iadd, 1) by decide +kernel) (pc' := 276) rfl ?_
  refine X_saload (show decode (mB 168) 276 = .ok (.iaload, 1) by decide +kernel) (pc' := 277) rfl hb276 ?_
  refine X_eload_n (q := 0) (show decode (mB 168) 277 = .ok (.aload_n 0, 1) by decide +kernel) (pc' := 278) rfl rfl rfl ?_
  refine X_iload_n (q := 3) (show decode (mB 168) 278 = .ok (.iload_n 3, 1) by decide +kernel) (pc' := 279) rfl rfl rfl ?_
  refine X_iconst (v := 2) (show decode (mB 168) 279 = .ok (.iconst 2, 1) by decide +kernel) (pc' := 280) rfl rfl ?_
  refine X_iadd (show decode (mB 168) 280 = .ok (.iadd, 1) by decide +kernel) (pc' := 281) rfl ?_
  refine X_saload (show decode (mB 168) 281 = .ok (.iaload, 1) by decide +kernel) (pc' := 282) rfl hb281 ?_
  exact X_callV (y := 160) (n := 2) (st := [.int (xs (x3 + 2).toNatClampNeg), .int (xs (x3 + 1).toNatClampNeg), .ref 65, .int sx0]) (as := [.ref 65, .int (xs (x3 + 1).toNatClampNeg), .int (xs (x3 + 2).toNatClampNeg)]) (rest := [.int sx0]) (ls0 := [.ref 65, .int (xs (x3 + 1).toNatClampNeg), .int (xs (x3 + 2).toNatClampNeg)]) (ci := 13) (show decode (mB 168) 282 = .ok (.invokevirtual 48, 3) by decide +kernel) (pc' := 285) rfl (by decide +kernel) (by decide +kernel) rfl (ls_65 hL) (by decide +kernel) rfl rfl rfl rfl rfl k
set_option maxRecDepth 4000 in
theorem b_L_law_285 {xs : Nat → Int32} {L d : Nat} {S : Nat → Shp} {I : Nat → Nat → Int32} {J : Nat → Nat → Int64} {R : Nat → Nat → Nat} {c : Nat × Nat} {Q : Option (Option Value) → MH → Prop} {x3 sx0 sx1 : Int32}  (kt : sx0 = sx1 → X xs L (d + 1) 168 422 [.retAddr 0, .ref 1, .ref 65, .int x3] [] (S, I, J, R, c) Q) (kf : ¬ (sx0 = sx1) → X xs L (d + 1) 168 288 [.retAddr 0, .ref 1, .ref 65, .int x3] [] (S, I, J, R, c) Q) : X xs L (d + 1) 168 285 [.retAddr 0, .ref 1, .ref 65, .int x3] [.int sx1, .int sx0] (S, I, J, R, c) Q := by
  exact X_icmp_eq (tgt := 422) (show decode (mB 168) 285 = .ok (.if_icmp .eq 137, 3) by decide +kernel) rfl (pc' := 288) rfl kt kf
set_option maxRecDepth 4000 in
theorem b_L_law_288 {xs : Nat → Int32} {L d : Nat} {S : Nat → Shp} {I : Nat → Nat → Int32} {J : Nat → Nat → Int64} {R : Nat → Nat → Nat} {c : Nat × Nat} {Q : Option (Option Value) → MH → Prop} {x3 : Int32}  (k : Q (some (some (.int 0))) (S, I, J, R, c)) : X xs L (d + 1) 168 288 [.retAddr 0, .ref 1, .ref 65, .int x3] [] (S, I, J, R, c) Q := by
  refine X_iconst (v := 0) (show decode (mB 168) 288 = .ok (.iconst 0, 1) by decide +kernel) (pc' := 289) rfl rfl ?_
  exact X_ireturn (ty := .boolean) (show decode (mB 168) 289 = .ok (.ireturn, 1) by decide +kernel) (by decide +kernel) rfl k
set_option maxRecDepth 4000 in
theorem b_L_law_290 {xs : Nat → Int32} {L d : Nat} {S : Nat → Shp} {I : Nat → Nat → Int32} {J : Nat → Nat → Int64} {R : Nat → Nat → Nat} {c : Nat × Nat} {Q : Option (Option Value) → MH → Prop} {x3 : Int32} (hL : Lay S R) (hb295 : inb (x3 + 1) L = true) (hb300 : inb (x3 + 2) L = true) (hb305 : inb (x3 + 3) L = true) (k : X xs L d 110 0 [.ref 1, .int (xs (x3 + 1).toNatClampNeg), .int (xs (x3 + 2).toNatClampNeg), .int (xs (x3 + 3).toNatClampNeg)] [] (S, I, J, R, c) (Kc xs L (d + 1) 168 309 [.retAddr 0, .ref 1, .ref 65, .int x3] [] Q)) : X xs L (d + 1) 168 290 [.retAddr 0, .ref 1, .ref 65, .int x3] [] (S, I, J, R, c) Q := by
  refine X_aload_n (q := 1) (show decode (mB 168) 290 = .ok (.aload_n 1, 1) by decide +kernel) (pc' := 291) rfl rfl rfl ?_
  refine X_eload_n (q := 0) (show decode (mB 168) 291 = .ok (.aload_n 0, 1) by decide +kernel) (pc' := 292) rfl rfl rfl ?_
  refine X_iload_n (q := 3) (show decode (mB 168) 292 = .ok (.iload_n 3, 1) by decide +kernel) (pc' := 293) rfl rfl rfl ?_
  refine X_iconst (v := 1) (show decode (mB 168) 293 = .ok (.iconst 1, 1) by decide +kernel) (pc' := 294) rfl rfl ?_
  refine X_iadd (show decode (mB 168) 294 = .ok (.iadd, 1) by decide +kernel) (pc' := 295) rfl ?_
  refine X_saload (show decode (mB 168) 295 = .ok (.iaload, 1) by decide +kernel) (pc' := 296) rfl hb295 ?_
  refine X_eload_n (q := 0) (show decode (mB 168) 296 = .ok (.aload_n 0, 1) by decide +kernel) (pc' := 297) rfl rfl rfl ?_
  refine X_iload_n (q := 3) (show decode (mB 168) 297 = .ok (.iload_n 3, 1) by decide +kernel) (pc' := 298) rfl rfl rfl ?_
  refine X_iconst (v := 2) (show decode (mB 168) 298 = .ok (.iconst 2, 1) by decide +kernel) (pc' := 299) rfl rfl ?_
  refine X_iadd (show decode (mB 168) 299 = .ok (.iadd, 1) by decide +kernel) (pc' := 300) rfl ?_
  refine X_saload (show decode (mB 168) 300 = .ok (.iaload, 1) by decide +kernel) (pc' := 301) rfl hb300 ?_
  refine X_eload_n (q := 0) (show decode (mB 168) 301 = .ok (.aload_n 0, 1) by decide +kernel) (pc' := 302) rfl rfl rfl ?_
  refine X_iload_n (q := 3) (show decode (mB 168) 302 = .ok (.iload_n 3, 1) by decide +kernel) (pc' := 303) rfl rfl rfl ?_
  refine X_iconst (v := 3) (show decode (mB 168) 303 = .ok (.iconst 3, 1) by decide +kernel) (pc' := 304) rfl rfl ?_
  refine X_iadd (show decode (mB 168) 304 = .ok (.iadd, 1) by decide +kernel) (pc' := 305) rfl ?_
  refine X_saload (show decode (mB 168) 305 = .ok (.iaload, 1) by decide +kernel) (pc' := 306) rfl hb305 ?_
  exact X_callV (y := 110) (n := 3) (st := [.int (xs (x3 + 3).toNatClampNeg), .int (xs (x3 + 2).toNatClampNeg), .int (xs (x3 + 1).toNatClampNeg), .ref 1]) (as := [.ref 1, .int (xs (x3 + 1).toNatClampNeg), .int (xs (x3 + 2).toNatClampNeg), .int (xs (x3 + 3).toNatClampNeg)]) (rest := []) (ls0 := [.ref 1, .int (xs (x3 + 1).toNatClampNeg), .int (xs (x3 + 2).toNatClampNeg), .int (xs (x3 + 3).toNatClampNeg)]) (ci := 9) (show decode (mB 168) 306 = .ok (.invokevirtual 49, 3) by decide +kernel) (pc' := 309) rfl (by decide +kernel) (by decide +kernel) rfl (ls_1 hL) (by decide +kernel) rfl rfl rfl rfl rfl k
set_option maxRecDepth 4000 in
theorem b_L_law_309 {xs : Nat → Int32} {L d : Nat} {S : Nat → Shp} {I : Nat → Nat → Int32} {J : Nat → Nat → Int64} {R : Nat → Nat → Nat} {c : Nat × Nat} {Q : Option (Option Value) → MH → Prop} {x3 sx0 : Int32} (hL : Lay S R) (hb314 : inb (x3 + 1) L = true) (hb319 : inb (x3 + 2) L = true) (hb324 : inb (x3 + 3) L = true) (k : X xs L d 162 0 [.ref 65, .int (xs (x3 + 1).toNatClampNeg), .int (xs (x3 + 2).toNatClampNeg), .int (xs (x3 + 3).toNatClampNeg)] [] (S, I, J, R, c) (Kc xs L (d + 1) 168 328 [.retAddr 0, .ref 1, .ref 65, .int x3] [.int sx0] Q)) : X xs L (d + 1) 168 309 [.retAddr 0, .ref 1, .ref 65, .int x3] [.int sx0] (S, I, J, R, c) Q := by
  refine X_aload_n (q := 2) (show decode (mB 168) 309 = .ok (.aload_n 2, 1) by decide +kernel) (pc' := 310) rfl rfl rfl ?_
  refine X_eload_n (q := 0) (show decode (mB 168) 310 = .ok (.aload_n 0, 1) by decide +kernel) (pc' := 311) rfl rfl rfl ?_
  refine X_iload_n (q := 3) (show decode (mB 168) 311 = .ok (.iload_n 3, 1) by decide +kernel) (pc' := 312) rfl rfl rfl ?_
  refine X_iconst (v := 1) (show decode (mB 168) 312 = .ok (.iconst 1, 1) by decide +kernel) (pc' := 313) rfl rfl ?_
  refine X_iadd (show decode (mB 168) 313 = .ok (.iadd, 1) by decide +kernel) (pc' := 314) rfl ?_
  refine X_saload (show decode (mB 168) 314 = .ok (.iaload, 1) by decide +kernel) (pc' := 315) rfl hb314 ?_
  refine X_eload_n (q := 0) (show decode (mB 168) 315 = .ok (.aload_n 0, 1) by decide +kernel) (pc' := 316) rfl rfl rfl ?_
  refine X_iload_n (q := 3) (show decode (mB 168) 316 = .ok (.iload_n 3, 1) by decide +kernel) (pc' := 317) rfl rfl rfl ?_
  refine X_iconst (v := 2) (show decode (mB 168) 317 = .ok (.iconst 2, 1) by decide +kernel) (pc' := 318) rfl rfl ?_
  refine X_iadd (show decode (mB 168) 318 = .ok (.iadd, 1) by decide +kernel) (pc' := 319) rfl ?_
  refine X_saload (show decode (mB 168) 319 = .ok (.iaload, 1) by decide +kernel) (pc' := 320) rfl hb319 ?_
  refine X_eload_n (q := 0) (show decode (mB 168) 320 = .ok (.aload_n 0, 1) by decide +kernel) (pc' := 321) rfl rfl rfl ?_
  refine X_iload_n (q := 3) (show decode (mB 168) 321 = .ok (.iload_n 3, 1) by decide +kernel) (pc' := 322) rfl rfl rfl ?_
  refine X_iconst (v := 3) (show decode (mB 168) 322 = .ok (.iconst 3, 1) by decide +kernel) (pc' := 323) rfl rfl ?_
  refine X_iadd (show decode (mB 168) 323 = .ok (.iadd, 1) by decide +kernel) (pc' := 324) rfl ?_
  refine X_saload (show decode (mB 168) 324 = .ok (.iaload, 1) by decide +kernel) (pc' := 325) rfl hb324 ?_
  exact X_callV (y := 162) (n := 3) (st := [.int (xs (x3 + 3).toNatClampNeg), .int (xs (x3 + 2).toNatClampNeg), .int (xs (x3 + 1).toNatClampNeg), .ref 65, .int sx0]) (as := [.ref 65, .int (xs (x3 + 1).toNatClampNeg), .int (xs (x3 + 2).toNatClampNeg), .int (xs (x3 + 3).toNatClampNeg)]) (rest := [.int sx0]) (ls0 := [.ref 65, .int (xs (x3 + 1).toNatClampNeg), .int (xs (x3 + 2).toNatClampNeg), .int (xs (x3 + 3).toNatClampNeg)]) (ci := 13) (show decode (mB 168) 325 = .ok (.invokevirtual 53, 3) by decide +kernel) (pc' := 328) rfl (by decide +kernel) (by decide +kernel) rfl (ls_65 hL) (by decide +kernel) rfl rfl rfl rfl rfl k
set_option maxRecDepth 4000 in
theorem b_L_law_328 {xs : Nat → Int32} {L d : Nat} {S : Nat → Shp} {I : Nat → Nat → Int32} {J : Nat → Nat → Int64} {R : Nat → Nat → Nat} {c : Nat × Nat} {Q : Option (Option Value) → MH → Prop} {x3 sx0 sx1 : Int32}  (kt : sx0 = sx1 → X xs L (d + 1) 168 422 [.retAddr 0, .ref 1, .ref 65, .int x3] [] (S, I, J, R, c) Q) (kf : ¬ (sx0 = sx1) → X xs L (d + 1) 168 331 [.retAddr 0, .ref 1, .ref 65, .int x3] [] (S, I, J, R, c) Q) : X xs L (d + 1) 168 328 [.retAddr 0, .ref 1, .ref 65, .int x3] [.int sx1, .int sx0] (S, I, J, R, c) Q := by
  exact X_icmp_eq (tgt := 422) (show decode (mB 168) 328 = .ok (.if_icmp .eq 94, 3) by decide +kernel) rfl (pc' := 331) rfl kt kf
set_option maxRecDepth 4000 in
theorem b_L_law_331 {xs : Nat → Int32} {L d : Nat} {S : Nat → Shp} {I : Nat → Nat → Int32} {J : Nat → Nat → Int64} {R : Nat → Nat → Nat} {c : Nat × Nat} {Q : Option (Option Value) → MH → Prop} {x3 : Int32}  (k : Q (some (some (.int 0))) (S, I, J, R, c)) : X xs L (d + 1) 168 331 [.retAddr 0, .ref 1, .ref 65, .int x3] [] (S, I, J, R, c) Q := by
  refine X_iconst (v := 0) (show decode (mB 168) 331 = .ok (.iconst 0, 1) by decide +kernel) (pc' := 332) rfl rfl ?_
  exact X_ireturn (ty := .boolean) (show decode (mB 168) 332 = .ok (.ireturn, 1) by decide +kernel) (by decide +kernel) rfl k
set_option maxRecDepth 4000 in
theorem b_L_law_333 {xs : Nat → Int32} {L d : Nat} {S : Nat → Shp} {I : Nat → Nat → Int32} {J : Nat → Nat → Int64} {R : Nat → Nat → Nat} {c : Nat × Nat} {Q : Option (Option Value) → MH → Prop} {x3 : Int32} (hL : Lay S R) (hb338 : inb (x3 + 1) L = true) (hb343 : inb (x3 + 2) L = true) (hb348 : inb (x3 + 3) L = true) (k : X xs L d 111 0 [.ref 1, .int (xs (x3 + 1).toNatClampNeg), .int (xs (x3 + 2).toNatClampNeg), .int (xs (x3 + 3).toNatClampNeg)] [] (S, I, J, R, c) (Kc xs L (d + 1) 168 352 [.retAddr 0, .ref 1, .ref 65, .int x3] [] Q)) : X xs L (d + 1) 168 333 [.retAddr 0, .ref 1, .ref 65, .int x3] [] (S, I, J, R, c) Q := by
  refine X_aload_n (q := 1) (show decode (mB 168) 333 = .ok (.aload_n 1, 1) by decide +kernel) (pc' := 334) rfl rfl rfl ?_
  refine X_eload_n (q := 0) (show decode (mB 168) 334 = .ok (.aload_n 0, 1) by decide +kernel) (pc' := 335) rfl rfl rfl ?_
  refine X_iload_n (q := 3) (show decode (mB 168) 335 = .ok (.iload_n 3, 1) by decide +kernel) (pc' := 336) rfl rfl rfl ?_
  refine X_iconst (v := 1) (show decode (mB 168) 336 = .ok (.iconst 1, 1) by decide +kernel) (pc' := 337) rfl rfl ?_
  refine X_iadd (show decode (mB 168) 337 = .ok (.iadd, 1) by decide +kernel) (pc' := 338) rfl ?_
  refine X_saload (show decode (mB 168) 338 = .ok (.iaload, 1) by decide +kernel) (pc' := 339) rfl hb338 ?_
  refine X_eload_n (q := 0) (show decode (mB 168) 339 = .ok (.aload_n 0, 1) by decide +kernel) (pc' := 340) rfl rfl rfl ?_
  refine X_iload_n (q := 3) (show decode (mB 168) 340 = .ok (.iload_n 3, 1) by decide +kernel) (pc' := 341) rfl rfl rfl ?_
  refine X_iconst (v := 2) (show decode (mB 168) 341 = .ok (.iconst 2, 1) by decide +kernel) (pc' := 342) rfl rfl ?_
  refine X_iadd (show decode (mB 168) 342 = .ok (.iadd, 1) by decide +kernel) (pc' := 343) rfl ?_
  refine X_saload (show decode (mB 168) 343 = .ok (.iaload, 1) by decide +kernel) (pc' := 344) rfl hb343 ?_
  refine X_eload_n (q := 0) (show decode (mB 168) 344 = .ok (.aload_n 0, 1) by decide +kernel) (pc' := 345) rfl rfl rfl ?_
  refine X_iload_n (q := 3) (show decode (mB 168) 345 = .ok (.iload_n 3, 1) by decide +kernel) (pc' := 346) rfl rfl rfl ?_
  refine X_iconst (v := 3) (show decode (mB 168) 346 = .ok (.iconst 3, 1) by decide +kernel) (pc' := 347) rfl rfl ?_
  refine X_iadd (show decode (mB 168) 347 = .ok (.iadd, 1) by decide +kernel) (pc' := 348) rfl ?_
  refine X_saload (show decode (mB 168) 348 = .ok (.iaload, 1) by decide +kernel) (pc' := 349) rfl hb348 ?_
  exact X_callV (y := 111) (n := 3) (st := [.int (xs (x3 + 3).toNatClampNeg), .int (xs (x3 + 2).toNatClampNeg), .int (xs (x3 + 1).toNatClampNeg), .ref 1]) (as := [.ref 1, .int (xs (x3 + 1).toNatClampNeg), .int (xs (x3 + 2).toNatClampNeg), .int (xs (x3 + 3).toNatClampNeg)]) (rest := []) (ls0 := [.ref 1, .int (xs (x3 + 1).toNatClampNeg), .int (xs (x3 + 2).toNatClampNeg), .int (xs (x3 + 3).toNatClampNeg)]) (ci := 9) (show decode (mB 168) 349 = .ok (.invokevirtual 54, 3) by decide +kernel) (pc' := 352) rfl (by decide +kernel) (by decide +kernel) rfl (ls_1 hL) (by decide +kernel) rfl rfl rfl rfl rfl k
set_option maxRecDepth 4000 in
theorem b_L_law_352 {xs : Nat → Int32} {L d : Nat} {S : Nat → Shp} {I : Nat → Nat → Int32} {J : Nat → Nat → Int64} {R : Nat → Nat → Nat} {c : Nat × Nat} {Q : Option (Option Value) → MH → Prop} {x3 sx0 : Int32} (hL : Lay S R) (hb357 : inb (x3 + 1) L = true) (hb362 : inb (x3 + 2) L = true) (hb367 : inb (x3 + 3) L = true) (k : X xs L d 163 0 [.ref 65, .int (xs (x3 + 1).toNatClampNeg), .int (xs (x3 + 2).toNatClampNeg), .int (xs (x3 + 3).toNatClampNeg), .null, .null] [] (S, I, J, R, c) (Kc xs L (d + 1) 168 371 [.retAddr 0, .ref 1, .ref 65, .int x3] [.int sx0] Q)) : X xs L (d + 1) 168 352 [.retAddr 0, .ref 1, .ref 65, .int x3] [.int sx0] (S, I, J, R, c) Q := by
  refine X_aload_n (q := 2) (show decode (mB 168) 352 = .ok (.aload_n 2, 1) by decide +kernel) (pc' := 353) rfl rfl rfl ?_
  refine X_eload_n (q := 0) (show decode (mB 168) 353 = .ok (.aload_n 0, 1) by decide +kernel) (pc' := 354) rfl rfl rfl ?_
  refine X_iload_n (q := 3) (show decode (mB 168) 354 = .ok (.iload_n 3, 1) by decide +kernel) (pc' := 355) rfl rfl rfl ?_
  refine X_iconst (v := 1) (show decode (mB 168) 355 = .ok (.iconst 1, 1) by decide +kernel) (pc' := 356) rfl rfl ?_
  refine X_iadd (show decode (mB 168) 356 = .ok (.iadd, 1) by decide +kernel) (pc' := 357) rfl ?_
  refine X_saload (show decode (mB 168) 357 = .ok (.iaload, 1) by decide +kernel) (pc' := 358) rfl hb357 ?_
  refine X_eload_n (q := 0) (show decode (mB 168) 358 = .ok (.aload_n 0, 1) by decide +kernel) (pc' := 359) rfl rfl rfl ?_
  refine X_iload_n (q := 3) (show decode (mB 168) 359 = .ok (.iload_n 3, 1) by decide +kernel) (pc' := 360) rfl rfl rfl ?_
  refine X_iconst (v := 2) (show decode (mB 168) 360 = .ok (.iconst 2, 1) by decide +kernel) (pc' := 361) rfl rfl ?_
  refine X_iadd (show decode (mB 168) 361 = .ok (.iadd, 1) by decide +kernel) (pc' := 362) rfl ?_
  refine X_saload (show decode (mB 168) 362 = .ok (.iaload, 1) by decide +kernel) (pc' := 363) rfl hb362 ?_
  refine X_eload_n (q := 0) (show decode (mB 168) 363 = .ok (.aload_n 0, 1) by decide +kernel) (pc' := 364) rfl rfl rfl ?_
  refine X_iload_n (q := 3) (show decode (mB 168) 364 = .ok (.iload_n 3, 1) by decide +kernel) (pc' := 365) rfl rfl rfl ?_
  refine X_iconst (v := 3) (show decode (mB 168) 365 = .ok (.iconst 3, 1) by decide +kernel) (pc' := 366) rfl rfl ?_
  refine X_iadd (show decode (mB 168) 366 = .ok (.iadd, 1) by decide +kernel) (pc' := 367) rfl ?_
  refine X_saload (show decode (mB 168) 367 = .ok (.iaload, 1) by decide +kernel) (pc' := 368) rfl hb367 ?_
  exact X_callV (y := 163) (n := 3) (st := [.int (xs (x3 + 3).toNatClampNeg), .int (xs (x3 + 2).toNatClampNeg), .int (xs (x3 + 1).toNatClampNeg), .ref 65, .int sx0]) (as := [.ref 65, .int (xs (x3 + 1).toNatClampNeg), .int (xs (x3 + 2).toNatClampNeg), .int (xs (x3 + 3).toNatClampNeg)]) (rest := [.int sx0]) (ls0 := [.ref 65, .int (xs (x3 + 1).toNatClampNeg), .int (xs (x3 + 2).toNatClampNeg), .int (xs (x3 + 3).toNatClampNeg), .null, .null]) (ci := 13) (show decode (mB 168) 368 = .ok (.invokevirtual 57, 3) by decide +kernel) (pc' := 371) rfl (by decide +kernel) (by decide +kernel) rfl (ls_65 hL) (by decide +kernel) rfl rfl rfl rfl rfl k
set_option maxRecDepth 4000 in
theorem b_L_law_371 {xs : Nat → Int32} {L d : Nat} {S : Nat → Shp} {I : Nat → Nat → Int32} {J : Nat → Nat → Int64} {R : Nat → Nat → Nat} {c : Nat × Nat} {Q : Option (Option Value) → MH → Prop} {x3 sx0 sx1 : Int32}  (kt : sx0 = sx1 → X xs L (d + 1) 168 422 [.retAddr 0, .ref 1, .ref 65, .int x3] [] (S, I, J, R, c) Q) (kf : ¬ (sx0 = sx1) → X xs L (d + 1) 168 374 [.retAddr 0, .ref 1, .ref 65, .int x3] [] (S, I, J, R, c) Q) : X xs L (d + 1) 168 371 [.retAddr 0, .ref 1, .ref 65, .int x3] [.int sx1, .int sx0] (S, I, J, R, c) Q := by
  exact X_icmp_eq (tgt := 422) (show decode (mB 168) 371 = .ok (.if_icmp .eq 51, 3) by decide +kernel) rfl (pc' := 374) rfl kt kf
set_option maxRecDepth 4000 in
theorem b_L_law_374 {xs : Nat → Int32} {L d : Nat} {S : Nat → Shp} {I : Nat → Nat → Int32} {J : Nat → Nat → Int64} {R : Nat → Nat → Nat} {c : Nat × Nat} {Q : Option (Option Value) → MH → Prop} {x3 : Int32}  (k : Q (some (some (.int 0))) (S, I, J, R, c)) : X xs L (d + 1) 168 374 [.retAddr 0, .ref 1, .ref 65, .int x3] [] (S, I, J, R, c) Q := by
  refine X_iconst (v := 0) (show decode (mB 168) 374 = .ok (.iconst 0, 1) by decide +kernel) (pc' := 375) rfl rfl ?_
  exact X_ireturn (ty := .boolean) (show decode (mB 168) 375 = .ok (.ireturn, 1) by decide +kernel) (by decide +kernel) rfl k
set_option maxRecDepth 4000 in
theorem b_L_law_376 {xs : Nat → Int32} {L d : Nat} {S : Nat → Shp} {I : Nat → Nat → Int32} {J : Nat → Nat → Int64} {R : Nat → Nat → Nat} {c : Nat × Nat} {Q : Option (Option Value) → MH → Prop} {x3 : Int32} (hL : Lay S R) (hb381 : inb (x3 + 1) L = true) (k : X xs L d 112 0 [.ref 1, .int (xs (x3 + 1).toNatClampNeg)] [] (S, I, J, R, c) (Kc xs L (d + 1) 168 385 [.retAddr 0, .ref 1, .ref 65, .int x3] [] Q)) : X xs L (d + 1) 168 376 [.retAddr 0, .ref 1, .ref 65, .int x3] [] (S, I, J, R, c) Q := by
  refine X_aload_n (q := 1) (show decode (mB 168) 376 = .ok (.aload_n 1, 1) by decide +kernel) (pc' := 377) rfl rfl rfl ?_
  refine X_eload_n (q := 0) (show decode (mB 168) 377 = .ok (.aload_n 0, 1) by decide +kernel) (pc' := 378) rfl rfl rfl ?_
  refine X_iload_n (q := 3) (show decode (mB 168) 378 = .ok (.iload_n 3, 1) by decide +kernel) (pc' := 379) rfl rfl rfl ?_
  refine X_iconst (v := 1) (show decode (mB 168) 379 = .ok (.iconst 1, 1) by decide +kernel) (pc' := 380) rfl rfl ?_
  refine X_iadd (show decode (mB 168) 380 = .ok (.iadd, 1) by decide +kernel) (pc' := 381) rfl ?_
  refine X_saload (show decode (mB 168) 381 = .ok (.iaload, 1) by decide +kernel) (pc' := 382) rfl hb381 ?_
  exact X_callV (y := 112) (n := 1) (st := [.int (xs (x3 + 1).toNatClampNeg), .ref 1]) (as := [.ref 1, .int (xs (x3 + 1).toNatClampNeg)]) (rest := []) (ls0 := [.ref 1, .int (xs (x3 + 1).toNatClampNeg)]) (ci := 9) (show decode (mB 168) 382 = .ok (.invokevirtual 58, 3) by decide +kernel) (pc' := 385) rfl (by decide +kernel) (by decide +kernel) rfl (ls_1 hL) (by decide +kernel) rfl rfl rfl rfl rfl k
set_option maxRecDepth 4000 in
theorem b_L_law_385 {xs : Nat → Int32} {L d : Nat} {S : Nat → Shp} {I : Nat → Nat → Int32} {J : Nat → Nat → Int64} {R : Nat → Nat → Nat} {c : Nat × Nat} {Q : Option (Option Value) → MH → Prop} {x3 sx0 : Int32} (hL : Lay S R) (hb390 : inb (x3 + 1) L = true) (k : X xs L d 164 0 [.ref 65, .int (xs (x3 + 1).toNatClampNeg), .null, .null] [] (S, I, J, R, c) (Kc xs L (d + 1) 168 394 [.retAddr 0, .ref 1, .ref 65, .int x3] [.int sx0] Q)) : X xs L (d + 1) 168 385 [.retAddr 0, .ref 1, .ref 65, .int x3] [.int sx0] (S, I, J, R, c) Q := by
  refine X_aload_n (q := 2) (show decode (mB 168) 385 = .ok (.aload_n 2, 1) by decide +kernel) (pc' := 386) rfl rfl rfl ?_
  refine X_eload_n (q := 0) (show decode (mB 168) 386 = .ok (.aload_n 0, 1) by decide +kernel) (pc' := 387) rfl rfl rfl ?_
  refine X_iload_n (q := 3) (show decode (mB 168) 387 = .ok (.iload_n 3, 1) by decide +kernel) (pc' := 388) rfl rfl rfl ?_
  refine X_iconst (v := 1) (show decode (mB 168) 388 = .ok (.iconst 1, 1) by decide +kernel) (pc' := 389) rfl rfl ?_
  refine X_iadd (show decode (mB 168) 389 = .ok (.iadd, 1) by decide +kernel) (pc' := 390) rfl ?_
  refine X_saload (show decode (mB 168) 390 = .ok (.iaload, 1) by decide +kernel) (pc' := 391) rfl hb390 ?_
  exact X_callV (y := 164) (n := 1) (st := [.int (xs (x3 + 1).toNatClampNeg), .ref 65, .int sx0]) (as := [.ref 65, .int (xs (x3 + 1).toNatClampNeg)]) (rest := [.int sx0]) (ls0 := [.ref 65, .int (xs (x3 + 1).toNatClampNeg), .null, .null]) (ci := 13) (show decode (mB 168) 391 = .ok (.invokevirtual 61, 3) by decide +kernel) (pc' := 394) rfl (by decide +kernel) (by decide +kernel) rfl (ls_65 hL) (by decide +kernel) rfl rfl rfl rfl rfl k
set_option maxRecDepth 4000 in
theorem b_L_law_394 {xs : Nat → Int32} {L d : Nat} {S : Nat → Shp} {I : Nat → Nat → Int32} {J : Nat → Nat → Int64} {R : Nat → Nat → Nat} {c : Nat × Nat} {Q : Option (Option Value) → MH → Prop} {x3 sx0 sx1 : Int32}  (kt : sx0 = sx1 → X xs L (d + 1) 168 422 [.retAddr 0, .ref 1, .ref 65, .int x3] [] (S, I, J, R, c) Q) (kf : ¬ (sx0 = sx1) → X xs L (d + 1) 168 397 [.retAddr 0, .ref 1, .ref 65, .int x3] [] (S, I, J, R, c) Q) : X xs L (d + 1) 168 394 [.retAddr 0, .ref 1, .ref 65, .int x3] [.int sx1, .int sx0] (S, I, J, R, c) Q := by
  exact X_icmp_eq (tgt := 422) (show decode (mB 168) 394 = .ok (.if_icmp .eq 28, 3) by decide +kernel) rfl (pc' := 397) rfl kt kf
set_option maxRecDepth 4000 in
theorem b_L_law_397 {xs : Nat → Int32} {L d : Nat} {S : Nat → Shp} {I : Nat → Nat → Int32} {J : Nat → Nat → Int64} {R : Nat → Nat → Nat} {c : Nat × Nat} {Q : Option (Option Value) → MH → Prop} {x3 : Int32}  (k : Q (some (some (.int 0))) (S, I, J, R, c)) : X xs L (d + 1) 168 397 [.retAddr 0, .ref 1, .ref 65, .int x3] [] (S, I, J, R, c) Q := by
  refine X_iconst (v := 0) (show decode (mB 168) 397 = .ok (.iconst 0, 1) by decide +kernel) (pc' := 398) rfl rfl ?_
  exact X_ireturn (ty := .boolean) (show decode (mB 168) 398 = .ok (.ireturn, 1) by decide +kernel) (by decide +kernel) rfl k
set_option maxRecDepth 4000 in
theorem b_L_law_399 {xs : Nat → Int32} {L d : Nat} {S : Nat → Shp} {I : Nat → Nat → Int32} {J : Nat → Nat → Int64} {R : Nat → Nat → Nat} {c : Nat × Nat} {Q : Option (Option Value) → MH → Prop} {x3 : Int32} (hL : Lay S R) (hb404 : inb (x3 + 1) L = true) (k : X xs L d 113 0 [.ref 1, .int (xs (x3 + 1).toNatClampNeg)] [] (S, I, J, R, c) (Kc xs L (d + 1) 168 408 [.retAddr 0, .ref 1, .ref 65, .int x3] [] Q)) : X xs L (d + 1) 168 399 [.retAddr 0, .ref 1, .ref 65, .int x3] [] (S, I, J, R, c) Q := by
  refine X_aload_n (q := 1) (show decode (mB 168) 399 = .ok (.aload_n 1, 1) by decide +kernel) (pc' := 400) rfl rfl rfl ?_
  refine X_eload_n (q := 0) (show decode (mB 168) 400 = .ok (.aload_n 0, 1) by decide +kernel) (pc' := 401) rfl rfl rfl ?_
  refine X_iload_n (q := 3) (show decode (mB 168) 401 = .ok (.iload_n 3, 1) by decide +kernel) (pc' := 402) rfl rfl rfl ?_
  refine X_iconst (v := 1) (show decode (mB 168) 402 = .ok (.iconst 1, 1) by decide +kernel) (pc' := 403) rfl rfl ?_
  refine X_iadd (show decode (mB 168) 403 = .ok (.iadd, 1) by decide +kernel) (pc' := 404) rfl ?_
  refine X_saload (show decode (mB 168) 404 = .ok (.iaload, 1) by decide +kernel) (pc' := 405) rfl hb404 ?_
  exact X_callV (y := 113) (n := 1) (st := [.int (xs (x3 + 1).toNatClampNeg), .ref 1]) (as := [.ref 1, .int (xs (x3 + 1).toNatClampNeg)]) (rest := []) (ls0 := [.ref 1, .int (xs (x3 + 1).toNatClampNeg)]) (ci := 9) (show decode (mB 168) 405 = .ok (.invokevirtual 62, 3) by decide +kernel) (pc' := 408) rfl (by decide +kernel) (by decide +kernel) rfl (ls_1 hL) (by decide +kernel) rfl rfl rfl rfl rfl k
set_option maxRecDepth 4000 in
theorem b_L_law_408 {xs : Nat → Int32} {L d : Nat} {S : Nat → Shp} {I : Nat → Nat → Int32} {J : Nat → Nat → Int64} {R : Nat → Nat → Nat} {c : Nat × Nat} {Q : Option (Option Value) → MH → Prop} {x3 sx0 : Int32} (hL : Lay S R) (hb413 : inb (x3 + 1) L = true) (k : X xs L d 166 0 [.ref 65, .int (xs (x3 + 1).toNatClampNeg)] [] (S, I, J, R, c) (Kc xs L (d + 1) 168 417 [.retAddr 0, .ref 1, .ref 65, .int x3] [.int sx0] Q)) : X xs L (d + 1) 168 408 [.retAddr 0, .ref 1, .ref 65, .int x3] [.int sx0] (S, I, J, R, c) Q := by
  refine X_aload_n (q := 2) (show decode (mB 168) 408 = .ok (.aload_n 2, 1) by decide +kernel) (pc' := 409) rfl rfl rfl ?_
  refine X_eload_n (q := 0) (show decode (mB 168) 409 = .ok (.aload_n 0, 1) by decide +kernel) (pc' := 410) rfl rfl rfl ?_
  refine X_iload_n (q := 3) (show decode (mB 168) 410 = .ok (.iload_n 3, 1) by decide +kernel) (pc' := 411) rfl rfl rfl ?_
  refine X_iconst (v := 1) (show decode (mB 168) 411 = .ok (.iconst 1, 1) by decide +kernel) (pc' := 412) rfl rfl ?_
  refine X_iadd (show decode (mB 168) 412 = .ok (.iadd, 1) by decide +kernel) (pc' := 413) rfl ?_
  refine X_saload (show decode (mB 168) 413 = .ok (.iaload, 1) by decide +kernel) (pc' := 414) rfl hb413 ?_
  exact X_callV (y := 166) (n := 1) (st := [.int (xs (x3 + 1).toNatClampNeg), .ref 65, .int sx0]) (as := [.ref 65, .int (xs (x3 + 1).toNatClampNeg)]) (rest := [.int sx0]) (ls0 := [.ref 65, .int (xs (x3 + 1).toNatClampNeg)]) (ci := 13) (show decode (mB 168) 414 = .ok (.invokevirtual 65, 3) by decide +kernel) (pc' := 417) rfl (by decide +kernel) (by decide +kernel) rfl (ls_65 hL) (by decide +kernel) rfl rfl rfl rfl rfl k
set_option maxRecDepth 4000 in
theorem b_L_law_417 {xs : Nat → Int32} {L d : Nat} {S : Nat → Shp} {I : Nat → Nat → Int32} {J : Nat → Nat → Int64} {R : Nat → Nat → Nat} {c : Nat × Nat} {Q : Option (Option Value) → MH → Prop} {x3 sx0 sx1 : Int32}  (kt : sx0 = sx1 → X xs L (d + 1) 168 422 [.retAddr 0, .ref 1, .ref 65, .int x3] [] (S, I, J, R, c) Q) (kf : ¬ (sx0 = sx1) → X xs L (d + 1) 168 420 [.retAddr 0, .ref 1, .ref 65, .int x3] [] (S, I, J, R, c) Q) : X xs L (d + 1) 168 417 [.retAddr 0, .ref 1, .ref 65, .int x3] [.int sx1, .int sx0] (S, I, J, R, c) Q := by
  exact X_icmp_eq (tgt := 422) (show decode (mB 168) 417 = .ok (.if_icmp .eq 5, 3) by decide +kernel) rfl (pc' := 420) rfl kt kf
set_option maxRecDepth 4000 in
theorem b_L_law_420 {xs : Nat → Int32} {L d : Nat} {S : Nat → Shp} {I : Nat → Nat → Int32} {J : Nat → Nat → Int64} {R : Nat → Nat → Nat} {c : Nat × Nat} {Q : Option (Option Value) → MH → Prop} {x3 : Int32}  (k : Q (some (some (.int 0))) (S, I, J, R, c)) : X xs L (d + 1) 168 420 [.retAddr 0, .ref 1, .ref 65, .int x3] [] (S, I, J, R, c) Q := by
  refine X_iconst (v := 0) (show decode (mB 168) 420 = .ok (.iconst 0, 1) by decide +kernel) (pc' := 421) rfl rfl ?_
  exact X_ireturn (ty := .boolean) (show decode (mB 168) 421 = .ok (.ireturn, 1) by decide +kernel) (by decide +kernel) rfl k
set_option maxRecDepth 4000 in
theorem b_L_law_422 {xs : Nat → Int32} {L d : Nat} {S : Nat → Shp} {I : Nat → Nat → Int32} {J : Nat → Nat → Int64} {R : Nat → Nat → Nat} {c : Nat × Nat} {Q : Option (Option Value) → MH → Prop} {x3 : Int32}  (k : X xs L (d + 1) 168 18 [.retAddr 0, .ref 1, .ref 65, .int (x3 + 6)] [] (S, I, J, R, c) Q) : X xs L (d + 1) 168 422 [.retAddr 0, .ref 1, .ref 65, .int x3] [] (S, I, J, R, c) Q := by
  refine X_iinc (q := 3) (v := x3 + 6) (ls' := [.retAddr 0, .ref 1, .ref 65, .int (x3 + 6)]) (show decode (mB 168) 422 = .ok (.iinc 3 6, 3) by decide +kernel) (pc' := 425) rfl rfl rfl rfl ?_
  refine X_goto (tgt := 18) (show decode (mB 168) 425 = .ok (.goto (-407), 3) by decide +kernel) rfl ?_
  exact k
set_option maxRecDepth 4000 in
theorem b_L_law_428 {xs : Nat → Int32} {L d : Nat} {S : Nat → Shp} {I : Nat → Nat → Int32} {J : Nat → Nat → Int64} {R : Nat → Nat → Nat} {c : Nat × Nat} {Q : Option (Option Value) → MH → Prop} {x3 : Int32}  (k : Q (some (some (.int 1))) (S, I, J, R, c)) : X xs L (d + 1) 168 428 [.retAddr 0, .ref 1, .ref 65, .int x3] [] (S, I, J, R, c) Q := by
  refine X_iconst (v := 1) (show decode (mB 168) 428 = .ok (.iconst 1, 1) by decide +kernel) (pc' := 429) rfl rfl ?_
  exact X_ireturn (ty := .boolean) (show decode (mB 168) 429 = .ok (.ireturn, 1) by decide +kernel) (by decide +kernel) rfl k
