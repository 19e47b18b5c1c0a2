/-! ===== P2: queries while there is no assertion ===== -/
section NON
variable {xs : Nat → Int32} {L d : Nat} {S : Nat → Shp} {I : Nat → Nat → Int32} {J : Nat → Nat → Int64} {R : Nat → Nat → Nat} {c : Nat × Nat} {Q : Option (Option Value) → MH → Prop} {x1 x2 x3 : Int32}
theorem s_cplace0 (hL : Lay S R) (h18 : I 1 8 = 0) (k : Q (some (some (.int 0))) (S, I, J, R, c)) : X xs L (d + 1) 114 0 [.ref 1, .int x1, .int x2] [] (S, I, J, R, c) Q :=
  b_X10_hasPlace_0 hL (fun _ => b_X10_hasPlace_37 (b_X10_hasPlace_38 (Or.inl rfl) k)) (fun z => absurd h18 z)
theorem s_mplace0 (hL : Lay S R) (hC : R 65 13 = 0) (k : Q (some (some (.int 0))) (S, I, J, R, c)) : X xs L d 161 0 [.ref 65, .int x1, .int x2] [] (S, I, J, R, c) Q :=
  b_X14_isPlace_0 hL hC (fun _ => b_X14_isPlace_41 (b_X14_isPlace_42 (Or.inl rfl) k)) (fun z => absurd rfl z)
theorem s_cvalue0 (hL : Lay S R) (h18 : I 1 8 = 0) (k : Q (some (some (.int (-2)))) (S, I, J, R, c)) : X xs L (d + 2) 110 0 [.ref 1, .int x1, .int x2, .int x3] [] (S, I, J, R, c) Q :=
  b_X10_value_0 hL (s_cplace0 hL h18 (b_X10_value_6 (fun _ => b_X10_value_20 k) (fun z => absurd rfl z)))
theorem s_mvalue0 (hL : Lay S R) (hC : R 65 13 = 0) (k : Q (some (some (.int (-2)))) (S, I, J, R, c)) : X xs L (d + 1) 162 0 [.ref 65, .int x1, .int x2, .int x3] [] (S, I, J, R, c) Q :=
  b_X14_value_0 hL (s_mplace0 hL hC (b_X14_value_6 (fun _ => b_X14_value_21 k) (fun z => absurd rfl z)))
theorem s_cmat0 (hL : Lay S R) (h18 : I 1 8 = 0) (k : Q (some (some (.int (-2)))) (S, I, J, R, c)) : X xs L (d + 2) 111 0 [.ref 1, .int x1, .int x2, .int x3] [] (S, I, J, R, c) Q :=
  b_X10_matters_0 hL (s_cplace0 hL h18 (b_X10_matters_6 (fun _ => b_X10_matters_24 k) (fun z => absurd rfl z)))
theorem s_mmat0 (hL : Lay S R) (hC : R 65 13 = 0) (k : Q (some (some (.int (-2)))) (S, I, J, R, c)) : X xs L (d + 1) 163 0 [.ref 65, .int x1, .int x2, .int x3, .null, .null] [] (S, I, J, R, c) Q :=
  b_X14_matters_0 hL (s_mplace0 hL hC (b_X14_matters_6 (fun _ => b_X14_matters_24 k) (fun z => absurd rfl z)))
theorem s_mshort0 (hL : Lay S R) (hC : R 65 13 = 0) (k1 : ¬ x2 = 0 → ¬ x2 = 1 → Q (some (some (.int (-1)))) (S, I, J, R, c)) (k2 : (x2 = 0 ∨ x2 = 1) → Q (some (some (.int (-2)))) (S, I, J, R, c)) : X xs L (d + 1) 160 0 [.ref 65, .int x1, .int x2] [] (S, I, J, R, c) Q :=
  s_mshort (n := 0) hL (by omega) (fun Q k => s_mall0 hL hC Q k) k1 (fun h _ => k2 h) (fun _ a ha => absurd ha (Nat.not_lt_zero _)) (fun a ha => absurd ha (Nat.not_lt_zero _))
end NON
