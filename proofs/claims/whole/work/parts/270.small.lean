/-! ===== P2: small methods of the readers (by wip/whole/gen/gen270.py) ===== -/
/-- the cursor at n, m tokens before the end -/
def TkC (I : Nat → Nat → Int32) (n m : Nat) : Prop := I 4 5 = ii n ∧ I 4 4 = ii (m + 1) ∧ n ≤ m ∧ m ≤ 2000 ∧ I 5 m = 0
theorem TkC_st {I : Nat → Nat → Int32} {n m : Nat} (h : TkC I n m) (hn : n < m) : TkC (u2 I 4 5 (ii (n + 1))) (n + 1) m := by
  refine ⟨u2_e _ _ _ _, ?_, hn, h.2.2.2.1, ?_⟩
  · rw [u2_k _ _ _ _ (by decide)]; exact h.2.1
  · rw [u2_a _ _ _ _ (by decide)]; exact h.2.2.2.2
theorem TkC_in {I : Nat → Nat → Int32} {n m : Nat} (h : TkC I n m) : inb (I 4 5) 2001 = true := by
  rw [h.1]; exact ii_inb (by have := h.2.2.1; have := h.2.2.2.1; omega) (by omega)
theorem TkC_lt {I : Nat → Nat → Int32} {n m : Nat} (h : TkC I n m) (hk : ¬ I 5 n = 0) : n < m := by
  rcases Nat.lt_or_ge n m with q | q
  · exact q
  · have e : n = m := by have := h.2.2.1; omega
    exact absurd (by rw [e]; exact h.2.2.2.2) hk
theorem TkC_nat {I : Nat → Nat → Int32} {n m : Nat} (h : TkC I n m) : (I 4 5).toNatClampNeg = n := by
  rw [h.1, ii_nat (by have := h.2.2.1; have := h.2.2.2.1; omega)]
theorem s_X9_step {xs : Nat → Int32} {L d : Nat} {S : Nat → Shp} {I : Nat → Nat → Int32} {J : Nat → Nat → Int64} {R : Nat → Nat → Nat} {c : Nat × Nat} {Q : Option (Option Value) → MH → Prop} {n m : Nat} (hL : Lay S R) (h : TkC I n m) (hn : n < m) (k : Q (some none) (S, u2 I 4 5 (ii (n + 1)), J, R, c)) : X xs L d 100 0 [.ref 4] [] (S, I, J, R, c) Q := by
  have hm := h.2.2.2.1
  refine b_X9_step_0 hL (fun z => ?_) (fun _ => b_X9_step_13 hL (b_X9_step_23 ?_))
  · rw [h.1, h.2.1, ii_one, ii_sub (by omega), ii_le (by omega) (by omega)] at z; omega
  · rw [h.1, ii_add1]; exact k
theorem s_X5_add {xs : Nat → Int32} {L d : Nat} {S : Nat → Shp} {I : Nat → Nat → Int32} {J : Nat → Nat → Int64} {R : Nat → Nat → Nat} {c : Nat × Nat} {Q : Option (Option Value) → MH → Prop} {r0 n : Nat} {x1 : Int32} (h : LyCd S R r0) (hn : I r0 1 = ii n) (hn2 : n < 2000) (k : Q (some none) (S, u2 (u2 I (r0 + 1) n x1) r0 1 (ii (n + 1)), J, R, c)) : X xs L d 57 0 [.ref r0, .int x1] [] (S, I, J, R, c) Q := by
  refine b_X5_add_0 h (fun z => ?_) (fun _ => b_X5_add_12 h (by rw [hn]; exact ii_inb hn2 (by omega)) (b_X5_add_32 ?_))
  · rw [hn] at z
    have := (ii_le (n := 2000) (m := n) (by omega) (by omega)).1 z; omega
  · rw [hn, ii_nat (by omega), ii_add1]; exact k
theorem s_X6c_takeSign {xs : Nat → Int32} {L d : Nat} {S : Nat → Shp} {I : Nat → Nat → Int32} {J : Nat → Nat → Int64} {R : Nat → Nat → Nat} {c : Nat × Nat} {Q : Option (Option Value) → MH → Prop} {n m : Nat} {x1 : Int32} (hL : Lay S R) (h : TkC I n m) (hx : ¬ x1 = 0) (k1 : I 5 n = x1 → n < m → Q (some (some (.int 1))) (S, u2 I 4 5 (ii (n + 1)), J, R, c)) (k0 : ¬ I 5 n = x1 → Q (some (some (.int 0))) (S, I, J, R, c)) : X xs L (d + 1) 62 0 [.ref 8, .int x1] [] (S, I, J, R, c) Q := by
  refine b_X6c_takeSign_0 hL (s_X9_kind hL (TkC_in h) ?_)
  have e : f_X9_kind I = I 5 n := by unfold f_X9_kind; rw [TkC_nat h]
  rw [e]
  refine b_X6c_takeSign_7 (fun z => ?_) (fun z => b_X6c_takeSign_11 (k0 z))
  have hn := TkC_lt h (fun q => hx (z.symm.trans q))
  exact b_X6c_takeSign_13 hL (s_X9_step hL h hn (b_X6c_takeSign_20 (k1 z hn)))
theorem s_X6c_takeWord {xs : Nat → Int32} {L d : Nat} {S : Nat → Shp} {I : Nat → Nat → Int32} {J : Nat → Nat → Int64} {R : Nat → Nat → Nat} {c : Nat × Nat} {Q : Option (Option Value) → MH → Prop} {n m : Nat} {y1 : Int64} (hL : Lay S R) (h : TkC I n m) (k1 : I 5 n = 3 → J 7 n = y1 → n < m → Q (some (some (.int 1))) (S, u2 I 4 5 (ii (n + 1)), J, R, c)) (k0 : ¬ (I 5 n = 3 ∧ J 7 n = y1) → Q (some (some (.int 0))) (S, I, J, R, c)) : X xs L (d + 1) 63 0 [.ref 8, .long y1, .null] [] (S, I, J, R, c) Q := by
  refine b_X6c_takeWord_0 hL (s_X9_kind hL (TkC_in h) ?_)
  have e : f_X9_kind I = I 5 n := by unfold f_X9_kind; rw [TkC_nat h]
  have e2 : f_X9_key I J = J 7 n := by unfold f_X9_key; rw [TkC_nat h]
  rw [e]
  refine b_X6c_takeWord_7 (fun z => b_X6c_takeWord_23 (k0 (fun q => z q.1))) (fun z => ?_)
  have z' := Classical.not_not.1 z
  refine b_X6c_takeWord_11 hL (s_X9_key hL (TkC_in h) ?_)
  rw [e2]
  refine b_X6c_takeWord_18 (fun z2 => ?_) (fun z2 => b_X6c_takeWord_23 (k0 (fun q => z2 (lgc.2 q.2))))
  have hn := TkC_lt h (by rw [z']; decide)
  exact b_X6c_takeWord_25 hL (s_X9_step hL h hn (b_X6c_takeWord_32 (k1 z' (lgc.1 z2) hn)))
theorem s_X6c_letWait {xs : Nat → Int32} {L d : Nat} {S : Nat → Shp} {I : Nat → Nat → Int32} {J : Nat → Nat → Int64} {R : Nat → Nat → Nat} {c : Nat × Nat} {Q : Option (Option Value) → MH → Prop} {n : Nat} {x1 : Int32} (hL : Lay S R) (hn : I 8 4 = ii n) (hn2 : n < 64) (k : Q (some none) (S, u2 (u2 I 9 n x1) 8 4 (ii (n + 1)), J, R, c)) : X xs L d 67 0 [.ref 8, .int x1] [] (S, I, J, R, c) Q := by
  refine b_X6c_letWait_0 hL (fun z => ?_) (fun _ => b_X6c_letWait_9 hL (by rw [hn]; exact ii_inb hn2 (by omega)) (b_X6c_letWait_29 ?_))
  · rw [hn] at z
    have := (ii_le (n := 64) (m := n) (by omega) (by omega)).1 z; omega
  · rw [hn, ii_nat (by omega), ii_add1]; exact k
theorem s_X6k_takeSign {xs : Nat → Int32} {L d : Nat} {S : Nat → Shp} {I : Nat → Nat → Int32} {J : Nat → Nat → Int64} {R : Nat → Nat → Nat} {c : Nat × Nat} {Q : Option (Option Value) → MH → Prop} {n m : Nat} {x1 : Int32} (hL : Lay S R) (h : TkC I n m) (hx : ¬ x1 = 0) (k1 : I 5 n = x1 → n < m → Q (some (some (.int 1))) (S, u2 I 4 5 (ii (n + 1)), J, R, c)) (k0 : ¬ I 5 n = x1 → Q (some (some (.int 0))) (S, I, J, R, c)) : X xs L (d + 1) 62 0 [.ref 11, .int x1] [] (S, I, J, R, c) Q := by
  refine b_X6k_takeSign_0 hL (s_X9_kind hL (TkC_in h) ?_)
  have e : f_X9_kind I = I 5 n := by unfold f_X9_kind; rw [TkC_nat h]
  rw [e]
  refine b_X6k_takeSign_7 (fun z => ?_) (fun z => b_X6k_takeSign_11 (k0 z))
  have hn := TkC_lt h (fun q => hx (z.symm.trans q))
  exact b_X6k_takeSign_13 hL (s_X9_step hL h hn (b_X6k_takeSign_20 (k1 z hn)))
theorem s_X6k_takeWord {xs : Nat → Int32} {L d : Nat} {S : Nat → Shp} {I : Nat → Nat → Int32} {J : Nat → Nat → Int64} {R : Nat → Nat → Nat} {c : Nat × Nat} {Q : Option (Option Value) → MH → Prop} {n m : Nat} {y1 : Int64} (hL : Lay S R) (h : TkC I n m) (k1 : I 5 n = 3 → J 7 n = y1 → n < m → Q (some (some (.int 1))) (S, u2 I 4 5 (ii (n + 1)), J, R, c)) (k0 : ¬ (I 5 n = 3 ∧ J 7 n = y1) → Q (some (some (.int 0))) (S, I, J, R, c)) : X xs L (d + 1) 63 0 [.ref 11, .long y1, .null] [] (S, I, J, R, c) Q := by
  refine b_X6k_takeWord_0 hL (s_X9_kind hL (TkC_in h) ?_)
  have e : f_X9_kind I = I 5 n := by unfold f_X9_kind; rw [TkC_nat h]
  have e2 : f_X9_key I J = J 7 n := by unfold f_X9_key; rw [TkC_nat h]
  rw [e]
  refine b_X6k_takeWord_7 (fun z => b_X6k_takeWord_23 (k0 (fun q => z q.1))) (fun z => ?_)
  have z' := Classical.not_not.1 z
  refine b_X6k_takeWord_11 hL (s_X9_key hL (TkC_in h) ?_)
  rw [e2]
  refine b_X6k_takeWord_18 (fun z2 => ?_) (fun z2 => b_X6k_takeWord_23 (k0 (fun q => z2 (lgc.2 q.2))))
  have hn := TkC_lt h (by rw [z']; decide)
  exact b_X6k_takeWord_25 hL (s_X9_step hL h hn (b_X6k_takeWord_32 (k1 z' (lgc.1 z2) hn)))
theorem s_X6k_letWait {xs : Nat → Int32} {L d : Nat} {S : Nat → Shp} {I : Nat → Nat → Int32} {J : Nat → Nat → Int64} {R : Nat → Nat → Nat} {c : Nat × Nat} {Q : Option (Option Value) → MH → Prop} {n : Nat} {x1 : Int32} (hL : Lay S R) (hn : I 11 4 = ii n) (hn2 : n < 64) (k : Q (some none) (S, u2 (u2 I 12 n x1) 11 4 (ii (n + 1)), J, R, c)) : X xs L d 67 0 [.ref 11, .int x1] [] (S, I, J, R, c) Q := by
  refine b_X6k_letWait_0 hL (fun z => ?_) (fun _ => b_X6k_letWait_9 hL (by rw [hn]; exact ii_inb hn2 (by omega)) (b_X6k_letWait_29 ?_))
  · rw [hn] at z
    have := (ii_le (n := 64) (m := n) (by omega) (by omega)).1 z; omega
  · rw [hn, ii_nat (by omega), ii_add1]; exact k
