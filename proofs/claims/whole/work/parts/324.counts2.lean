/-! ===== P2: how many fail, how many are out ===== -/
/-- the lanes of a row -/
def lp (J : Nat → Nat → Int64) (r a : Nat) : Bool := tb (J r (a / 64)) (a % 64)
theorem lp_at {J : Nat → Nat → Int64} {r w j : Nat} (hj : j < 64) : lp J r (64 * w + j) = tb (J r w) j := by
  unfold lp
  rw [show (64 * w + j) / 64 = w by omega, show (64 * w + j) % 64 = j by omega]
theorem pow_wdn {V : Nat} (h : V ≤ 9) : 2 ^ V ≤ 64 * wdn V := by
  have : ∀ V : Fin 10, 2 ^ V.val ≤ 64 * wdn V.val := by decide +kernel
  exact this ⟨V, by omega⟩
/-- nothing past the last assignment -/
theorem ct_cut {p : Nat → Bool} {V : Nat} (h9 : V ≤ 9) (h : ∀ a, 2 ^ V ≤ a → a < 64 * wdn V → p a = false) : fb_ct p (64 * wdn V) = fb_ct p (2 ^ V) := by
  have hle := pow_wdn h9
  have e := fb_ct_split p (2 ^ V) (64 * wdn V - 2 ^ V)
  rw [show 2 ^ V + (64 * wdn V - 2 ^ V) = 64 * wdn V by omega] at e
  have z : fb_ct (fun k => p (2 ^ V + k)) (64 * wdn V - 2 ^ V) = 0 := fb_ct_zero.2 (fun k hk => h _ (by omega) (by omega))
  omega
section CT2
variable {xs : Nat → Int32} {L d : Nat} {S : Nat → Shp} {I : Nat → Nat → Int32} {J : Nat → Nat → Int64} {R : Nat → Nat → Nat} {c : Nat × Nat} {Q : Option (Option Value) → MH → Prop} {V r : Nat}
theorem s_lanesIn (hL : Lay S R) (hr : S r = .inr (.long, 8)) (h3 : I 13 3 = ii (wdn V)) (hV : V ≤ 9) (k : Q (some (some (.int (ii (fb_ct (lp J r) (64 * wdn V)))))) (S, I, J, R, c)) : X xs L (d + 1) 16 0 [.ref 13, .ref r, .null, .null] [] (S, I, J, R, c) Q := by
  have hw8 := wdn_le hV
  refine b_X0_lanesIn_0 ?_
  have main : ∀ (f w : Nat), wdn V - w = f → w ≤ wdn V → X xs L (d + 1) 16 4 [.ref 13, .ref r, .int (ii (fb_ct (lp J r) (64 * w))), .int (ii w)] [] (S, I, J, R, c) Q := by
    intro f
    induction f with
    | zero =>
      intro w g1 g2
      have e : w = wdn V := by omega
      subst e
      refine b_X0_lanesIn_4 hL (fun _ => b_X0_lanesIn_27 k) (fun z => ?_)
      rw [h3] at z; exact absurd (Int32.le_refl _) z
    | succ f ih =>
      intro w g1 g2
      refine b_X0_lanesIn_4 hL (fun z => ?_) (fun _ => b_X0_lanesIn_12 hr (ii_inb (by omega) (by omega)) ?_)
      · rw [h3, ii_le (by omega) (by omega)] at z; omega
      refine s_J13_bitCount_95d88 (b_X0_lanesIn_19 ?_)
      rw [bc_eq, ii_add, ii_add1, ii_nat (by omega)]
      have e : fb_ct (lp J r) (64 * w) + fb_ct (tb (J r w)) 64 = fb_ct (lp J r) (64 * (w + 1)) := by
        rw [show 64 * (w + 1) = 64 * w + 64 by omega, fb_ct_split]
        congr 1
        exact fb_ct_cong (fun k hk => (lp_at hk).symm)
      rw [e]
      exact ih (w + 1) (by omega) (by omega)
  exact main (wdn V) 0 (by omega) (by omega)
theorem s_cfails (hL : Lay S R) (h3 : I 13 3 = ii (wdn V)) (hV : V ≤ 9) (h18 : I 1 8 = 1) (k : Q (some (some (.int (ii (fb_ct (lp J 24) (64 * wdn V)))))) (S, I, J, R, c)) : X xs L (d + 3) 106 0 [.ref 1] [] (S, I, J, R, c) Q := by
  refine b_X10_fails_0 hL (fun z => ?_) (fun _ => b_X10_fails_7 hL (b_X0_howManyFail_0 hL (s_lanesIn (V := V) hL (ls_24 hL) h3 hV (b_X0_howManyFail_8 (b_X10_fails_14 (b_X10_fails_18 k))))))
  rw [h18] at z; exact absurd z (by decide)
theorem s_cfails0 (hL : Lay S R) (h18 : I 1 8 = 0) (k : Q (some (some (.int (-1)))) (S, I, J, R, c)) : X xs L (d + 1) 106 0 [.ref 1] [] (S, I, J, R, c) Q :=
  b_X10_fails_0 hL (fun _ => b_X10_fails_17 (b_X10_fails_18 k)) (fun z => absurd h18 z)
theorem s_cout (hL : Lay S R) (h3 : I 13 3 = ii (wdn V)) (hV : V ≤ 9) (h18 : I 1 8 = 1) (k : Q (some (some (.int (ii (fb_ct (lp J 23) (64 * wdn V)))))) (S, I, J, R, c)) : X xs L (d + 3) 107 0 [.ref 1] [] (S, I, J, R, c) Q := by
  refine b_X10_excluded_0 hL (fun z => ?_) (fun _ => b_X10_excluded_7 hL (b_X0_howManyAreOut_0 hL (s_lanesIn (V := V) hL (ls_23 hL) h3 hV (b_X0_howManyAreOut_8 (b_X10_excluded_14 (b_X10_excluded_18 k))))))
  rw [h18] at z; exact absurd z (by decide)
theorem s_cout0 (hL : Lay S R) (h18 : I 1 8 = 0) (k : Q (some (some (.int (-1)))) (S, I, J, R, c)) : X xs L (d + 1) 107 0 [.ref 1] [] (S, I, J, R, c) Q :=
  b_X10_excluded_0 hL (fun _ => b_X10_excluded_17 (b_X10_excluded_18 k)) (fun z => absurd h18 z)
theorem s_mfails {C : Nat} (hL : Lay S R) (hC : R 65 13 = C) (hC0 : ¬ C = 0) (hall : ∀ (Q : Option (Option Value) → MH → Prop), Q (some (some (.int (ii (2 ^ V))))) (S, I, J, R, c) → X xs L d 156 0 [.ref 65] [] (S, I, J, R, c) Q) (hV : V ≤ 9) (k : Q (some (some (.int (ii (fb_ct (fun a => !decide (I 114 a = 0)) (2 ^ V)))))) (S, I, J, R, c)) : X xs L (d + 1) 157 0 [.ref 65, .null, .null] [] (S, I, J, R, c) Q := by
  have h512 : 2 ^ V ≤ 512 := by
    have : ∀ V : Fin 10, 2 ^ V.val ≤ 512 := by decide
    exact this ⟨V, by omega⟩
  refine b_X14_fails_0 hL hC (fun _ => b_X14_fails_9 ?_) (fun z => absurd hC0 z)
  have main : ∀ (f a : Nat), 2 ^ V - a = f → a ≤ 2 ^ V → X xs L (d + 1) 157 13 [.ref 65, .int (ii (fb_ct (fun a => !decide (I 114 a = 0)) a)), .int (ii a)] [] (S, I, J, R, c) Q := by
    intro f
    induction f with
    | zero =>
      intro a g1 g2
      have e : a = 2 ^ V := by omega
      refine b_X14_fails_13 hL (hall _ (b_X14_fails_18 (fun _ => b_X14_fails_44 (by rw [e]; exact k)) (fun z => ?_)))
      rw [e] at z; exact absurd (Int32.le_refl _) z
    | succ f ih =>
      intro a g1 g2
      refine b_X14_fails_13 hL (hall _ (b_X14_fails_18 (fun z => ?_) (fun _ => b_X14_fails_21 hL (ii_inb (by omega) (by omega)) (fun z => b_X14_fails_35 (b_X14_fails_36 ?_)) (fun z => b_X14_fails_31 (b_X14_fails_36 ?_)))))
      · rw [ii_le (by omega) (by omega)] at z; omega
      · rw [ii_nat (by omega)] at z
        have := ih (a + 1) (by omega) (by omega)
        rw [fb_ct_succ, decide_eq_true z] at this
        rw [ii_zero, ii_add, ii_add1]; exact this
      · rw [ii_nat (by omega)] at z
        have := ih (a + 1) (by omega) (by omega)
        rw [fb_ct_succ, decide_eq_false z] at this
        rw [ii_one, ii_add, ← ii_one, ii_add1]; exact this
  exact main (2 ^ V) 0 (Nat.sub_zero _) (Nat.zero_le _)
theorem s_mout {C : Nat} (hL : Lay S R) (hC : R 65 13 = C) (hC0 : ¬ C = 0) (hall : ∀ (Q : Option (Option Value) → MH → Prop), Q (some (some (.int (ii (2 ^ V))))) (S, I, J, R, c) → X xs L d 156 0 [.ref 65] [] (S, I, J, R, c) Q) (hV : V ≤ 9) (k : Q (some (some (.int (ii (fb_ct (fun a => !decide (I 113 a = 0)) (2 ^ V)))))) (S, I, J, R, c)) : X xs L (d + 1) 158 0 [.ref 65, .null, .null] [] (S, I, J, R, c) Q := by
  have h512 : 2 ^ V ≤ 512 := by
    have : ∀ V : Fin 10, 2 ^ V.val ≤ 512 := by decide
    exact this ⟨V, by omega⟩
  refine b_X14_excluded_0 hL hC (fun _ => b_X14_excluded_9 ?_) (fun z => absurd hC0 z)
  have main : ∀ (f a : Nat), 2 ^ V - a = f → a ≤ 2 ^ V → X xs L (d + 1) 158 13 [.ref 65, .int (ii (fb_ct (fun a => !decide (I 113 a = 0)) a)), .int (ii a)] [] (S, I, J, R, c) Q := by
    intro f
    induction f with
    | zero =>
      intro a g1 g2
      have e : a = 2 ^ V := by omega
      refine b_X14_excluded_13 hL (hall _ (b_X14_excluded_18 (fun _ => b_X14_excluded_44 (by rw [e]; exact k)) (fun z => ?_)))
      rw [e] at z; exact absurd (Int32.le_refl _) z
    | succ f ih =>
      intro a g1 g2
      refine b_X14_excluded_13 hL (hall _ (b_X14_excluded_18 (fun z => ?_) (fun _ => b_X14_excluded_21 hL (ii_inb (by omega) (by omega)) (fun z => b_X14_excluded_35 (b_X14_excluded_36 ?_)) (fun z => b_X14_excluded_31 (b_X14_excluded_36 ?_)))))
      · rw [ii_le (by omega) (by omega)] at z; omega
      · rw [ii_nat (by omega)] at z
        have := ih (a + 1) (by omega) (by omega)
        rw [fb_ct_succ, decide_eq_true z] at this
        rw [ii_zero, ii_add, ii_add1]; exact this
      · rw [ii_nat (by omega)] at z
        have := ih (a + 1) (by omega) (by omega)
        rw [fb_ct_succ, decide_eq_false z] at this
        rw [ii_one, ii_add, ← ii_one, ii_add1]; exact this
  exact main (2 ^ V) 0 (Nat.sub_zero _) (Nat.zero_le _)
theorem s_mfails0 (hL : Lay S R) (hC : R 65 13 = 0) (k : Q (some (some (.int (-1)))) (S, I, J, R, c)) : X xs L (d + 1) 157 0 [.ref 65, .null, .null] [] (S, I, J, R, c) Q :=
  b_X14_fails_0 hL hC (fun z => absurd rfl z) (fun _ => b_X14_fails_7 k)
theorem s_mout0 (hL : Lay S R) (hC : R 65 13 = 0) (k : Q (some (some (.int (-1)))) (S, I, J, R, c)) : X xs L (d + 1) 158 0 [.ref 65, .null, .null] [] (S, I, J, R, c) Q :=
  b_X14_excluded_0 hL hC (fun z => absurd rfl z) (fun _ => b_X14_excluded_7 k)
theorem s_mall {C : Nat} (hL : Lay S R) (hC : R 65 13 = C) (hY : LyCs S R C) (hC0 : ¬ C = 0) (hv : I C 8 = ii V) (hV : V ≤ 9) (Q : Option (Option Value) → MH → Prop) (k : Q (some (some (.int (ii (2 ^ V))))) (S, I, J, R, c)) : X xs L d 156 0 [.ref 65] [] (S, I, J, R, c) Q := by
  refine b_X14_all_0 hL hC (fun _ => b_X14_all_11 hL hC hY (b_X14_all_20 ?_)) (fun z => absurd hC0 z)
  rw [hv, asg_E hV]; exact k
theorem s_mall0 (hL : Lay S R) (hC : R 65 13 = 0) (Q : Option (Option Value) → MH → Prop) (k : Q (some (some (.int 0))) (S, I, J, R, c)) : X xs L d 156 0 [.ref 65] [] (S, I, J, R, c) Q :=
  b_X14_all_0 hL hC (fun z => absurd rfl z) (fun _ => b_X14_all_7 (b_X14_all_20 k))
end CT2
