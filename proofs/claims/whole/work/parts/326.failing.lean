/-! ===== P2: failing of both sides ===== -/
section FLG
variable {xs : Nat → Int32} {L d : Nat} {S : Nat → Shp} {I : Nat → Nat → Int32} {J : Nat → Nat → Int64} {R : Nat → Nat → Nat} {c : Nat × Nat} {Q : Option (Option Value) → MH → Prop} {V : Nat}
theorem s_laneByRank {y0 : Int64} {k : Nat} (hk : k < fb_ct (tb y0) 64) (kk : ∀ i, i < 64 → tb y0 i = true → fb_ct (tb y0) i = k → Q (some (some (.int (ii i)))) (S, I, J, R, c)) : X xs L (d + 1) 18 0 [.long y0, .null, .int (ii k), .null, .null, .null] [] (S, I, J, R, c) Q := by
  have hk64 := fb_ct_le (tb y0) 64
  have hlow : ∀ (x : Nat) (y : Int64), x ≤ k → (∀ j, j < 64 → tb y j = (tb y0 j && decide (x ≤ fb_ct (tb y0) j))) → ∃ i, low y i ∧ tb y0 i = true ∧ fb_ct (tb y0) i = x := by
    intro x y hx hy
    obtain ⟨i, h1, h2, h3⟩ := fb_ct_kth (p := tb y0) (k := x) (n := 64) (by omega)
    refine ⟨i, ⟨h1, by rw [hy i h1, h2, h3]; simp, fun m hm => ?_⟩, h2, h3⟩
    rw [hy m (by omega)]
    cases hb : tb y0 m with
    | false => rfl
    | true =>
      have e := fb_ct_succ (tb y0) m
      rw [hb] at e
      have e2 := fb_ct_mono (tb y0) (show m + 1 ≤ i by omega)
      simp at e
      simp; omega
  refine b_X0_laneByRank_0 ?_
  have main : ∀ (f x : Nat) (y : Int64), k - x = f → x ≤ k → (∀ j, j < 64 → tb y j = (tb y0 j && decide (x ≤ fb_ct (tb y0) j))) → X xs L (d + 1) 18 5 [.long y0, .null, .int (ii k), .long y, .null, .int (ii x)] [] (S, I, J, R, c) Q := by
    intro f
    induction f with
    | zero =>
      intro x y g1 g2 g3
      have e : x = k := by omega
      subst e
      obtain ⟨i, h1, h2, h3⟩ := hlow x y (Nat.le_refl _) g3
      refine b_X0_laneByRank_5 (fun _ => b_X0_laneByRank_23 (s_J13_bitCount_95d88 (b_X0_laneByRank_32 ?_))) (fun z => absurd (Int32.le_refl _) z)
      rw [bc_eq, low_count h1]
      exact kk i h1.1 h2 h3
    | succ f ih =>
      intro x y g1 g2 g3
      obtain ⟨i, h1, h2, h3⟩ := hlow x y (by omega) g3
      refine b_X0_laneByRank_5 (fun z => ?_) (fun _ => b_X0_laneByRank_11 ?_)
      · rw [ii_le (by omega) (by omega)] at z; omega
      rw [ii_add1]
      refine ih (x + 1) _ (by omega) (by omega) (fun j hj => ?_)
      rw [low_drop h1, g3 j hj]
      cases hb : tb y0 j with
      | false => rfl
      | true =>
        by_cases e : j = i
        · rw [e, h3]; simp
        · have : ¬ fb_ct (tb y0) j = x := fun z => e (fb_ct_kth_one hb h2 (by rw [z, h3]))
          have e2 : (x ≤ fb_ct (tb y0) j) ↔ (x + 1 ≤ fb_ct (tb y0) j) := by omega
          simp [e, e2]
  exact main k 0 y0 (by omega) (by omega) (fun j _ => by simp)
theorem s_cfailing {r : Nat} (hL : Lay S R) (h3 : I 13 3 = ii (wdn V)) (hV : V ≤ 9) (h18 : I 1 8 = 1) (hr : r < 2147483648) (kk : ∀ a, a < 64 * wdn V → lp J 24 a = true → fb_ct (lp J 24) a = r → Q (some (some (.int (ii a)))) (S, I, J, R, c)) (kn : fb_ct (lp J 24) (64 * wdn V) ≤ r → Q (some (some (.int (-2)))) (S, I, J, R, c)) : X xs L (d + 3) 108 0 [.ref 1, .int (ii r)] [] (S, I, J, R, c) Q := by
  have hw8 := wdn_le hV
  refine b_X10_failing_0 hL (fun z => by rw [h18] at z; exact absurd z (by decide)) (fun _ => b_X10_failing_7 (fun z => absurd z (ii_nn hr)) (fun _ => b_X10_failing_11 hL (b_X0_failingByRank_0 ?_)))
  have main : ∀ (f w : Nat) (v4 : Value), wdn V - w = f → w ≤ wdn V → fb_ct (lp J 24) (64 * w) ≤ r → X xs L (d + 2) 17 4 [.ref 13, .int (ii r), .int (ii (r - fb_ct (lp J 24) (64 * w))), .int (ii w), v4] [] (S, I, J, R, c) (Kc xs L (d + 3) 108 19 [.ref 1, .int (ii r)] [] Q) := by
    intro f
    induction f with
    | zero =>
      intro w v4 g1 g2 g3
      have e : w = wdn V := by omega
      subst e
      refine b_X0_failingByRank_4 hL (fun _ => b_X0_failingByRank_56 (b_X10_failing_19 (b_X10_failing_24 (kn g3)))) (fun z => ?_)
      rw [h3] at z; exact absurd (Int32.le_refl _) z
    | succ f ih =>
      intro w v4 g1 g2 g3
      have hb : inb (ii w) 8 = true := ii_inb (by omega) (by omega)
      have hcw : ∀ i, i ≤ 64 → fb_ct (lp J 24) (64 * w + i) = fb_ct (lp J 24) (64 * w) + fb_ct (tb (J 24 w)) i := fun i hi => by
        rw [fb_ct_split]
        congr 1
        exact fb_ct_cong (fun k hk => lp_at (by omega))
      have h64 := hcw 64 (by omega)
      have hle := fb_ct_le (tb (J 24 w)) 64
      refine b_X0_failingByRank_4 hL (fun z => ?_) (fun _ => b_X0_failingByRank_12 hL hb (s_J13_bitCount_95d88 ?_))
      · rw [h3, ii_le (by omega) (by omega)] at z; omega
      rw [ii_nat (by omega), bc_eq]
      refine b_X0_failingByRank_21 (fun z => ?_) (fun z => ?_)
      · rw [ii_le (by omega) (by omega)] at z
        refine b_X0_failingByRank_45 ?_
        rw [ii_sub (by omega), ii_add1]
        have e : r - fb_ct (lp J 24) (64 * w) - fb_ct (tb (J 24 w)) 64 = r - fb_ct (lp J 24) (64 * (w + 1)) := by
          rw [show 64 * (w + 1) = 64 * w + 64 by omega, h64]; omega
        rw [e]
        exact ih (w + 1) _ (by omega) (by omega) (by rw [show 64 * (w + 1) = 64 * w + 64 by omega, h64]; omega)
      · rw [ii_le (by omega) (by omega)] at z
        refine b_X0_failingByRank_29 hL hb ?_
        rw [ii_nat (show w < 2147483648 by omega)]
        refine s_laneByRank (by omega) (fun i i1 i2 i3 => b_X0_failingByRank_43 (b_X10_failing_19 (b_X10_failing_24 ?_)))
        have em : ii w * 64 = ii (64 * w) := by
          rw [show (64 : Int32) = ii 64 from rfl, show ii w * ii 64 = ii (w * 64) from (Int32.ofNat_mul w 64).symm, Nat.mul_comm]
        rw [em, ii_add]
        refine kk (64 * w + i) (by omega) (by rw [lp_at i1]; exact i2) ?_
        rw [hcw i (by omega), i3]; omega
  have := main (wdn V) 0 .null (by omega) (by omega) (by show 0 ≤ r; omega)
  exact this
theorem s_cfailing0 {x : Int32} (hL : Lay S R) (h : I 1 8 = 0 ∨ x < 0) (k : Q (some (some (.int (-2)))) (S, I, J, R, c)) : X xs L (d + 1) 108 0 [.ref 1, .int x] [] (S, I, J, R, c) Q := by
  refine b_X10_failing_0 hL (fun _ => b_X10_failing_22 (b_X10_failing_24 k)) (fun z => b_X10_failing_7 (fun _ => b_X10_failing_22 (b_X10_failing_24 k)) (fun z2 => ?_))
  rcases h with e | e
  · exact absurd e z
  · exact absurd e z2
theorem s_mfailing {x : Int32} (hL : Lay S R) (hall : ∀ (Q : Option (Option Value) → MH → Prop), Q (some (some (.int (ii (2 ^ V))))) (S, I, J, R, c) → X xs L d 156 0 [.ref 65] [] (S, I, J, R, c) Q) (hV : V ≤ 9) (kk : ∀ a, a < 2 ^ V → (!decide (I 114 a = 0)) = true → ii (fb_ct (fun a => !decide (I 114 a = 0)) a) = x → Q (some (some (.int (ii a)))) (S, I, J, R, c)) (kn : (∀ a, a < 2 ^ V → (!decide (I 114 a = 0)) = true → ¬ ii (fb_ct (fun a => !decide (I 114 a = 0)) a) = x) → Q (some (some (.int (-2)))) (S, I, J, R, c)) : X xs L (d + 1) 159 0 [.ref 65, .int x, .null, .null] [] (S, I, J, R, c) Q := by
  have h512 : 2 ^ V ≤ 512 := by
    have : ∀ V : Fin 10, 2 ^ V.val ≤ 512 := by decide
    exact this ⟨V, by omega⟩
  refine b_X14_failing_0 ?_
  have main : ∀ (f a : Nat), 2 ^ V - a = f → a ≤ 2 ^ V → (∀ a', a' < a → (!decide (I 114 a' = 0)) = true → ¬ ii (fb_ct (fun a => !decide (I 114 a = 0)) a') = x) → X xs L (d + 1) 159 4 [.ref 65, .int x, .int (ii (fb_ct (fun a => !decide (I 114 a = 0)) a)), .int (ii a)] [] (S, I, J, R, c) Q := by
    intro f
    induction f with
    | zero =>
      intro a g1 g2 g3
      have e : a = 2 ^ V := by omega
      refine b_X14_failing_4 hL (hall _ (b_X14_failing_9 (fun _ => b_X14_failing_40 (kn (fun a' ha' => g3 a' (by omega)))) (fun z => ?_)))
      rw [e] at z; exact absurd (Int32.le_refl _) z
    | succ f ih =>
      intro a g1 g2 g3
      refine b_X14_failing_4 hL (hall _ (b_X14_failing_9 (fun z => ?_) (fun _ => b_X14_failing_12 hL (ii_inb (by omega) (by omega)) (fun z => ?_) (fun z => b_X14_failing_21 (b_X14_failing_34 ?_)))))
      · rw [ii_le (by omega) (by omega)] at z; omega
      · rw [ii_nat (by omega)] at z
        have hp : (!decide (I 114 a = 0)) = true := by rw [decide_eq_false z]; rfl
        refine b_X14_failing_24 (fun w => b_X14_failing_31 (b_X14_failing_34 ?_)) (fun w => b_X14_failing_29 (kk a (by omega) hp (Classical.not_not.1 w)))
        have := ih (a + 1) (by omega) (by omega) (fun a' ha' hp' => by
          by_cases e : a' = a
          · rw [e]; exact w
          · exact g3 a' (by omega) hp')
        rw [fb_ct_succ, decide_eq_false z] at this
        rw [ii_add1, ii_add1]; exact this
      · rw [ii_nat (by omega)] at z
        have z := Classical.not_not.1 z
        have := ih (a + 1) (by omega) (by omega) (fun a' ha' hp' => by
          by_cases e : a' = a
          · rw [e, decide_eq_true z] at hp'; cases hp'
          · exact g3 a' (by omega) hp')
        rw [fb_ct_succ, decide_eq_true z] at this
        rw [ii_add1]; exact this
  exact main (2 ^ V) 0 (Nat.sub_zero _) (Nat.zero_le _) (fun a' ha' => by omega)
theorem s_mfailing0 {x : Int32} (hL : Lay S R) (hC : R 65 13 = 0) (k : Q (some (some (.int (-2)))) (S, I, J, R, c)) : X xs L (d + 1) 159 0 [.ref 65, .int x, .null, .null] [] (S, I, J, R, c) Q :=
  b_X14_failing_0 (b_X14_failing_4 hL (s_mall0 hL hC _ (b_X14_failing_9 (fun _ => b_X14_failing_40 k) (fun z => absurd (Int32.le_refl _) z))))
end FLG
