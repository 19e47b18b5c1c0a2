/-! ===== P2: feed and end of both sides ===== -/
/-- byte i of a word -/
def pby (x : Int32) (i : Nat) : Int32 := vp_nar .byte ((x >>> (ii (24 - 8 * i) &&& 31)).toInt8.toInt32)
/-- a tape after a word -/
def tpu (f : Nat → Int32) (len : Nat) (x : Int32) : Nat → Int32 := fun i => if len ≤ i ∧ i < len + 4 then pby x (i - len) else f i
section FEED
variable {xs : Nat → Int32} {L d : Nat} {S : Nat → Shp} {I : Nat → Nat → Int32} {J : Nat → Nat → Int64} {R : Nat → Nat → Nat} {c : Nat × Nat} {Q : Option (Option Value) → MH → Prop} {len : Nat} {x x1 x2 x3 x4 x5 : Int32}
def aTc (x k : Nat) : Prop := x = 3 ∨ (x = 2 ∧ k = 1)
def aTm (x k : Nat) : Prop := x = 66 ∨ (x = 65 ∧ k = 1)
theorem sub8 {i : Nat} (h : i < 4) : ii (24 - 8 * i) + (-8) = if i < 3 then ii (24 - 8 * (i + 1)) else -8 := by
  have : ∀ i : Fin 4, ii (24 - 8 * i.val) + (-8) = if i.val < 3 then ii (24 - 8 * (i.val + 1)) else -8 := by decide +kernel
  exact this ⟨i, h⟩
theorem s_cput (hL : Lay S R) (hl : I 2 1 = ii len) (hle : len + 4 ≤ 2000) (k : ∀ I', fr aTc I I' → I' 2 1 = ii (len + 4) → I' 3 = tpu (I 3) len x → Q (some none) (S, I', J, R, c)) : X xs L d 80 0 [.ref 2, .int x, .null] [] (S, I, J, R, c) Q := by
  refine b_X8_put_0 ?_
  have main : ∀ (f i : Nat) (I' : Nat → Nat → Int32), 4 - i = f → i ≤ 4 → fr aTc I I' → I' 2 1 = ii (len + i) → (∀ j, I' 3 j = if len ≤ j ∧ j < len + i then pby x (j - len) else I 3 j) → X xs L d 80 3 [.ref 2, .int x, .int (if i < 4 then ii (24 - 8 * i) else -8)] [] (S, I', J, R, c) Q := by
    intro f
    induction f with
    | zero =>
      intro i I' g1 g2 g3 g4 g5
      have e : i = 4 := by omega
      subst e
      refine b_X8_put_3 (fun _ => b_X8_put_46 (k I' g3 g4 (funext g5))) (fun z => absurd (by decide) z)
    | succ f ih =>
      intro i I' g1 g2 g3 g4 g5
      have hi : i < 4 := by omega
      rw [if_pos hi]
      refine b_X8_put_3 (fun z => absurd z (ii_nn (by omega))) (fun _ => b_X8_put_7 hL (fun z => ?_) (fun _ => b_X8_put_17 hL (by rw [g4]; exact ii_inb (by omega) (by omega)) (b_X8_put_40 ?_)))
      · rw [g4, show (2000 : Int32) = ii 2000 from rfl, ii_le (by omega) (by omega)] at z; omega
      · rw [g4, ii_nat (by omega), ii_add1, sub8 hi]
        have e : (if i < 3 then ii (24 - 8 * (i + 1)) else (-8 : Int32)) = if i + 1 < 4 then ii (24 - 8 * (i + 1)) else -8 := by
          by_cases h : i < 3
          · rw [if_pos h, if_pos (by omega)]
          · rw [if_neg h, if_neg (by omega)]
        rw [e]
        refine ih (i + 1) _ (by omega) (by omega) (fr_u _ (fr_u _ g3 (Or.inl rfl)) (Or.inr ⟨rfl, rfl⟩)) (by rw [u2_e]; rfl) (fun j => ?_)
        rw [u2_a _ _ _ _ (by decide), u2_if]
        by_cases h : j = len + i
        · rw [if_pos ⟨rfl, h⟩, if_pos (by omega), h, show len + i - len = i by omega]; rfl
        · rw [if_neg (fun z => h z.2), g5]
          by_cases h2 : len ≤ j ∧ j < len + i
          · rw [if_pos h2, if_pos (by omega)]
          · rw [if_neg h2, if_neg (by omega)]
  have := main 4 0 I (by omega) (by omega) (fr_refl _ _) hl (fun j => by rw [if_neg (by omega)])
  exact this
theorem s_mput (hL : Lay S R) (hl : I 65 1 = ii len) (hle : len + 4 ≤ 2000) (k : ∀ I', fr aTm I I' → I' 65 1 = ii (len + 4) → I' 66 = tpu (I 66) len x → Q (some none) (S, I', J, R, c)) : X xs L d 119 0 [.ref 65, .int x, .null] [] (S, I, J, R, c) Q := by
  refine b_X14_put_0 ?_
  have main : ∀ (f i : Nat) (I' : Nat → Nat → Int32), 4 - i = f → i ≤ 4 → fr aTm I I' → I' 65 1 = ii (len + i) → (∀ j, I' 66 j = if len ≤ j ∧ j < len + i then pby x (j - len) else I 66 j) → X xs L d 119 3 [.ref 65, .int x, .int (if i < 4 then ii (24 - 8 * i) else -8)] [] (S, I', J, R, c) Q := by
    intro f
    induction f with
    | zero =>
      intro i I' g1 g2 g3 g4 g5
      have e : i = 4 := by omega
      subst e
      refine b_X14_put_3 (fun _ => b_X14_put_36 (k I' g3 g4 (funext g5))) (fun z => absurd (by decide) z)
    | succ f ih =>
      intro i I' g1 g2 g3 g4 g5
      have hi : i < 4 := by omega
      rw [if_pos hi]
      refine b_X14_put_3 (fun z => absurd z (ii_nn (by omega))) (fun _ => b_X14_put_7 hL (by rw [g4]; exact ii_inb (by omega) (by omega)) ?_)
      rw [g4, ii_nat (by omega), ii_add1, sub8 hi]
      have e : (if i < 3 then ii (24 - 8 * (i + 1)) else (-8 : Int32)) = if i + 1 < 4 then ii (24 - 8 * (i + 1)) else -8 := by
        by_cases h : i < 3
        · rw [if_pos h, if_pos (by omega)]
        · rw [if_neg h, if_neg (by omega)]
      rw [e]
      refine ih (i + 1) _ (by omega) (by omega) (fr_u _ (fr_u _ g3 (Or.inl rfl)) (Or.inr ⟨rfl, rfl⟩)) (by rw [u2_e]; rfl) (fun j => ?_)
      rw [u2_a _ _ _ _ (by decide), u2_if]
      by_cases h : j = len + i
      · rw [if_pos ⟨rfl, h⟩, if_pos (by omega), h, show len + i - len = i by omega]; rfl
      · rw [if_neg (fun z => h z.2), g5]
        by_cases h2 : len ≤ j ∧ j < len + i
        · rw [if_pos h2, if_pos (by omega)]
        · rw [if_neg h2, if_neg (by omega)]
  have := main 4 0 I (by omega) (by omega) (fr_refl _ _) hl (fun j => by rw [if_neg (by omega)])
  exact this
/-- a tape after five words -/
def tp5 (f : Nat → Int32) (len : Nat) (x1 x2 x3 x4 x5 : Int32) : Nat → Int32 := tpu (tpu (tpu (tpu (tpu f len x1) (len + 4) x2) (len + 8) x3) (len + 12) x4) (len + 16) x5
theorem s_cfeed (hL : Lay S R) (hl : I 2 1 = ii len) (hle : len ≤ 2000) (k1 : 1980 < len → Q (some (some (.int (-3)))) (S, I, J, R, c)) (k2 : len ≤ 1980 → ∀ I', fr aTc I I' → I' 2 1 = ii (len + 20) → I' 3 = tp5 (I 3) len x1 x2 x3 x4 x5 → Q (some (some (.int (ii (len + 20))))) (S, I', J, R, c)) : X xs L (d + 1) 102 0 [.ref 1, .int x1, .int x2, .int x3, .int x4, .int x5] [] (S, I, J, R, c) Q := by
  have e : (I 2 1 ≤ 1980) ↔ len ≤ 1980 := by rw [hl, show (1980 : Int32) = ii 1980 from rfl, ii_le (by omega) (by omega)]
  refine b_X10_feed_0 hL (fun z => ?_) (fun z => b_X10_feed_13 (k1 (by rw [e] at z; omega)))
  have hl2 := e.1 z
  refine b_X10_feed_16 hL (s_cput hL hl (by omega) (fun I1 f1 l1 t1 => b_X10_feed_24 hL (s_cput hL l1 (by omega) (fun I2 f2 l2 t2 => b_X10_feed_32 hL (s_cput hL l2 (by omega) (fun I3 f3 l3 t3 => b_X10_feed_40 hL (s_cput hL l3 (by omega) (fun I4 f4 l4 t4 => b_X10_feed_49 hL (s_cput hL l4 (by omega) (fun I5 f5 l5 t5 => b_X10_feed_58 hL ?_))))))))))
  rw [l5]
  refine k2 hl2 I5 (fr_trans (fr_trans (fr_trans (fr_trans f1 f2) f3) f4) f5) l5 ?_
  rw [t5, t4, t3, t2, t1]; rfl
theorem s_mfeed (hL : Lay S R) (hl : I 65 1 = ii len) (hle : len ≤ 2000) (k1 : 1980 < len → Q (some (some (.int (-3)))) (S, I, J, R, c)) (k2 : len ≤ 1980 → ∀ I', fr aTm I I' → I' 65 1 = ii (len + 20) → I' 66 = tp5 (I 66) len x1 x2 x3 x4 x5 → Q (some (some (.int (ii (len + 20))))) (S, I', J, R, c)) : X xs L (d + 1) 120 0 [.ref 65, .int x1, .int x2, .int x3, .int x4, .int x5] [] (S, I, J, R, c) Q := by
  have e : (I 65 1 + 20 ≤ 2000) ↔ len ≤ 1980 := by rw [hl, show (2000 : Int32) = ii 2000 from rfl, show (20 : Int32) = ii 20 from rfl, ii_add, ii_le (by omega) (by omega)]; omega
  refine b_X14_feed_0 hL (fun z => ?_) (fun z => b_X14_feed_13 (k1 (by rw [e] at z; omega)))
  have hl2 := e.1 z
  refine b_X14_feed_16 hL (s_mput hL hl (by omega) (fun I1 f1 l1 t1 => b_X14_feed_21 hL (s_mput hL l1 (by omega) (fun I2 f2 l2 t2 => b_X14_feed_26 hL (s_mput hL l2 (by omega) (fun I3 f3 l3 t3 => b_X14_feed_31 hL (s_mput hL l3 (by omega) (fun I4 f4 l4 t4 => b_X14_feed_37 hL (s_mput hL l4 (by omega) (fun I5 f5 l5 t5 => b_X14_feed_43 hL ?_))))))))))
  rw [l5]
  refine k2 hl2 I5 (fr_trans (fr_trans (fr_trans (fr_trans f1 f2) f3) f4) f5) l5 ?_
  rw [t5, t4, t3, t2, t1]; rfl
end FEED
