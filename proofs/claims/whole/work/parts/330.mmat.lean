/-! ===== P2: matters of the model ===== -/
theorem bitE {a e : Nat} (ha : a < 512) (he : e < 9) : ((ii a &&& ((1 : Int32) <<< (ii e &&& 31))) = 0 ↔ a.testBit e = false) ∧ ii a ||| ((1 : Int32) <<< (ii e &&& 31)) = ii (a ||| 2 ^ e) := by
  have : ∀ (a : Fin 512) (e : Fin 9), ((ii a.val &&& ((1 : Int32) <<< (ii e.val &&& 31))) = 0 ↔ a.val.testBit e.val = false) ∧ ii a.val ||| ((1 : Int32) <<< (ii e.val &&& 31)) = ii (a.val ||| 2 ^ e.val) := by decide +kernel
  exact this ⟨a, ha⟩ ⟨e, he⟩
/-- a variable matters at a place, by the model's values -/
def mat (I : Nat → Nat → Int32) (V v t n a : Nat) : Prop := a.testBit (V - 1 - v) = false ∧ I 113 a = 0 ∧ I 113 (a ||| 2 ^ (V - 1 - v)) = 0 ∧ ¬ vE I a t n = vE I (a ||| 2 ^ (V - 1 - v)) t n
section MMA
variable {xs : Nat → Int32} {L d : Nat} {S : Nat → Shp} {I : Nat → Nat → Int32} {J : Nat → Nat → Int64} {R : Nat → Nat → Nat} {c : Nat × Nat} {Q : Option (Option Value) → MH → Prop} {V NN m C N : Nat} {x1 x2 x3 : Int32}
theorem s_mmat (hL : Lay S R) (hC : R 65 13 = C) (hC0 : ¬ C = 0) (hYC : LyCs S R C) (hNo : R 65 11 = N) (hYN : LyNo S R N) (hN : I N 4 = ii NN) (hm : I C 9 = ii m) (hN2 : NN ≤ 40) (hm2 : m < 12) (hv : I C 8 = ii V) (hV : V ≤ 9) (k1 : (¬ plc NN m x1 x2 ∨ ¬ ∃ v, v < V ∧ x3 = ii v) → Q (some (some (.int (-2)))) (S, I, J, R, c)) (k2 : ∀ n t v, n < NN → t ≤ m → v < V → x1 = ii n → x2 = ii t → x3 = ii v → (∃ a, a < 2 ^ V ∧ mat I V v t n a) → Q (some (some (.int 1))) (S, I, J, R, c)) (k3 : ∀ n t v, n < NN → t ≤ m → v < V → x1 = ii n → x2 = ii t → x3 = ii v → (¬ ∃ a, a < 2 ^ V ∧ mat I V v t n a) → Q (some (some (.int 0))) (S, I, J, R, c)) : X xs L (d + 1) 163 0 [.ref 65, .int x1, .int x2, .int x3, .null, .null] [] (S, I, J, R, c) Q := by
  have h512 := pw512 hV
  refine b_X14_matters_0 hL (s_mplace hL hC hC0 hYC hNo hYN hN hm hN2 hm2 (fun hp => b_X14_matters_6 (fun _ => b_X14_matters_24 (k1 (Or.inl hp))) (fun z => absurd rfl z)) (fun hp => b_X14_matters_6 (fun z => absurd z (by decide)) (fun _ => b_X14_matters_9 (fun e1 => b_X14_matters_24 (k1 (Or.inr (no_rg (by omega) (Or.inl e1))))) (fun e1 => b_X14_matters_13 hL hC hYC (fun e2 => ?_) (fun e2 => b_X14_matters_24 (k1 (Or.inr (no_rg (by omega) (Or.inr (by rw [hv] at e2; exact Int32.not_lt.1 e2)))))))))) 
  rw [hv] at e2
  obtain ⟨v, hvv, rfl⟩ := in_rg (by omega) e1 (Int32.not_le.2 e2)
  obtain ⟨n, t, hn, ht, rfl, rfl⟩ := hp
  refine b_X14_matters_27 hL hC hYC ?_
  rw [hv, ii_one, ii_sub (by omega), ii_sub (by omega), ← ii_one]
  have he : V - 1 - v < 9 := by omega
  have main : ∀ (f a : Nat), 2 ^ V - a = f → a ≤ 2 ^ V → (∀ a', a' < a → ¬ mat I V v t n a') → X xs L (d + 1) 163 45 [.ref 65, .int (ii n), .int (ii t), .int (ii v), .int ((1 : Int32) <<< (ii (V - 1 - v) &&& 31)), .int (ii a)] [] (S, I, J, R, c) Q := by
    intro f
    induction f with
    | zero =>
      intro a g1 g2 g3
      have e : a = 2 ^ V := by omega
      refine b_X14_matters_45 hL (s_mall hL hC hYC hC0 hv hV _ (b_X14_matters_51 (fun _ => b_X14_matters_128 (k3 n t v hn ht hvv rfl rfl rfl ?_)) (fun z => ?_)))
      · rintro ⟨a', h1, h2⟩; exact g3 a' (by omega) h2
      · rw [e] at z; exact absurd (Int32.le_refl _) z
    | succ f ih =>
      intro a g1 g2 g3
      have ha : a < 512 := by omega
      obtain ⟨b1, b2⟩ := bitE ha he
      have hor : a ||| 2 ^ (V - 1 - v) < 2 ^ V := Nat.or_lt_two_pow (by omega) (Nat.pow_lt_pow_right (by omega) (by omega))
      have hnext : ¬ mat I V v t n a → X xs L (d + 1) 163 122 [.ref 65, .int (ii n), .int (ii t), .int (ii v), .int ((1 : Int32) <<< (ii (V - 1 - v) &&& 31)), .int (ii a)] [] (S, I, J, R, c) Q := by
        intro hno
        refine b_X14_matters_122 ?_
        rw [ii_add1]
        refine ih (a + 1) (by omega) (by omega) (fun a' ha' => ?_)
        by_cases e : a' = a
        · rw [e]; exact hno
        · exact g3 a' (by omega)
      refine b_X14_matters_45 hL (s_mall hL hC hYC hC0 hv hV _ (b_X14_matters_51 (fun z => ?_) (fun _ => b_X14_matters_54 (fun z => hnext (fun w => z (b1.2 w.1))) (fun z => ?_))))
      · rw [ii_le (by omega) (by omega)] at z; omega
      have hbit := b1.1 (Classical.not_not.1 z)
      refine b_X14_matters_62 hL (ii_inb ha (by omega)) (fun z2 => hnext (fun w => z2 (by rw [ii_nat (by omega)]; exact w.2.1))) (fun z2 => ?_)
      rw [ii_nat (by omega)] at z2
      refine b_X14_matters_72 hL (by rw [b2]; exact ii_inb (by omega) (by omega)) (fun z3 => ?_) (fun z3 => b_X14_matters_85 (hnext (fun w => z3 (by rw [b2, ii_nat (by omega)]; exact w.2.2.1))))
      rw [b2, ii_nat (by omega)] at z3
      refine b_X14_matters_88 hL (s_X14_cell ?_)
      rw [cellE]
      have hc1 : 480 * a + 40 * t + n < 245760 := by omega
      have hc2 : 480 * (a ||| 2 ^ (V - 1 - v)) + 40 * t + n < 245760 := by omega
      refine b_X14_matters_100 hL (ii_inb hc1 (by omega)) (s_X14_cell ?_)
      rw [b2, cellE, ii_nat (by omega)]
      refine b_X14_matters_116 hL (ii_inb hc2 (by omega)) (fun z4 => hnext (fun w => w.2.2.2 (by rw [ii_nat (by omega)] at z4; exact z4))) (fun z4 => b_X14_matters_120 (k2 n t v hn ht hvv rfl rfl rfl ⟨a, by omega, hbit, Classical.not_not.1 z2, z3, fun w => z4 (by rw [ii_nat (by omega)]; exact w)⟩))
  exact main (2 ^ V) 0 (Nat.sub_zero _) (Nat.zero_le _) (fun a' ha' => by omega)
end MMA
