/-! ===== P2: value of both sides ===== -/
/-- a node and a time that an assertion has -/
def plc (N m : Nat) (x1 x2 : Int32) : Prop := ∃ n t, n < N ∧ t ≤ m ∧ x1 = ii n ∧ x2 = ii t
theorem plc_c {N m : Nat} {x1 x2 : Int32} (hN : N < 2147483648) (hm : m + 1 < 2147483648) : ((x1 < 0 ∨ ii N ≤ x1 ∨ x2 < 0 ∨ ii m < x2) ∧ ¬ plc N m x1 x2) ∨ (¬ x1 < 0 ∧ ¬ ii N ≤ x1 ∧ ¬ x2 < 0 ∧ ¬ ii m < x2 ∧ plc N m x1 x2) := by
  by_cases h1 : x1 < 0 ∨ ii N ≤ x1
  · refine Or.inl ⟨by rcases h1 with z | z; exact Or.inl z; exact Or.inr (Or.inl z), ?_⟩
    rintro ⟨n, t, a1, a2, a3, a4⟩
    exact no_rg hN h1 ⟨n, a1, a3⟩
  · by_cases h2 : x2 < 0 ∨ ii m < x2
    · refine Or.inl ⟨Or.inr (Or.inr h2), ?_⟩
      rintro ⟨n, t, a1, a2, a3, a4⟩
      subst a4
      rcases h2 with z | z
      · exact ii_nn (by omega) z
      · rw [ii_lt (by omega) (by omega)] at z; omega
    · refine Or.inr ⟨fun z => h1 (Or.inl z), fun z => h1 (Or.inr z), fun z => h2 (Or.inl z), fun z => h2 (Or.inr z), ?_⟩
      obtain ⟨n, n1, n2⟩ := in_rg hN (fun z => h1 (Or.inl z)) (fun z => h1 (Or.inr z))
      have e := ii_of (Int32.not_lt.1 (fun z => h2 (Or.inl z)))
      have hx := Int32.toInt_lt x2
      have e2 : x2.toNatClampNeg = x2.toInt.toNat := rfl
      refine ⟨n, x2.toNatClampNeg, n1, ?_, n2, e⟩
      have h3 : ¬ ii m < x2 := fun z => h2 (Or.inr z)
      rw [e, ii_lt (by omega) (by omega)] at h3
      omega
section VAL
variable {xs : Nat → Int32} {L d : Nat} {S : Nat → Shp} {I : Nat → Nat → Int32} {J : Nat → Nat → Int64} {R : Nat → Nat → Nat} {c : Nat × Nat} {Q : Option (Option Value) → MH → Prop} {V q b NN m : Nat} {x1 x2 x3 : Int32}
theorem s_cplace (hL : Lay S R) (r4 : R 1 4 = b) (hYb : LyCi S R b) (r6 : R 1 6 = q) (hY : LyCm S R q) (hN : I b 0 = ii NN) (hm : I q 4 = ii m) (hN2 : NN ≤ 40) (hm2 : m < 12) (h18 : I 1 8 = 1) (k1 : ¬ plc NN m x1 x2 → Q (some (some (.int 0))) (S, I, J, R, c)) (k2 : plc NN m x1 x2 → Q (some (some (.int 1))) (S, I, J, R, c)) : X xs L (d + 1) 114 0 [.ref 1, .int x1, .int x2] [] (S, I, J, R, c) Q := by
  refine s_X10_hasPlace hL r4 hYb r6 hY ?_
  unfold f_X10_hasPlace f_X1_hasNode
  rw [h18, if_neg (by decide), hN, hm]
  rcases plc_c (x1 := x1) (x2 := x2) (show NN < 2147483648 by omega) (show m + 1 < 2147483648 by omega) with ⟨h, hp⟩ | ⟨h1, h2, h3, h4, hp⟩
  · have k1 := k1 hp
    by_cases e1 : x1 < 0
    · rw [if_pos e1, if_pos rfl]; exact k1
    · rw [if_neg e1]
      by_cases e2 : ii NN ≤ x1
      · rw [if_pos e2, if_pos rfl]; exact k1
      · rw [if_neg e2, if_neg (by decide)]
        by_cases e3 : x2 < 0
        · rw [if_pos e3]; exact k1
        · rw [if_neg e3, if_pos (by rcases h with z | z | z | z; exact absurd z e1; exact absurd z e2; exact absurd z e3; exact z)]; exact k1
  · rw [if_neg h1, if_neg h2, if_neg (by decide), if_neg h3, if_neg h4]; exact k2 hp
theorem s_mplace {C N : Nat} (hL : Lay S R) (hC : R 65 13 = C) (hC0 : ¬ C = 0) (hYC : LyCs S R C) (hNo : R 65 11 = N) (hYN : LyNo S R N) (hN : I N 4 = ii NN) (hm : I C 9 = ii m) (hN2 : NN ≤ 40) (hm2 : m < 12) (k1 : ¬ plc NN m x1 x2 → Q (some (some (.int 0))) (S, I, J, R, c)) (k2 : plc NN m x1 x2 → Q (some (some (.int 1))) (S, I, J, R, c)) : X xs L d 161 0 [.ref 65, .int x1, .int x2] [] (S, I, J, R, c) Q := by
  refine s_X14_isPlace hL hC hNo hYN hYC ?_
  unfold f_X14_isPlace
  rw [if_neg hC0, hN, hm]
  rcases plc_c (x1 := x1) (x2 := x2) (show NN < 2147483648 by omega) (show m + 1 < 2147483648 by omega) with ⟨h, hp⟩ | ⟨h1, h2, h3, h4, hp⟩
  · have k1 := k1 hp
    by_cases e1 : x1 < 0
    · rw [if_pos e1]; exact k1
    · rw [if_neg e1]
      by_cases e2 : ii NN ≤ x1
      · rw [if_pos e2]; exact k1
      · rw [if_neg e2]
        by_cases e3 : x2 < 0
        · rw [if_pos e3]; exact k1
        · rw [if_neg e3, if_pos (by rcases h with z | z | z | z; exact absurd z e1; exact absurd z e2; exact absurd z e3; exact z)]; exact k1
  · rw [if_neg h1, if_neg h2, if_neg h3, if_neg h4]; exact k2 hp
/-- the value of the class in a lane -/
def vC (J : Nat → Nat → Int64) (a t n : Nat) : Int32 := if tb (J 23 (a / 64)) (a % 64) = true then 3 else if tb (J 21 (ix (a / 64) t n)) (a % 64) = true then 1 else if tb (J 22 (ix (a / 64) t n)) (a % 64) = true then 0 else 2
theorem s_cvalue (hL : Lay S R) (r4 : R 1 4 = b) (hYb : LyCi S R b) (r6 : R 1 6 = q) (hY : LyCm S R q) (hN : I b 0 = ii NN) (hm : I q 4 = ii m) (hN2 : NN ≤ 40) (hm2 : m < 12) (h18 : I 1 8 = 1) (hV : V ≤ 9) (h2 : I 13 2 = ii (2 ^ V)) (k1 : (¬ plc NN m x1 x2 ∨ ¬ ∃ a, a < 2 ^ V ∧ x3 = ii a) → Q (some (some (.int (-2)))) (S, I, J, R, c)) (k2 : ∀ n t a, n < NN → t ≤ m → a < 2 ^ V → x1 = ii n → x2 = ii t → x3 = ii a → Q (some (some (.int (vC J a t n)))) (S, I, J, R, c)) : X xs L (d + 2) 110 0 [.ref 1, .int x1, .int x2, .int x3] [] (S, I, J, R, c) Q := by
  have h512 := pw512 hV
  refine b_X10_value_0 hL (s_cplace hL r4 hYb r6 hY hN hm hN2 hm2 h18 (fun hp => b_X10_value_6 (fun _ => b_X10_value_20 (k1 (Or.inl hp))) (fun z => absurd rfl z)) (fun hp => b_X10_value_6 (fun z => absurd z (by decide)) (fun _ => b_X10_value_9 hL (s_X0_hasAssignment hL ?_))))
  unfold f_X0_hasAssignment
  by_cases e1 : x3 < 0
  · rw [if_pos e1]
    exact b_X10_value_17 (fun z => absurd rfl z) (fun _ => b_X10_value_20 (k1 (Or.inr (no_rg (by omega) (Or.inl e1)))))
  · rw [if_neg e1, h2]
    by_cases e2 : ii (2 ^ V) ≤ x3
    · rw [if_pos e2]
      exact b_X10_value_17 (fun z => absurd rfl z) (fun _ => b_X10_value_20 (k1 (Or.inr (no_rg (by omega) (Or.inr e2)))))
    · rw [if_neg e2]
      obtain ⟨a, ha, rfl⟩ := in_rg (by omega) e1 e2
      obtain ⟨n, t, hn, ht, rfl, rfl⟩ := hp
      have hw : a / 64 < 8 := by omega
      have hix : ix (a / 64) t n < 3840 := by unfold ix; omega
      have erow : f_X0_row (ii a / 64) (ii t) + ii n = ii (ix (a / 64) t n) := by
        rw [(a64 (by omega)).1, rowE hw (by omega), ii_add]; rfl
      have hb : inb (f_X0_row (ii a / 64) (ii t) + ii n) 3840 = true := by rw [erow]; exact ii_inb hix (by omega)
      refine b_X10_value_17 (fun _ => b_X10_value_23 hL (s_X0_valueOf hL (by rw [(a64 (by omega)).1]; exact ii_inb hw (by omega)) (fun _ => hb) (fun _ _ => hb) (b_X10_value_33 ?_))) (fun z => absurd (by decide) z)
      have hk := k2 n t a hn ht ha rfl rfl rfl
      have e : f_X0_valueOf J (ii n) (ii t) (ii a) = vC J a t n := by
        unfold f_X0_valueOf vC
        rw [erow, (a64 (by omega)).1, ii_nat (by omega), ii_nat (by omega), isInE (by omega), isInE (by omega), isInE (by omega)]
        cases tb (J 23 (a / 64)) (a % 64) <;> cases tb (J 21 (ix (a / 64) t n)) (a % 64) <;> cases tb (J 22 (ix (a / 64) t n)) (a % 64) <;> rfl
      rw [e]; exact hk
theorem s_mvalue {C N : Nat} (hL : Lay S R) (hC : R 65 13 = C) (hC0 : ¬ C = 0) (hYC : LyCs S R C) (hNo : R 65 11 = N) (hYN : LyNo S R N) (hN : I N 4 = ii NN) (hm : I C 9 = ii m) (hN2 : NN ≤ 40) (hm2 : m < 12) (hv : I C 8 = ii V) (hV : V ≤ 9) (k1 : (¬ plc NN m x1 x2 ∨ ¬ ∃ a, a < 2 ^ V ∧ x3 = ii a) → Q (some (some (.int (-2)))) (S, I, J, R, c)) (k2 : ∀ n t a, n < NN → t ≤ m → a < 2 ^ V → x1 = ii n → x2 = ii t → x3 = ii a → Q (some (some (.int (if I 113 a = 0 then vE I a t n else 3)))) (S, I, J, R, c)) : X xs L (d + 1) 162 0 [.ref 65, .int x1, .int x2, .int x3] [] (S, I, J, R, c) Q := by
  have h512 := pw512 hV
  refine b_X14_value_0 hL (s_mplace hL hC hC0 hYC hNo hYN hN hm hN2 hm2 (fun hp => b_X14_value_6 (fun _ => b_X14_value_21 (k1 (Or.inl hp))) (fun z => absurd rfl z)) (fun hp => b_X14_value_6 (fun z => absurd z (by decide)) (fun _ => b_X14_value_9 (fun e1 => b_X14_value_21 (k1 (Or.inr (no_rg (by omega) (Or.inl e1))))) (fun e1 => b_X14_value_13 hL (s_mall hL hC hYC hC0 hv hV _ (b_X14_value_18 (fun e2 => ?_) (fun e2 => b_X14_value_21 (k1 (Or.inr (no_rg (by omega) (Or.inr (Int32.not_lt.1 e2))))))))))))
  obtain ⟨a, ha, rfl⟩ := in_rg (by omega) e1 (Int32.not_le.2 e2)
  obtain ⟨n, t, hn, ht, rfl, rfl⟩ := hp
  have hk := k2 n t a hn ht ha rfl rfl rfl
  have hna : (ii a).toNatClampNeg = a := ii_nat (by omega)
  refine b_X14_value_24 hL (ii_inb (by omega) (by omega)) (fun z => ?_) (fun z => b_X14_value_33 (b_X14_value_49 ?_))
  · rw [hna] at z
    rw [if_pos z] at hk
    refine b_X14_value_37 hL (s_X14_cell ?_)
    rw [cellE]
    have hcl : 480 * a + 40 * t + n < 245760 := by omega
    refine b_X14_value_48 hL (ii_inb hcl (by omega)) (b_X14_value_49 ?_)
    rw [ii_nat (by omega)]; exact hk
  · rw [hna] at z
    rw [if_neg z] at hk; exact hk
end VAL
