/-! ===== P2: shortfall of both sides ===== -/
theorem i01 {x : Int32} (h1 : ¬ x < 0) (h2 : x ≤ 1) : x = 0 ∨ x = 1 := by
  have e := ii_of (Int32.not_lt.1 h1)
  have hb : x.toNatClampNeg ≤ 1 := by
    rw [e, ii_one] at h2
    have hx := Int32.toInt_lt x
    have e2 : x.toNatClampNeg = x.toInt.toNat := rfl
    exact (ii_le (by omega) (by omega)).1 h2
  rcases Nat.lt_or_ge x.toNatClampNeg 1 with q | q
  · left; rw [e, show x.toNatClampNeg = 0 by omega]; rfl
  · right; rw [e, show x.toNatClampNeg = 1 by omega]; rfl
theorem in_rg {x : Int32} {n : Nat} (hn : n < 2147483648) (h1 : ¬ x < 0) (h2 : ¬ ii n ≤ x) : ∃ a, a < n ∧ x = ii a := by
  have e := ii_of (Int32.not_lt.1 h1)
  refine ⟨x.toNatClampNeg, ?_, e⟩
  have hx := Int32.toInt_lt x
  have e2 : x.toNatClampNeg = x.toInt.toNat := rfl
  rw [e, ii_le (by omega) (by omega)] at h2
  omega
theorem no_rg {x : Int32} {n : Nat} (hn : n < 2147483648) (h : x < 0 ∨ ii n ≤ x) : ¬ ∃ a, a < n ∧ x = ii a := by
  rintro ⟨a, ha, e⟩
  subst e
  rcases h with z | z
  · exact ii_nn (by omega) z
  · rw [ii_le (by omega) (by omega)] at z; omega
theorem pw512 {V : Nat} (h : V ≤ 9) : 2 ^ V ≤ 512 := by
  have : ∀ V : Fin 10, 2 ^ V.val ≤ 512 := by decide
  exact this ⟨V, by omega⟩
section SH2
variable {xs : Nat → Int32} {L d : Nat} {S : Nat → Shp} {I : Nat → Nat → Int32} {J : Nat → Nat → Int64} {R : Nat → Nat → Nat} {c : Nat × Nat} {Q : Option (Option Value) → MH → Prop} {V q gv : Nat} {cs : List Cl} {kl : List Int32} {g : LeS} {x1 x2 : Int32}
theorem s_cshort (hL : Lay S R) (hq : R 13 1 = q) (hY : LyCm S R q) (hK : KCl I q cs gv kl g) (hI : KI 40 cs kl g) (hV : V ≤ 9) (h18 : I 1 8 = 1) (h2 : I 13 2 = ii (2 ^ V)) (h24 : ∀ a, a < 2 ^ V → tb (J 24 (a / 64)) (a % 64) = true → ∃ u x t, gv ≤ u ∧ cs[u]? = some x ∧ x.2.2.2.2.1 ≤ t ∧ t ≤ x.2.2.2.2.2 ∧ wrg J (a / 64) t u x (a % 64)) (k1 : ¬ x2 = 0 → ¬ x2 = 1 → Q (some (some (.int (-1)))) (S, I, J, R, c)) (k2 : (x2 = 0 ∨ x2 = 1) → (¬ ∃ a, a < 2 ^ V ∧ x1 = ii a) → Q (some (some (.int (-2)))) (S, I, J, R, c)) (k3 : (x2 = 0 ∨ x2 = 1) → ∀ a, a < 2 ^ V → x1 = ii a → tb (J 24 (a / 64)) (a % 64) = false → Q (some (some (.int (-2)))) (S, I, J, R, c)) (k4 : ∀ a u x t, a < 2 ^ V → x1 = ii a → tb (J 24 (a / 64)) (a % 64) = true → fwr J cs gv a u t x → (x2 = 0 → Q (some (some (.int (ii (u - gv))))) (S, I, J, R, c)) ∧ (x2 = 1 → Q (some (some (.int (ii t)))) (S, I, J, R, c))) : X xs L (d + 5) 109 0 [.ref 1, .int x1, .int x2] [] (S, I, J, R, c) Q := by
  have h512 := pw512 hV
  have h11 : (x2 = 0 ∨ x2 = 1) → X xs L (d + 5) 109 11 [.ref 1, .int x1, .int x2] [] (S, I, J, R, c) Q := by
    intro hx2
    refine b_X10_shortfall_11 hL (fun z => by rw [h18] at z; exact absurd z (by decide)) (fun _ => b_X10_shortfall_18 hL (s_X0_hasAssignment hL ?_))
    unfold f_X0_hasAssignment
    by_cases e1 : x1 < 0
    · rw [if_pos e1]
      exact b_X10_shortfall_26 (fun z => absurd rfl z) (fun _ => b_X10_shortfall_29 (k2 hx2 (no_rg (by omega) (Or.inl e1))))
    · rw [if_neg e1, h2]
      by_cases e2 : ii (2 ^ V) ≤ x1
      · rw [if_pos e2]
        exact b_X10_shortfall_26 (fun z => absurd rfl z) (fun _ => b_X10_shortfall_29 (k2 hx2 (no_rg (by omega) (Or.inr e2))))
      · rw [if_neg e2]
        obtain ⟨a, ha, rfl⟩ := in_rg (by omega) e1 e2
        refine b_X10_shortfall_26 (fun _ => b_X10_shortfall_32 (fun z => ?_) (fun z => ?_)) (fun z => absurd (by decide) z)
        · have hx1 : x2 = 1 := hx2.resolve_left z
          exact b_X10_shortfall_47 hL (s_fwt hL hq hY hK hI (by omega) (h24 a ha) (fun u x t w1 w2 => b_X10_shortfall_55 ((k4 a u x t ha rfl w1 w2).2 hx1)) (fun w => b_X10_shortfall_55 (k3 hx2 a ha rfl w)))
        · have hx0 : x2 = 0 := Classical.not_not.1 z
          exact b_X10_shortfall_36 hL (s_fwc (d := d + 1) hL hq hY hK hI (by omega) (h24 a ha) (fun u x t w1 w2 => b_X10_shortfall_44 (b_X10_shortfall_55 ((k4 a u x t ha rfl w1 w2).1 hx0))) (fun w => b_X10_shortfall_44 (b_X10_shortfall_55 (k3 hx2 a ha rfl w))))
  exact b_X10_shortfall_0 (fun z => h11 (Or.inl z)) (fun z => b_X10_shortfall_4 (fun z2 => h11 (Or.inr z2)) (fun z2 => b_X10_shortfall_9 (k1 z z2)))
theorem s_cshort0 (hL : Lay S R) (h18 : I 1 8 = 0) (k1 : ¬ x2 = 0 → ¬ x2 = 1 → Q (some (some (.int (-1)))) (S, I, J, R, c)) (k2 : (x2 = 0 ∨ x2 = 1) → Q (some (some (.int (-2)))) (S, I, J, R, c)) : X xs L (d + 1) 109 0 [.ref 1, .int x1, .int x2] [] (S, I, J, R, c) Q := by
  have h11 : (x2 = 0 ∨ x2 = 1) → X xs L (d + 1) 109 11 [.ref 1, .int x1, .int x2] [] (S, I, J, R, c) Q := fun hx2 => b_X10_shortfall_11 hL (fun _ => b_X10_shortfall_29 (k2 hx2)) (fun z => absurd h18 z)
  exact b_X10_shortfall_0 (fun z => h11 (Or.inl z)) (fun z => b_X10_shortfall_4 (fun z2 => h11 (Or.inr z2)) (fun z2 => b_X10_shortfall_9 (k1 z z2)))
theorem s_mshort {n : Nat} (hL : Lay S R) (hn : n ≤ 512) (hall : ∀ (Q : Option (Option Value) → MH → Prop), Q (some (some (.int (ii n)))) (S, I, J, R, c) → X xs L d 156 0 [.ref 65] [] (S, I, J, R, c) Q) (k1 : ¬ x2 = 0 → ¬ x2 = 1 → Q (some (some (.int (-1)))) (S, I, J, R, c)) (k2 : (x2 = 0 ∨ x2 = 1) → (¬ ∃ a, a < n ∧ x1 = ii a) → Q (some (some (.int (-2)))) (S, I, J, R, c)) (k3 : (x2 = 0 ∨ x2 = 1) → ∀ a, a < n → x1 = ii a → I 114 a = 0 → Q (some (some (.int (-2)))) (S, I, J, R, c)) (k4 : ∀ a, a < n → x1 = ii a → ¬ I 114 a = 0 → (x2 = 0 → Q (some (some (.int (I 115 a)))) (S, I, J, R, c)) ∧ (x2 = 1 → Q (some (some (.int (I 116 a)))) (S, I, J, R, c))) : X xs L (d + 1) 160 0 [.ref 65, .int x1, .int x2] [] (S, I, J, R, c) Q := by
  refine b_X14_shortfall_0 (fun z => b_X14_shortfall_9 (k1 (fun e => by rw [e] at z; exact absurd z (by decide)) (fun e => by rw [e] at z; exact absurd z (by decide)))) (fun z => b_X14_shortfall_4 (fun z2 => ?_) (fun z2 => b_X14_shortfall_9 (k1 (fun e => by rw [e] at z2; exact absurd (by decide) z2) (fun e => by rw [e] at z2; exact absurd (by decide) z2))))
  have hx2 := i01 z z2
  refine b_X14_shortfall_11 (fun e1 => b_X14_shortfall_32 (k2 hx2 (no_rg (by omega) (Or.inl e1)))) (fun e1 => b_X14_shortfall_15 hL (hall _ (b_X14_shortfall_20 (fun e2 => b_X14_shortfall_32 (k2 hx2 (no_rg (by omega) (Or.inr e2)))) (fun e2 => ?_))))
  obtain ⟨a, ha, rfl⟩ := in_rg (by omega) e1 e2
  have hb : inb (ii a) 512 = true := ii_inb (by omega) (by omega)
  have hna : (ii a).toNatClampNeg = a := ii_nat (by omega)
  refine b_X14_shortfall_23 hL hb (fun w => ?_) (fun w => b_X14_shortfall_32 (k3 hx2 a ha rfl (by rw [hna] at w; exact Classical.not_not.1 w)))
  rw [hna] at w
  refine b_X14_shortfall_35 (fun y => b_X14_shortfall_48 hL hb (b_X14_shortfall_54 ?_)) (fun y => b_X14_shortfall_39 hL hb (b_X14_shortfall_54 ?_))
  · rw [hna]; exact (k4 a ha rfl w).2 (hx2.resolve_left y)
  · rw [hna]; exact (k4 a ha rfl w).1 (Classical.not_not.1 y)
end SH2
