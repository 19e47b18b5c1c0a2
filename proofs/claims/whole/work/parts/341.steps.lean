/-! ===== P4: the calls that change something ===== -/
theorem Lay_ch {S S' : Nat → Shp} {R R' : Nat → Nat → Nat} (h : Lay S R) (hs : ∀ x, x ≤ 118 → S' x = S x) (hr : ∀ x, x ≤ 118 → ¬ x = 65 → ¬ x = 1 → R' x = R x) (hr1 : ∀ k, k < 4 → R' 1 k = R 1 k) (hr65 : ∀ k, (k < 9 ∨ 19 < k) → R' 65 k = R 65 k) : Lay S' R' := by
  have h1 : ∀ p ∈ layS, p.1 ≤ 118 := by decide +kernel
  have h2 : ∀ p ∈ layR, p.1 ≤ 118 ∧ (p.1 = 65 → p.2.1 < 9 ∨ 19 < p.2.1) ∧ (p.1 = 1 → p.2.1 < 4) := by decide +kernel
  refine ⟨fun p hp => by rw [hs p.1 (h1 p hp)]; exact h.1 p hp, fun p hp => ?_⟩
  obtain ⟨g1, g2, g3⟩ := h2 p hp
  have := h.2 p hp
  by_cases e : p.1 = 65
  · rw [e] at this ⊢; rw [hr65 _ (g2 e)]; exact this
  · by_cases e1 : p.1 = 1
    · rw [e1] at this ⊢; rw [hr1 _ (g3 e1)]; exact this
    · rw [hr _ g1 e e1]; exact this
section STP
variable {S S' : Nat → Shp} {I I' : Nat → Nat → Int32} {J J' : Nat → Nat → Int64} {R R' : Nat → Nat → Nat} {c c' : Nat × Nat} {b b' q q' T T' N N' K K' C C' : Nat} {ns : List Nd} {l : List Int32}
theorem AD.Cr (h : AD S R c b b' q q' T T' N N' K K' C C') (h0 : ¬ C = 0) : (C = 93 ∨ (118 < C ∧ C + 6 ≤ c.1)) ∧ (C + 6 < C' ∨ C' + 6 < C) := ⟨(h.hC.resolve_left h0).1, (h.hC.resolve_left h0).2.2⟩
/-- other references change, or cells come anew -/
theorem AD_ch (h : AD S R c b b' q q' T T' N N' K K' C C') (hs : ∀ x, x ≤ c.1 → S' x = S x) (hr : ∀ x k, x ≤ c.1 → ¬ (x = 8 ∨ x = 11 ∨ x = 13 ∨ (x = 65 ∧ 17 ≤ k ∧ k ≤ 19)) → R' x k = R x k) (hR13 : ∀ k, 2 ≤ k → R' 13 k = R 13 k) (hR8 : R' 8 0 = R 8 0 ∧ R' 8 3 = R 8 3 ∧ R' 8 7 = R 8 7 ∧ R' 11 0 = R 11 0 ∧ R' 11 3 = R 11 3) (hc : c.1 ≤ c'.1) : AD S' R' c' b b' q q' T T' N N' K K' C C' := by
  have hc118 := h.hc
  have e1 : ∀ k, R' 1 k = R 1 k := fun k => hr 1 k (by omega) (by omega)
  have e65 : ∀ k, k < 17 → R' 65 k = R 65 k := fun k hk => hr 65 k (by omega) (by omega)
  have hC' := h.hC'
  have hly : ∀ a, (a = 93 ∨ (118 < a ∧ a + 6 ≤ c.1)) → LyCs S R a → LyCs S' R' a := fun a ha hy => LyCs_eq hy (fun x h1 h2 => ⟨hs x (by omega), funext fun k => hr x k (by omega) (by omega)⟩)
  refine ⟨?_, ?_, ?_, ?_, ?_, ?_, ?_, ?_, ?_, ?_, ?_, ?_, ?_, ?_, ?_, ?_, ?_, ?_, ?_, ?_, ?_, ?_⟩
  · have h1 : ∀ p ∈ layS, p.1 ≤ 118 := by decide +kernel
    have h2 : ∀ p ∈ layR, p.1 ≤ 118 ∧ (p.1 = 65 → p.2.1 < 9 ∨ 19 < p.2.1) ∧ (p.1 = 13 → 2 ≤ p.2.1) ∧ (p.1 = 8 → p.2.1 = 0 ∨ p.2.1 = 3 ∨ p.2.1 = 7) ∧ (p.1 = 11 → p.2.1 = 0 ∨ p.2.1 = 3) := by decide +kernel
    refine ⟨fun p hp => by rw [hs p.1 (by have := h1 p hp; omega)]; exact h.hL.1 p hp, fun p hp => ?_⟩
    obtain ⟨g1, g2, g3, g4, g5⟩ := h2 p hp
    rw [← h.hL.2 p hp]
    by_cases a1 : p.1 = 13
    · rw [a1]; exact hR13 _ (g3 a1)
    · by_cases a2 : p.1 = 8
      · rw [a2]
        rcases g4 a2 with z | z | z <;> rw [z]
        · exact hR8.1
        · exact hR8.2.1
        · exact hR8.2.2.1
      · by_cases a3 : p.1 = 11
        · rw [a3]
          rcases g5 a3 with z | z <;> rw [z]
          · exact hR8.2.2.2.1
          · exact hR8.2.2.2.2
        · exact hr _ _ (by omega) (by omega)
  · rw [e1]; exact h.r4
  · rw [e1]; exact h.r5
  · exact h.hb
  · rw [e1]; exact h.r6
  · rw [e1]; exact h.r7
  · exact h.hq
  · rw [e65 _ (by omega)]; exact h.t9
  · rw [e65 _ (by omega)]; exact h.t10
  · exact h.hT
  · rw [e65 _ (by omega)]; exact h.n11
  · rw [e65 _ (by omega)]; exact h.n12
  · exact h.hN
  · rw [e65 _ (by omega)]; exact h.c13
  · rw [e65 _ (by omega)]; exact h.c14
  · rw [e65 _ (by omega)]; exact h.k15
  · rw [e65 _ (by omega)]; exact h.k16
  · exact h.hK
  · omega
  · exact hly C' hC' h.yC'
  · by_cases h0 : C = 0
    · exact Or.inl h0
    · have := h.Cr h0
      exact Or.inr ⟨by omega, hly C (by omega) (h.hC.resolve_left h0).2.1, this.2⟩
  · omega
theorem AD_u2 {x y v : Nat} (h : AD S R c b b' q q' T T' N N' K K' C C') (hx : (x = 8 ∧ ¬ y = 0 ∧ ¬ y = 3 ∧ ¬ y = 7) ∨ (x = 11 ∧ ¬ y = 0 ∧ ¬ y = 3) ∨ (x = 13 ∧ y < 2) ∨ (x = 65 ∧ 17 ≤ y ∧ y ≤ 19)) : AD S (u2 R x y v) c b b' q q' T T' N N' K K' C C' := by
  have hn : ∀ x' k, ¬ (x' = x ∧ k = y) → u2 R x y v x' k = R x' k := fun x' k hne => by rw [u2_if, if_neg hne]
  exact AD_ch h (fun _ _ => rfl) (fun x' k _ h2 => hn _ _ (by omega)) (fun k hk => hn _ _ (by omega)) ⟨hn _ _ (by omega), hn _ _ (by omega), hn _ _ (by omega), hn _ _ (by omega), hn _ _ (by omega)⟩ (Nat.le_refl _)
theorem AD_b (h : AD S R c b b' q q' T T' N N' K K' C C') : AD S (u2 (u2 R 1 4 b') 1 5 b) c b' b q q' T T' N N' K K' C C' := by
  have hn : ∀ x' k, ¬ (x' = 1 ∧ (k = 4 ∨ k = 5)) → u2 (u2 R 1 4 b') 1 5 b x' k = R x' k := fun x' k hne => by rw [u2_if, if_neg (by omega), u2_if, if_neg (by omega)]
  have hb := h.hb
  have hC' := h.hC'
  refine ⟨?_, ?_, ?_, ?_, ?_, ?_, ?_, ?_, ?_, ?_, ?_, ?_, ?_, ?_, ?_, ?_, ?_, ?_, ?_, ?_, ?_, ?_⟩
  · exact Lay_ch h.hL (fun _ _ => rfl) (fun x _ _ h1 => funext fun k => hn x k (by omega)) (fun k hk => hn _ _ (by omega)) (fun k hk => hn _ _ (by omega))
  · rw [u2_if, if_neg (by omega), u2_e]
  · rw [u2_e]
  · omega
  · rw [hn _ _ (by omega)]; exact h.r6
  · rw [hn _ _ (by omega)]; exact h.r7
  · exact h.hq
  · rw [hn _ _ (by omega)]; exact h.t9
  · rw [hn _ _ (by omega)]; exact h.t10
  · exact h.hT
  · rw [hn _ _ (by omega)]; exact h.n11
  · rw [hn _ _ (by omega)]; exact h.n12
  · exact h.hN
  · rw [hn _ _ (by omega)]; exact h.c13
  · rw [hn _ _ (by omega)]; exact h.c14
  · rw [hn _ _ (by omega)]; exact h.k15
  · rw [hn _ _ (by omega)]; exact h.k16
  · exact h.hK
  · exact h.hC'
  · exact LyCs_eq h.yC' (fun x h1 h2 => ⟨rfl, funext fun k => hn _ _ (by omega)⟩)
  · by_cases h0 : C = 0
    · exact Or.inl h0
    · have := h.Cr h0
      exact Or.inr ⟨this.1, LyCs_eq (h.hC.resolve_left h0).2.1 (fun x h1 h2 => ⟨rfl, funext fun k => hn _ _ (by omega)⟩), this.2⟩
  · exact h.hc
theorem AD_q (h : AD S R c b b' q q' T T' N N' K K' C C') : AD S (u2 (u2 R 1 6 q') 1 7 q) c b b' q' q T T' N N' K K' C C' := by
  have hn : ∀ x' k, ¬ (x' = 1 ∧ (k = 6 ∨ k = 7)) → u2 (u2 R 1 6 q') 1 7 q x' k = R x' k := fun x' k hne => by rw [u2_if, if_neg (by omega), u2_if, if_neg (by omega)]
  have hq := h.hq
  have hC' := h.hC'
  refine ⟨?_, ?_, ?_, ?_, ?_, ?_, ?_, ?_, ?_, ?_, ?_, ?_, ?_, ?_, ?_, ?_, ?_, ?_, ?_, ?_, ?_, ?_⟩
  · exact Lay_ch h.hL (fun _ _ => rfl) (fun x _ _ h1 => funext fun k => hn x k (by omega)) (fun k hk => hn _ _ (by omega)) (fun k hk => hn _ _ (by omega))
  · rw [hn _ _ (by omega)]; exact h.r4
  · rw [hn _ _ (by omega)]; exact h.r5
  · exact h.hb
  · rw [u2_if, if_neg (by omega), u2_e]
  · rw [u2_e]
  · omega
  · rw [hn _ _ (by omega)]; exact h.t9
  · rw [hn _ _ (by omega)]; exact h.t10
  · exact h.hT
  · rw [hn _ _ (by omega)]; exact h.n11
  · rw [hn _ _ (by omega)]; exact h.n12
  · exact h.hN
  · rw [hn _ _ (by omega)]; exact h.c13
  · rw [hn _ _ (by omega)]; exact h.c14
  · rw [hn _ _ (by omega)]; exact h.k15
  · rw [hn _ _ (by omega)]; exact h.k16
  · exact h.hK
  · exact h.hC'
  · exact LyCs_eq h.yC' (fun x h1 h2 => ⟨rfl, funext fun k => hn _ _ (by omega)⟩)
  · by_cases h0 : C = 0
    · exact Or.inl h0
    · have := h.Cr h0
      exact Or.inr ⟨this.1, LyCs_eq (h.hC.resolve_left h0).2.1 (fun x h1 h2 => ⟨rfl, funext fun k => hn _ _ (by omega)⟩), this.2⟩
  · exact h.hc
theorem AD_T (h : AD S R c b b' q q' T T' N N' K K' C C') : AD S (u2 (u2 (u2 (u2 (u2 R 65 10 T) 65 9 T') 65 12 N) 65 11 N') 65 13 0) c b b' q q' T' T N' N K K' 0 C' := by
  have hn : ∀ x' k, ¬ (x' = 65 ∧ (k = 9 ∨ k = 10 ∨ k = 11 ∨ k = 12 ∨ k = 13)) → u2 (u2 (u2 (u2 (u2 R 65 10 T) 65 9 T') 65 12 N) 65 11 N') 65 13 0 x' k = R x' k := fun x' k hne => by rw [u2_if, if_neg (by omega), u2_if, if_neg (by omega), u2_if, if_neg (by omega), u2_if, if_neg (by omega), u2_if, if_neg (by omega)]
  have hT := h.hT
  have hN := h.hN
  have hC' := h.hC'
  refine ⟨?_, ?_, ?_, ?_, ?_, ?_, ?_, ?_, ?_, ?_, ?_, ?_, ?_, ?_, ?_, ?_, ?_, ?_, ?_, ?_, ?_, ?_⟩
  · exact Lay_ch h.hL (fun _ _ => rfl) (fun x _ h1 _ => funext fun k => hn x k (by omega)) (fun k hk => hn _ _ (by omega)) (fun k hk => hn _ _ (by omega))
  · rw [hn _ _ (by omega)]; exact h.r4
  · rw [hn _ _ (by omega)]; exact h.r5
  · exact h.hb
  · rw [hn _ _ (by omega)]; exact h.r6
  · rw [hn _ _ (by omega)]; exact h.r7
  · exact h.hq
  · rw [u2_if, if_neg (by omega), u2_if, if_neg (by omega), u2_if, if_neg (by omega), u2_e]
  · rw [u2_if, if_neg (by omega), u2_if, if_neg (by omega), u2_if, if_neg (by omega), u2_if, if_neg (by omega), u2_e]
  · omega
  · rw [u2_if, if_neg (by omega), u2_e]
  · rw [u2_if, if_neg (by omega), u2_if, if_neg (by omega), u2_e]
  · omega
  · rw [u2_e]
  · rw [hn _ _ (by omega)]; exact h.c14
  · rw [hn _ _ (by omega)]; exact h.k15
  · rw [hn _ _ (by omega)]; exact h.k16
  · exact h.hK
  · exact h.hC'
  · exact LyCs_eq h.yC' (fun x h1 h2 => ⟨rfl, funext fun k => hn _ _ (by omega)⟩)
  · exact Or.inl rfl
  · exact h.hc
theorem LI_up {n : Nat} (h : LI S I J R c n) : LI S I J R c (n + 1) := by
  obtain ⟨b, b', q, q', T, T', N, N', K, K', C, C', len, ns, l, hA, hT, hM, hS, hc1, hc2⟩ := h
  exact ⟨b, b', q, q', T, T', N, N', K, K', C, C', len, ns, l, hA, hT, hM, hS, by omega, by omega⟩
end STP
