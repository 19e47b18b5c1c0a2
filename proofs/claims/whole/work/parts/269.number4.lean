/-! ===== P2: numbers of four digits ===== -/
theorem nchk_40 : (List.range 1000).all (fun v => nchk 4 (0 + v)) = true := by decide +kernel
theorem nchk_41 : (List.range 1000).all (fun v => nchk 4 (1000 + v)) = true := by decide +kernel
theorem nchk_42 : (List.range 1000).all (fun v => nchk 4 (2000 + v)) = true := by decide +kernel
theorem nchk_43 : (List.range 1000).all (fun v => nchk 4 (3000 + v)) = true := by decide +kernel
theorem nchk_44 : (List.range 1000).all (fun v => nchk 4 (4000 + v)) = true := by decide +kernel
theorem nchk_45 : (List.range 1000).all (fun v => nchk 4 (5000 + v)) = true := by decide +kernel
theorem nchk_46 : (List.range 1000).all (fun v => nchk 4 (6000 + v)) = true := by decide +kernel
theorem nchk_47 : (List.range 1000).all (fun v => nchk 4 (7000 + v)) = true := by decide +kernel
theorem nchk_48 : (List.range 1000).all (fun v => nchk 4 (8000 + v)) = true := by decide +kernel
theorem nchk_49 : (List.range 1000).all (fun v => nchk 4 (9000 + v)) = true := by decide +kernel
theorem nchk_4 {v : Nat} (h : v < 10000) : nchk 4 v = true := by
  have g : ∀ (n : Nat), (List.range 1000).all (fun v => nchk 4 (n + v)) = true → n ≤ v → v < n + 1000 → nchk 4 v = true := by
    intro n h1 h2 h3
    have := List.all_eq_true.1 h1 (v - n) (List.mem_range.2 (by omega))
    rw [show n + (v - n) = v by omega] at this
    exact this
  have : v < 1000 ∨ (1000 ≤ v ∧ v < 2000) ∨ (2000 ≤ v ∧ v < 3000) ∨ (3000 ≤ v ∧ v < 4000) ∨ (4000 ≤ v ∧ v < 5000) ∨ (5000 ≤ v ∧ v < 6000) ∨ (6000 ≤ v ∧ v < 7000) ∨ (7000 ≤ v ∧ v < 8000) ∨ (8000 ≤ v ∧ v < 9000) ∨ (9000 ≤ v ∧ v < 10000) := by omega
  rcases this with q | q | q | q | q | q | q | q | q | q
  · exact g 0 nchk_40 (by omega) (by omega)
  · exact g 1000 nchk_41 (by omega) (by omega)
  · exact g 2000 nchk_42 (by omega) (by omega)
  · exact g 3000 nchk_43 (by omega) (by omega)
  · exact g 4000 nchk_44 (by omega) (by omega)
  · exact g 5000 nchk_45 (by omega) (by omega)
  · exact g 6000 nchk_46 (by omega) (by omega)
  · exact g 7000 nchk_47 (by omega) (by omega)
  · exact g 8000 nchk_48 (by omega) (by omega)
  · exact g 9000 nchk_49 (by omega) (by omega)
/-- a number: its key in the class, its word and size in the model -/
def NX (key w : Int64) (sz : Int32) (v : Nat) : Prop := v < 10000 ∧ f_X9_number key = ii v ∧ w = Int64.ofNat v ∧ ((v ≤ 1 ∧ sz = 1 ∧ key = Int64.ofNat (48 + v)) ∨ (¬ key = 48 ∧ ¬ key = 49 ∧ ¬ (v ≤ 1 ∧ sz = 1)))
theorem nx_of {n v : Nat} (h0 : 1 ≤ n ∧ n ≤ 4) (h : nchk n v = true) (hv : v < 10000) (hv1 : n = 1 → v < 10) : NX (pk (fun i => ii (48 + v / 10 ^ (n - 1 - i) % 10)) 0 n) (dc (fun i => ii (48 + v / 10 ^ (n - 1 - i) % 10)) 0 n) (ii n) v := by
  unfold nchk at h
  generalize pk (fun i => ii (48 + v / 10 ^ (n - 1 - i) % 10)) 0 n = key at h ⊢
  generalize dc (fun i => ii (48 + v / 10 ^ (n - 1 - i) % 10)) 0 n = w at h ⊢
  simp only [Bool.and_eq_true, beq_iff_eq] at h
  obtain ⟨⟨h1, h2⟩, h3⟩ := h
  refine ⟨hv, h1, h2, ?_⟩
  split at h3
  · rename_i hn
    rw [beq_iff_eq] at h3
    have hv2 := hv1 hn
    by_cases q : v ≤ 1
    · exact Or.inl ⟨q, by rw [hn]; rfl, h3⟩
    · refine Or.inr ⟨?_, ?_, fun z => q z.1⟩
      · rw [h3]
        have : ∀ v : Fin 10, ¬ v.val ≤ 1 → ¬ Int64.ofNat (48 + v.val) = 48 := by decide +kernel
        exact this ⟨v, hv2⟩ q
      · rw [h3]
        have : ∀ v : Fin 10, ¬ v.val ≤ 1 → ¬ Int64.ofNat (48 + v.val) = 49 := by decide +kernel
        exact this ⟨v, hv2⟩ q
  · rename_i hn
    simp only [Bool.and_eq_true, Bool.not_eq_true', beq_eq_false_iff_ne, ne_eq] at h3
    refine Or.inr ⟨h3.1, h3.2, fun z => hn ?_⟩
    exact (ii_inj (n := n) (m := 1) (by omega) (by omega)).1 z.2
theorem nx_all {key w : Int64} {sz : Int32} (h : NR key w sz) : ∃ v, NX key w sz v := by
  obtain ⟨n, g, h1, h2, h3, h4, h5, h6⟩ := h
  have fin : ∀ v, v < 10000 → (n = 1 → v < 10) → nchk n v = true → (∀ i, i < n → g i = v / 10 ^ (n - 1 - i) % 10) → NX key w sz v := by
    intro v e1 e2 e3 e4
    rw [h4, h5, h6, pk_sh _ (fun i => ii (48 + v / 10 ^ (n - 1 - i) % 10)) 0 n (fun i hi => by show ii (48 + g (0 + i)) = _; rw [Nat.zero_add, e4 i hi]), dc_sh _ (fun i => ii (48 + v / 10 ^ (n - 1 - i) % 10)) 0 n (fun i hi => by show ii (48 + g (0 + i)) = _; rw [Nat.zero_add, e4 i hi])]
    exact nx_of ⟨h1, h2⟩ e3 e1 e2
  have q : n = 1 ∨ n = 2 ∨ n = 3 ∨ n = 4 := by omega
  rcases q with q | q | q | q <;> subst q
  · have := h3 0 (by omega)
    refine ⟨g 0, fin _ (by omega) (fun _ => by omega) (List.all_eq_true.1 nchk_1 _ (List.mem_range.2 (by omega))) (fun i hi => ?_)⟩
    have : i = 0 := by omega
    subst this
    show g 0 = g 0 / 1 % 10
    omega
  · have := h3 0 (by omega)
    have := h3 1 (by omega)
    refine ⟨10 * g 0 + g 1, fin _ (by omega) (fun _ => by omega) (List.all_eq_true.1 nchk_2 _ (List.mem_range.2 (by omega))) (fun i hi => ?_)⟩
    have : i = 0 ∨ i = 1 := by omega
    rcases this with this | this <;> subst this
    · show g 0 = (10 * g 0 + g 1) / 10 % 10
      omega
    · show g 1 = (10 * g 0 + g 1) / 1 % 10
      omega
  · have := h3 0 (by omega)
    have := h3 1 (by omega)
    have := h3 2 (by omega)
    refine ⟨100 * g 0 + 10 * g 1 + g 2, fin _ (by omega) (fun _ => by omega) (List.all_eq_true.1 nchk_3 _ (List.mem_range.2 (by omega))) (fun i hi => ?_)⟩
    have : i = 0 ∨ i = 1 ∨ i = 2 := by omega
    rcases this with this | this | this <;> subst this
    · show g 0 = (100 * g 0 + 10 * g 1 + g 2) / 100 % 10
      omega
    · show g 1 = (100 * g 0 + 10 * g 1 + g 2) / 10 % 10
      omega
    · show g 2 = (100 * g 0 + 10 * g 1 + g 2) / 1 % 10
      omega
  · have := h3 0 (by omega)
    have := h3 1 (by omega)
    have := h3 2 (by omega)
    have := h3 3 (by omega)
    refine ⟨1000 * g 0 + 100 * g 1 + 10 * g 2 + g 3, fin _ (by omega) (fun _ => by omega) (nchk_4 (by omega)) (fun i hi => ?_)⟩
    have : i = 0 ∨ i = 1 ∨ i = 2 ∨ i = 3 := by omega
    rcases this with this | this | this | this <;> subst this
    · show g 0 = (1000 * g 0 + 100 * g 1 + 10 * g 2 + g 3) / 1000 % 10
      omega
    · show g 1 = (1000 * g 0 + 100 * g 1 + 10 * g 2 + g 3) / 100 % 10
      omega
    · show g 2 = (1000 * g 0 + 100 * g 1 + 10 * g 2 + g 3) / 10 % 10
      omega
    · show g 3 = (1000 * g 0 + 100 * g 1 + 10 * g 2 + g 3) / 1 % 10
      omega
