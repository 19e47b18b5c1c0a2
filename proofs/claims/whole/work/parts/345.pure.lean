/-! ===== P4: the law, by the mini machine ===== -/
theorem LI_start : LI (SL 118) (fun _ _ => 0) (fun _ _ => 0) (Rli 118) (118, 324571) 0 := by
  have hL : Lay (SL 118) (Rli 118) := ⟨by decide +kernel, by decide +kernel⟩
  refine ⟨25, 35, 45, 55, 71, 77, 83, 88, 100, 106, 0, 93, 0, [], [], ⟨hL, by decide +kernel, by decide +kernel, Or.inl ⟨rfl, rfl⟩, by decide +kernel, by decide +kernel, Or.inl ⟨rfl, rfl⟩, by decide +kernel, by decide +kernel, Or.inl ⟨rfl, rfl⟩, by decide +kernel, by decide +kernel, Or.inl ⟨rfl, rfl⟩, by decide +kernel, by decide +kernel, by decide +kernel, by decide +kernel, Or.inl ⟨rfl, rfl⟩, Or.inl rfl, ly_93 hL, Or.inl rfl, Nat.le_refl _⟩, ⟨rfl, rfl, by omega, rfl, fun i hi => absurd hi (Nat.not_lt_zero _)⟩, ⟨?_, ?_, ?_, Or.inl ⟨rfl, rfl⟩⟩, Or.inl ⟨rfl, rfl⟩, by decide, by decide⟩
  · exact ⟨by decide, by decide, fun y hy => (by cases hy), fun y hy => (by cases hy), fun y hy => (by cases hy), fun i hi => absurd hi (Nat.not_lt_zero _)⟩
  · exact ⟨⟨rfl, fun i x hx => (by cases hx)⟩, ⟨rfl, fun i x hx => (by cases hx)⟩, fun i j hi => absurd hi (Nat.not_lt_zero _), fun i j hi => absurd hi (Nat.not_lt_zero _), fun i hi => absurd hi (Nat.not_lt_zero _)⟩
  · exact ⟨rfl, by decide, fun i x hx => (by cases hx), ⟨[], rfl, by decide, fun i x h hi => absurd hi (Nat.not_lt_zero _)⟩, fun i x hx => (by cases hx), by decide, fun y hy => (by cases hy)⟩
theorem M00_HH : M00 = HH 0 0 0 := by
  have e1 : SL 0 = fun _ => .inl 99 := by
    funext x
    unfold SL
    rw [if_neg (by omega)]
  unfold M00 HH
  rw [e1]
  rfl
theorem law_pure : LawP := by
  intro xs L hL
  have h : X xs L 2000 168 0 [.retAddr 0, .null, .null, .null] [] M00 (fun o M => o = some (some (.int 1)) ∧ M.2.2.2.2.1 ≤ 600128 ∧ M.2.2.2.2.2 ≤ 7301098) := by
    rw [M00_HH]
    refine law_start ?_
    refine law_loop hL (fun S I J R c n hI hn => ?_) L 0 (SL 118) _ _ (Rli 118) (118, 324571) (by omega) (by omega) LI_start
    obtain ⟨b, b', q, q', T, T', N, N', K, K', C, C', len, ns, l, hA, hT, hM, hS, hc1, hc2⟩ := hI
    refine ⟨rfl, ?_, ?_⟩
    · show c.1 ≤ _; omega
    · show c.2 ≤ _; omega
  obtain ⟨n, o, M', h1, h2, h3, h4⟩ := h
  exact ⟨n, M', by rw [h1, h2], h3, h4⟩
