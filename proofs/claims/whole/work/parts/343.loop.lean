/-! ===== P4: the law's loop ===== -/
section LOP
variable {xs : Nat → Int32} {L n : Nat} {S : Nat → Shp} {I : Nat → Nat → Int32} {J : Nat → Nat → Int64} {R : Nat → Nat → Nat} {c : Nat × Nat} {Q : Option (Option Value) → MH → Prop}
theorem law_step {i : Nat} (hLL : L ≤ 384) (hi : i + 6 ≤ L) (h : LI S I J R c n) (hk : Nx xs L (ii i) n Q) : X xs L 2000 168 27 [.retAddr 0, .ref 1, .ref 65, .int (ii i)] [] (S, I, J, R, c) Q := by
  have hb0 : inb (ii i) L = true := ii_inb (by omega) (by omega)
  have hbk : ∀ k, k < 6 → inb (ii i + ii k) L = true := fun k hk => by rw [ii_add]; exact ii_inb (by omega) (by omega)
  have h1 : inb (ii i + 1) L = true := hbk 1 (by omega)
  have h2 : inb (ii i + 2) L = true := hbk 2 (by omega)
  have h3 : inb (ii i + 3) L = true := hbk 3 (by omega)
  have h4 : inb (ii i + 4) L = true := hbk 4 (by omega)
  have h5 : inb (ii i + 5) L = true := hbk 5 (by omega)
  have hn : X xs L 2000 168 422 [.retAddr 0, .ref 1, .ref 65, .int (ii i)] [] (S, I, J, R, c) Q := hk _ _ _ _ _ (LI_up h)
  generalize hv : (xs (ii i).toNatClampNeg &&& 15) = v
  by_cases hx : ∃ k, k < 11 + 1 ∧ v = ii k
  · obtain ⟨k, hk12, rfl⟩ := hx
    have key : ∀ {tgt off}, (#[63, 126, 149, 162, 175, 188, 201, 224, 257, 300, 343, 366] : Array Int)[k]? = some off → tg 33 off = some tgt → X xs L 2000 168 tgt [.retAddr 0, .ref 1, .ref 65, .int (ii i)] [] (S, I, J, R, c) Q → X xs L 2000 168 27 [.retAddr 0, .ref 1, .ref 65, .int (ii i)] [] (S, I, J, R, c) Q := fun g1 g2 kk => b_L_law_27 hb0 (by rw [hv]; exact tsw (lo := 0) (hi := 11) (by omega) (by omega) g1 g2) kk
    have h0 := h
    obtain ⟨b, b', q, q', T, T', N, N', K, K', C, C', len, ns, l, hA, hT, hM, hS, hc1, hc2⟩ := h
    have hL := hA.hL
    rcases (show k = 0 ∨ k = 1 ∨ k = 2 ∨ k = 3 ∨ k = 4 ∨ k = 5 ∨ k = 6 ∨ k = 7 ∨ k = 8 ∨ k = 9 ∨ k = 10 ∨ k = 11 by omega) with rfl | rfl | rfl | rfl | rfl | rfl | rfl | rfl | rfl | rfl | rfl | rfl
    · exact key rfl rfl (op_feed h0 h1 h2 h3 h4 h5 hk)
    · exact key rfl rfl (op_end h0 h1 hk)
    · exact key rfl rfl (op_circuit h0 hk)
    · exact key rfl rfl (op_assertion h0 hk)
    · obtain ⟨v, c1, c2⟩ := q_fails (xs := xs) (L := L) hA hS
      exact key rfl rfl (b_L_law_208 hL (c1 _ (b_L_law_212 hL (c2 _ (b_L_law_216 (fun _ => hn) (fun w => absurd rfl w))))))
    · obtain ⟨v, c1, c2⟩ := q_out (xs := xs) (L := L) hA hS
      exact key rfl rfl (b_L_law_221 hL (c1 _ (b_L_law_225 hL (c2 _ (b_L_law_229 (fun _ => hn) (fun w => absurd rfl w))))))
    · obtain ⟨v, c1, c2⟩ := q_failing (xs := xs) (L := L) (x := xs (ii i + 1).toNatClampNeg) hA hS
      exact key rfl rfl (b_L_law_234 hL h1 (c1 _ (b_L_law_243 hL h1 (c2 _ (b_L_law_252 (fun _ => hn) (fun w => absurd rfl w))))))
    · obtain ⟨v, c1, c2⟩ := q_short (xs := xs) (L := L) (x1 := xs (ii i + 1).toNatClampNeg) (x2 := xs (ii i + 2).toNatClampNeg) hA hM hS
      exact key rfl rfl (b_L_law_257 hL h1 h2 (c1 _ (b_L_law_271 hL h1 h2 (c2 _ (b_L_law_285 (fun _ => hn) (fun w => absurd rfl w))))))
    · obtain ⟨v, c1, c2⟩ := q_value (xs := xs) (L := L) (x1 := xs (ii i + 1).toNatClampNeg) (x2 := xs (ii i + 2).toNatClampNeg) (x3 := xs (ii i + 3).toNatClampNeg) hA hM hS
      exact key rfl rfl (b_L_law_290 hL h1 h2 h3 (c1 _ (b_L_law_309 hL h1 h2 h3 (c2 _ (b_L_law_328 (fun _ => hn) (fun w => absurd rfl w))))))
    · obtain ⟨v, c1, c2⟩ := q_mat (xs := xs) (L := L) (x1 := xs (ii i + 1).toNatClampNeg) (x2 := xs (ii i + 2).toNatClampNeg) (x3 := xs (ii i + 3).toNatClampNeg) hA hM hS
      exact key rfl rfl (b_L_law_333 hL h1 h2 h3 (c1 _ (b_L_law_352 hL h1 h2 h3 (c2 _ (b_L_law_371 (fun _ => hn) (fun w => absurd rfl w))))))
    · exact key rfl rfl (op_cone h0 h1 hk)
    · obtain ⟨v, c1, c2⟩ := q_count (xs := xs) (L := L) (x := xs (ii i + 1).toNatClampNeg) hA hM hS
      exact key rfl rfl (b_L_law_399 hL h1 (c1 _ (b_L_law_408 hL h1 (c2 _ (b_L_law_417 (fun _ => hn) (fun w => absurd rfl w))))))
  · exact b_L_law_27 hb0 (by rw [hv]; exact tsd (hi := 11) (by omega) hx rfl) hn
theorem law_room {i : Nat} (hLL : L ≤ 384) (h : ¬ (Int32.ofNat L) - 6 < ii i) (hi : i < 2147483648) : i + 6 ≤ L := by
  rcases Nat.lt_or_ge L 6 with z | z
  · have h6 : ∀ L : Fin 6, (Int32.ofNat L.val) - 6 < 0 := by decide +kernel
    have h0 : (0 : Int32) ≤ ii i := Int32.not_lt.1 (ii_nn hi)
    exact absurd (Int32.lt_of_lt_of_le (h6 ⟨L, z⟩) h0) h
  · have e : (Int32.ofNat L) - 6 = ii (L - 6) := ii_sub (n := L) (m := 6) z
    rw [e, ii_lt (by omega) hi] at h
    omega
theorem law_loop (hLL : L ≤ 384) (hQ : ∀ S I J R c n, LI S I J R c n → 6 * n ≤ L → Q (some (some (.int 1))) (S, I, J, R, c)) : ∀ (f n : Nat) (S : Nat → Shp) (I : Nat → Nat → Int32) (J : Nat → Nat → Int64) (R : Nat → Nat → Nat) (c : Nat × Nat), L - 6 * n ≤ f → 6 * n ≤ L → LI S I J R c n → X xs L 2000 168 18 [.retAddr 0, .ref 1, .ref 65, .int (ii (6 * n))] [] (S, I, J, R, c) Q := by
  intro f
  induction f with
  | zero =>
    intro n S I J R c h1 h2 h
    refine b_L_law_18 (fun _ => b_L_law_428 (hQ S I J R c n h h2)) (fun z => ?_)
    have := law_room hLL z (by omega)
    omega
  | succ f ih =>
    intro n S I J R c h1 h2 h
    refine b_L_law_18 (fun _ => b_L_law_428 (hQ S I J R c n h h2)) (fun z => ?_)
    have hr := law_room hLL z (by omega)
    refine law_step hLL hr h (fun S' I' J' R' c' h' => b_L_law_422 ?_)
    have e : ii (6 * n) + 6 = ii (6 * (n + 1)) := ii_add (6 * n) 6
    rw [e]
    exact ih (n + 1) S' I' J' R' c' (by omega) (by omega) h'
end LOP
