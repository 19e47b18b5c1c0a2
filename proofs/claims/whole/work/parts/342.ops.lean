/-! ===== P4: each call of the law ===== -/
section OPS0
variable {S : Nat → Shp} {R : Nat → Nat → Nat} {c : Nat × Nat} {b b' q q' T T' N N' K K' C C' : Nat}
theorem AD.iv (h : AD S R c b b' q q' T T' N N' K K' C C') : (24 < b ∧ b < 36) ∧ (24 < b' ∧ b' < 36) ∧ (44 < q ∧ q < 56) ∧ (44 < q' ∧ q' < 56) ∧ (70 < T ∧ T < 78) ∧ (70 < T' ∧ T' < 78) ∧ (82 < N ∧ N < 89) ∧ (82 < N' ∧ N' < 89) ∧ (99 < K ∧ K < 107) ∧ (99 < K' ∧ K' < 107) := by
  have h1 := h.hb
  have h2 := h.hq
  have h3 := h.hT
  have h4 := h.hN
  have h5 := h.hK
  refine ⟨?_, ?_, ?_, ?_, ?_, ?_, ?_, ?_, ?_, ?_⟩
  · clear h2 h3 h4 h5; omega
  · clear h2 h3 h4 h5; omega
  · clear h1 h3 h4 h5; omega
  · clear h1 h3 h4 h5; omega
  · clear h1 h2 h4 h5; omega
  · clear h1 h2 h4 h5; omega
  · clear h1 h2 h3 h5; omega
  · clear h1 h2 h3 h5; omega
  · clear h1 h2 h3 h4; omega
  · clear h1 h2 h3 h4; omega
theorem AD.sp (h : AD S R c b b' q q' T T' N N' K K' C C') : (b + 9 < b' ∨ b' + 9 < b) ∧ (q + 9 < q' ∨ q' + 9 < q) ∧ (T + 5 < T' ∨ T' + 5 < T) ∧ (N + 4 < N' ∨ N' + 4 < N) ∧ (K + 5 < K' ∨ K' + 5 < K) := by
  have h1 := h.hb
  have h2 := h.hq
  have h3 := h.hT
  have h4 := h.hN
  have h5 := h.hK
  refine ⟨?_, ?_, ?_, ?_, ?_⟩
  · clear h2 h3 h4 h5; omega
  · clear h1 h3 h4 h5; omega
  · clear h1 h2 h4 h5; omega
  · clear h1 h2 h3 h5; omega
  · clear h1 h2 h3 h4; omega
end OPS0
section OPS
variable {xs : Nat → Int32} {L n : Nat} {S : Nat → Shp} {I : Nat → Nat → Int32} {J : Nat → Nat → Int64} {R : Nat → Nat → Nat} {c : Nat × Nat} {Q : Option (Option Value) → MH → Prop} {x3 : Int32}
/-- the call after this one -/
def Nx (xs : Nat → Int32) (L : Nat) (x3 : Int32) (n : Nat) (Q : Option (Option Value) → MH → Prop) : Prop := ∀ (S : Nat → Shp) (I : Nat → Nat → Int32) (J : Nat → Nat → Int64) (R : Nat → Nat → Nat) (c : Nat × Nat), LI S I J R c (n + 1) → X xs L 2000 168 422 [.retAddr 0, .ref 1, .ref 65, .int x3] [] (S, I, J, R, c) Q
theorem op_feed (h : LI S I J R c n) (h1 : inb (x3 + 1) L = true) (h2 : inb (x3 + 2) L = true) (h3 : inb (x3 + 3) L = true) (h4 : inb (x3 + 4) L = true) (h5 : inb (x3 + 5) L = true) (hk : Nx xs L x3 n Q) : X xs L 2000 168 96 [.retAddr 0, .ref 1, .ref 65, .int x3] [] (S, I, J, R, c) Q := by
  have h0 := h
  obtain ⟨b, b', q, q', T, T', N, N', K, K', C, C', len, ns, l, hA, hT, hM, hS, hc1, hc2⟩ := h
  have hL := hA.hL
  have hle := hT.le
  refine b_L_law_96 hL h1 h2 h3 h4 h5 (s_cfeed hL hT.l2 hle (fun z => b_L_law_125 hL h1 h2 h3 h4 h5 (s_mfeed hL hT.l65 hle (fun _ => b_L_law_154 (fun _ => hk _ _ _ _ _ (LI_up h0)) (fun w => absurd rfl w)) (fun z2 => absurd z2 (by omega)))) (fun z I1 f1 e1 e2 => b_L_law_125 hL h1 h2 h3 h4 h5 (s_mfeed (len := len) hL ?_ hle (fun z2 => absurd z (by omega)) (fun _ I2 f2 e3 e4 => b_L_law_154 (fun _ => hk _ _ _ _ _ ?_) (fun w => absurd rfl w)))))
  · rw [f1 65 1 (by unfold aTc; omega)]; exact hT.l65
  · obtain ⟨hb, hb2, hq, hq2, hTT, hTT2, hNN, hNN2, hKK, hKK2⟩ := hA.iv
    have ee : ∀ x k, ¬ x = 2 → ¬ x = 3 → ¬ (x = 65 ∧ k = 1) → ¬ x = 66 → I2 x k = I x k := fun x k g1 g2 g3 g4 => (f2 x k (by unfold aTm; omega)).trans (f1 x k (by unfold aTc; omega))
    refine ⟨b, b', q, q', T, T', N, N', K, K', C, C', len + 20, ns, l, hA, ⟨?_, e3, by omega, ?_, ?_⟩, CM_of hM (fun x k g => ee x k (by omega) (by omega) (by omega) (by omega)) (fun _ _ _ => rfl), AS_of hS (fun x k g => ?_) (fun _ _ _ => rfl) rfl, by omega, by omega⟩
    · rw [f2 2 1 (by unfold aTm; omega)]; exact e1
    · rw [e4, fr_row f1 66 (fun k => by unfold aTc; omega), hT.t, fr_row f2 3 (fun k => by unfold aTm; omega), e2]
    · rw [fr_row f2 3 (fun k => by unfold aTm; omega), e2]
      exact byt_tp5 hT.by8
    · by_cases h0 : C = 0
      · exact ee x k (by omega) (by omega) (by omega) (by omega)
      · have := hA.Cr h0
        exact ee x k (by omega) (by omega) (by omega) (by omega)
theorem op_end (h : LI S I J R c n) (h1 : inb (x3 + 1) L = true) (hk : Nx xs L x3 n Q) : X xs L 2000 168 159 [.retAddr 0, .ref 1, .ref 65, .int x3] [] (S, I, J, R, c) Q := by
  have h0 := h
  obtain ⟨b, b', q, q', T, T', N, N', K, K', C, C', len, ns, l, hA, hT, hM, hS, hc1, hc2⟩ := h
  have hL := hA.hL
  have hle := hT.le
  have e65 : ∀ v, u2 I 2 1 v 65 1 = I 65 1 := fun v => u2_a _ _ _ _ (by omega)
  refine b_L_law_159 hL h1 (s_cend hL (fun z => b_L_law_168 hL h1 (s_mend hL (fun _ => b_L_law_177 (fun _ => hk _ _ _ _ _ (LI_up h0)) (fun w => absurd rfl w)) (fun z1 z2 => ?_))) (fun z1 z2 => b_L_law_168 hL h1 (s_mend hL (fun z => ?_) (fun z3 z4 => b_L_law_177 (fun _ => hk _ _ _ _ _ ?_) (fun w => absurd rfl w)))))
  · rw [hT.l65] at z2
    rw [hT.l2] at z
    rcases z with z | z
    · exact absurd z z1
    · exact absurd z2 z
  · rw [e65, hT.l65] at z
    rw [hT.l2] at z2
    rcases z with z | z
    · exact absurd z z1
    · exact absurd z2 z
  · rw [hT.l2] at z2
    have e := ii_of (Int32.not_lt.1 z1)
    have hx := Int32.toInt_lt (xs (x3 + 1).toNatClampNeg)
    have e2 : (xs (x3 + 1).toNatClampNeg).toNatClampNeg = (xs (x3 + 1).toNatClampNeg).toInt.toNat := rfl
    generalize (xs (x3 + 1).toNatClampNeg).toNatClampNeg = y at e e2
    rw [e, ii_le (by omega) (by omega)] at z2
    rw [e]
    obtain ⟨hb, hb2, hq, hq2, hTT, hTT2, hNN, hNN2, hKK, hKK2⟩ := hA.iv
    have ee : ∀ x k, ¬ x = 2 → ¬ (x = 65 ∧ k = 1) → u2 (u2 I 2 1 (ii y)) 65 1 (ii y) x k = I x k := fun x k g1 g2 => by rw [u2_if, if_neg g2, u2_if, if_neg (by omega)]
    refine ⟨b, b', q, q', T, T', N, N', K, K', C, C', y, ns, l, hA, ⟨?_, u2_e _ _ _ _, by omega, ?_, ?_⟩, CM_of hM (fun x k g => ee x k (by omega) (by omega)) (fun _ _ _ => rfl), AS_of hS (fun x k g => ?_) (fun _ _ _ => rfl) rfl, by omega, by omega⟩
    · rw [u2_a _ _ _ _ (by omega), u2_e]
    · rw [show u2 (u2 I 2 1 (ii y)) 65 1 (ii y) 66 = I 66 from funext fun k => ee 66 k (by omega) (by omega), show u2 (u2 I 2 1 (ii y)) 65 1 (ii y) 3 = I 3 from funext fun k => ee 3 k (by omega) (by omega)]
      exact hT.t
    · intro i hi
      rw [ee 3 i (by omega) (by omega)]
      exact hT.by8 i (by omega)
    · by_cases h0 : C = 0
      · exact ee x k (by omega) (by omega)
      · have := hA.Cr h0
        exact ee x k (by omega) (by omega)
theorem op_cone (h : LI S I J R c n) (h1 : inb (x3 + 1) L = true) (hk : Nx xs L x3 n Q) : X xs L 2000 168 376 [.retAddr 0, .ref 1, .ref 65, .int x3] [] (S, I, J, R, c) Q := by
  have h0 := h
  obtain ⟨b, b', q, q', T, T', N, N', K, K', C, C', len, ns, l, hA, hT, hM, hS, hc1, hc2⟩ := h
  have hL := hA.hL
  obtain ⟨hb, hb2, hq, hq2, hTT, hTT2, hNN, hNN2, hKK, hKK2⟩ := hA.iv
  have h40 := hM.w.1
  rcases hM.h22 with ⟨z, z2⟩ | z
  · refine b_L_law_376 hL h1 (s_ccone hL hA.r4 hA.yb hM.ci h40 (fun _ => b_L_law_385 hL h1 (s_mcone0 hL z (b_L_law_394 (fun _ => hk _ _ _ _ _ (LI_up h0)) (fun w => absurd rfl w)))) (fun n hn => ?_))
    rw [z2] at hn; exact absurd hn (Nat.not_lt_zero _)
  · refine b_L_law_376 hL h1 (s_ccone hL hA.r4 hA.yb hM.ci h40 (fun g => b_L_law_385 hL h1 (s_mcone hL hA.t9 hA.yT hA.n11 hA.yN (by omega) (by omega) z hM.mc (fun _ => b_L_law_394 (fun _ => hk _ _ _ _ _ (LI_up h0)) (fun w => absurd rfl w)) (fun n hn e => absurd ⟨n, hn, e⟩ g))) (fun n hn e => b_L_law_385 hL h1 (s_mcone hL hA.t9 hA.yT hA.n11 hA.yN (by omega) (by omega) z hM.mc (fun g => absurd ⟨n, hn, e⟩ g) (fun n' hn' e' I1 f1 => ?_))))
    rw [e, ii_inj (by omega) (by omega)] at e'
    subst e'
    refine b_L_law_394 (fun _ => hk _ _ _ _ _ ?_) (fun w => absurd rfl w)
    have ee : ∀ x k, ¬ x = 118 → I1 x k = I x k := fun x k g => f1 x k g
    refine ⟨b, b', q, q', T, T', N, N', K, K', C, C', len, ns, l, AD_u2 hA (by omega), ⟨?_, ?_, hT.le, ?_, ?_⟩, CM_of hM (fun x k g => ee x k (by omega)) (fun _ _ _ => rfl), AS_of hS (fun x k g => ?_) (fun _ _ _ => rfl) (u2_a _ _ _ _ (by omega)), by omega, by omega⟩
    · rw [ee _ _ (by omega)]; exact hT.l2
    · rw [ee _ _ (by omega)]; exact hT.l65
    · rw [show I1 66 = I 66 from funext fun k => ee 66 k (by omega), show I1 3 = I 3 from funext fun k => ee 3 k (by omega)]; exact hT.t
    · rw [show I1 3 = I 3 from funext fun k => ee 3 k (by omega)]; exact hT.by8
    · by_cases h0 : C = 0
      · exact ee x k (by omega)
      · have := hA.Cr h0
        exact ee x k (by omega)
set_option maxHeartbeats 4000000 in
theorem op_circuit (h : LI S I J R c n) (hk : Nx xs L x3 n Q) : X xs L 2000 168 182 [.retAddr 0, .ref 1, .ref 65, .int x3] [] (S, I, J, R, c) Q := by
  obtain ⟨b, b', q, q', T, T', N, N', K, K', C, C', len, ns, l, hA, hT, hM, hS, hc1, hc2⟩ := h
  have hL := hA.hL
  obtain ⟨hb, hb2, hq, hq2, hTT, hTT2, hNN, hNN2, hKK, hKK2⟩ := hA.iv
  obtain ⟨sb, -, sT, sN, -⟩ := hA.sp
  have hc118 := hA.hc
  refine b_L_law_182 hL (s_X10_circuit hL hA.yb' (by omega) hA.r5 hA.r4 hT.l2 hT.le (fun kd key pl m p tk cf I1 J1 f1 g1 e1 e2 => ?_) (fun kd key pl m ns1 l1 tk ck I1 J1 f1 g1 e1 e2 cc => ?_))
  · have hA1 := AD_u2 (x := 8) (y := 1) (v := b' + 5) (AD_u2 (x := 8) (y := 6) (v := b') hA (by omega)) (by omega)
    have t66 : I1 66 = I 3 := (fr_row f1 66 (fun k => by unfold aCc; omega)).trans hT.t
    refine b_L_law_186 hA1.hL (s_X14_circuit hA1.hL hA1.yT' hA1.yN' (by omega) (by omega) (by omega) (by omega) hA1.t10 hA1.n12 hA1.t9 hA1.n11 hc118 (by rw [f1 65 1 (by unfold aCc; omega)]; exact hT.l65) hT.le (by rw [t66]; exact hT.by8) (by rw [t66]; exact tk) (fun p' cf' I2 J2 f2 g2 e3 => ?_) (fun ns2 l2 ck => absurd ck (fun w => cFlt_Ok cf w)))
    rw [cFlt_one cf' cf]
    refine b_L_law_190 (fun _ => hk _ _ _ _ _ ?_) (fun w => absurd rfl w)
    have hA2 := AD_u2 (x := 65) (y := 18) (v := N') (AD_u2 (x := 65) (y := 17) (v := T') hA1 (by omega)) (by omega)
    have hA3 : AD (u1 S (c.1 + 1) (.inl 14)) _ (c.1 + 1, c.2 + 6) _ _ _ _ _ _ _ _ _ _ _ _ := AD_ch hA2 (fun x hx => by rw [u1_if, if_neg (by omega)]) (fun _ _ _ _ => rfl) (fun _ _ => rfl) ⟨rfl, rfl, rfl, rfl, rfl⟩ (show c.1 ≤ c.1 + 1 by omega)
    have ee : ∀ x k, ¬ aCc b' x k → ¬ aMc N' T' x k → I2 x k = I x k := fun x k w1 w2 => (f2 x k w2).trans (f1 x k w1)
    have ej : ∀ x k, ¬ aCcj b' x k → ¬ aMcj N' T' x k → J2 x k = J x k := fun x k w1 w2 => (g2 x k w2).trans (g1 x k w1)
    have hR13 : (u2 (u2 (u2 (u2 R 8 6 b') 8 1 (b' + 5)) 65 17 T') 65 18 N') 13 1 = R 13 1 := by rw [u2_a _ _ _ _ (by omega), u2_a _ _ _ _ (by omega), u2_a _ _ _ _ (by omega), u2_a _ _ _ _ (by omega)]
    refine ⟨b, b', q, q', T, T', N, N', K, K', C, C', 0, ns, l, hA3, ⟨?_, e3, by omega, ?_, fun i hi => absurd hi (Nat.not_lt_zero _)⟩, CM_of hM (fun x k g => ee x k (by unfold aCc; omega) (by unfold aMc; omega)) (fun x k g => ej x k (by unfold aCcj; omega) (by unfold aMcj; omega)), AS_of hS (fun x k g => ?_) (fun x k g => ej x k (by unfold aCcj; omega) (by unfold aMcj; omega)) hR13, by show c.1 + 1 ≤ _; omega, by show c.2 + 6 ≤ _; omega⟩
    · rw [f2 2 1 (by unfold aMc; omega)]; exact e1
    · rw [fr_row f2 66 (fun k => by unfold aMc; omega), t66, fr_row f2 3 (fun k => by unfold aMc; omega), fr_row f1 3 (fun k => by unfold aCc; omega)]
    · by_cases h18 : x = 1 ∧ k = 8
      · rw [h18.1, h18.2, f2 1 8 (by unfold aMc; omega)]; exact e2
      · by_cases h0 : C = 0
        · exact ee x k (by unfold aCc; omega) (by unfold aMc; omega)
        · have := hA.Cr h0
          exact ee x k (by unfold aCc; omega) (by unfold aMc; omega)
  · have hA1 := AD_b (AD_u2 (x := 8) (y := 1) (v := b' + 5) (AD_u2 (x := 8) (y := 6) (v := b') hA (by omega)) (by omega))
    have t66 : I1 66 = I 3 := (fr_row f1 66 (fun k => by unfold aCc; omega)).trans hT.t
    refine b_L_law_186 hA1.hL (s_X14_circuit hA1.hL hA1.yT' hA1.yN' (by omega) (by omega) (by omega) (by omega) hA1.t10 hA1.n12 hA1.t9 hA1.n11 hc118 (by rw [f1 65 1 (by unfold aCc; omega)]; exact hT.l65) hT.le (by rw [t66]; exact hT.by8) (by rw [t66]; exact tk) (fun p' cf' I2 J2 f2 g2 e3 => absurd ck (fun w => cFlt_Ok cf' w)) (fun ns2 l2 ck2 I2 J2 f2 g2 e3 mc => ?_))
    have en : ns2 = ns1 := ck2.2.1.trans ck.2.1.symm
    have el : l2 = l1 := ck2.2.2.2.1.trans ck.2.2.2.1.symm
    subst en el
    refine b_L_law_190 (fun _ => hk _ _ _ _ _ ?_) (fun w => absurd rfl w)
    have hA2 := AD_T (AD_u2 (x := 65) (y := 18) (v := N') (AD_u2 (x := 65) (y := 17) (v := T') hA1 (by omega)) (by omega))
    have eu : ∀ x k, ¬ (x = 65 ∧ k = 22) → u2 I2 65 22 1 x k = I2 x k := fun x k w => by rw [u2_if, if_neg w]
    have eN : ∀ x, ¬ x = 65 → u2 I2 65 22 1 x = I2 x := fun x w => funext fun k => eu x k (by omega)
    have hW := cOk_CW tk.2.2.1 tk.2.1 ck mc.2.1 mc.2.2.2.2.2.1 mc.2.2.2.2.2.2
    refine ⟨b', b, q, q', T', T, N', N, K, K', 0, C', 0, ns2, l2, hA2, ⟨?_, ?_, by omega, ?_, fun i hi => absurd hi (Nat.not_lt_zero _)⟩, ⟨hW, ?_, ?_, Or.inr (u2_e _ _ _ _)⟩, Or.inl ⟨?_, rfl⟩, by omega, by omega⟩
    · rw [eu _ _ (by omega), f2 2 1 (by unfold aMc; omega)]; exact e1
    · rw [eu _ _ (by omega)]; exact e3
    · rw [eN _ (by omega), eN _ (by omega), fr_row f2 66 (fun k => by unfold aMc; omega), t66, fr_row f2 3 (fun k => by unfold aMc; omega), fr_row f1 3 (fun k => by unfold aCc; omega)]
    · exact CCi_of cc (fun x k w1 w2 => by rw [eu x k (by omega)]; exact f2 x k (by unfold aMc; omega)) (fun x k w1 w2 => g2 x k (by unfold aMcj; omega))
    · exact MCr_of mc (eu _ _ (by omega)) rfl (eN _ (by omega)) (eN _ (by omega)) (eN _ (by omega)) (eN _ (by omega)) (eN _ (by omega))
    · rw [eu _ _ (by omega), f2 1 8 (by unfold aMc; omega)]; exact e2
set_option maxHeartbeats 8000000 in
theorem op_assertion (h : LI S I J R c n) (hk : Nx xs L x3 n Q) : X xs L 2000 168 195 [.retAddr 0, .ref 1, .ref 65, .int x3] [] (S, I, J, R, c) Q := by
  obtain ⟨b, b', q, q', T, T', N, N', K, K', C, C', len, ns, l, hA, hT, hM, hS, hc1, hc2⟩ := h
  have hL := hA.hL
  obtain ⟨hb, hb2, hq, hq2, hTT, hTT2, hNN, hNN2, hKK, hKK2⟩ := hA.iv
  obtain ⟨-, sq, -, -, sK⟩ := hA.sp
  have hC' := hA.hC'
  have hc118 := hA.hc
  refine b_L_law_195 hL (s_X10_assertion hL hA.r4 hA.r6 hA.r7 hA.yq' (by omega) (by omega) hA.yb (by omega) hT.l2 hT.le hM.ci hM.w (fun kd key pl m tk hf I1 J1 f1 g1 e1 e2 ri rj => ?_) (fun kd key pl m p cs gv kl g tk ho I1 J1 f1 g1 e1 e2 kc ki i2 i3 hu ckw => ?_))
  · have hA1 := AD_u2 (x := 11) (y := 1) (v := q' + 8) (AD_u2 (x := 11) (y := 7) (v := b) (AD_u2 (x := 11) (y := 6) (v := q') hA (by omega)) (by omega)) (by omega)
    have t66 : I1 66 = I 3 := (fr_row f1 66 (fun k => by unfold aKA aKc aRi; omega)).trans hT.t
    have hM1 : CM b T N I1 J1 ns l := CM_of hM (fun x k g => f1 x k (by unfold aKA aKc aRi; omega)) (fun x k g => g1 x k (by unfold aKAj aKcj aRj; omega))
    refine b_L_law_199 hA1.hL (s_X14_assertion (kd := kd) (key := key) (pl := pl) (m := m) hA1.hL hA1.t9 hA1.yT hA1.n11 hA1.yN hA1.c13 hA1.c14 hA1.yC' hA1.k15 hA1.k16 hA1.yK' (by omega) (by omega) (by omega) hC' hc118 hM1.mc hM.w (by rw [f1 65 1 (by unfold aKA aKc aRi; omega)]; exact hT.l65) hT.le (by rw [t66]; exact hT.by8) (by rw [t66]; exact tk) (fun p cs gv kl g w => ?_) (fun w I2 J2 f2 g2 e3 => ?_) (fun p cs gv kl g w => ?_))
    · rw [w] at hf; cases hf
    · refine b_L_law_203 (fun _ => hk _ _ _ _ _ ?_) (fun w => absurd rfl w)
      have hA2 := AD_u2 (x := 65) (y := 19) (v := C') (AD_u2 (x := 65) (y := 17) (v := K') hA1 (by omega)) (by omega)
      have hA3 : AD (u1 S (c.1 + 1) (.inl 14)) _ (c.1 + 1, c.2 + 6) _ _ _ _ _ _ _ _ _ _ _ _ := AD_ch hA2 (fun x hx => by rw [u1_if, if_neg (by omega)]) (fun _ _ _ _ => rfl) (fun _ _ => rfl) ⟨rfl, rfl, rfl, rfl, rfl⟩ (show c.1 ≤ c.1 + 1 by omega)
      have hR13 : (u2 (u2 (u2 (u2 (u2 R 11 6 q') 11 7 b) 11 1 (q' + 8)) 65 17 K') 65 19 C') 13 1 = R 13 1 := by rw [u2_a _ _ _ _ (by omega), u2_a _ _ _ _ (by omega), u2_a _ _ _ _ (by omega), u2_a _ _ _ _ (by omega), u2_a _ _ _ _ (by omega)]
      refine ⟨b, b', q, q', T, T', N, N', K, K', C, C', 0, ns, l, hA3, ⟨?_, e3, by omega, ?_, fun i hi => absurd hi (Nat.not_lt_zero _)⟩, CM_of hM1 (fun x k g => f2 x k (by unfold aMa; omega)) (fun x k g => g2 x k (by unfold aMaj; omega)), AS_of hS (fun x k g => ?_) (fun x k g => ?_) hR13, by show c.1 + 1 ≤ _; omega, by show c.2 + 6 ≤ _; omega⟩
      · rw [f2 2 1 (by unfold aMa; omega)]; exact e1
      · rw [fr_row f2 66 (fun k => by unfold aMa; omega), t66, fr_row f2 3 (fun k => by unfold aMa; omega), fr_row f1 3 (fun k => by unfold aKA aKc aRi; omega)]
      · have w1 : I2 x k = I1 x k := by
          by_cases h0 : C = 0
          · exact f2 x k (by unfold aMa; omega)
          · have := hA.Cr h0
            exact f2 x k (by unfold aMa; omega)
        rw [w1]
        by_cases h18 : x = 1 ∧ k = 8
        · rw [h18.1, h18.2]; exact e2
        · by_cases hr : aRi x k
          · exact ri x k hr
          · refine f1 x k ?_
            have hr' := hr
            unfold aRi at hr'
            by_cases h0 : C = 0
            · unfold aKA aKc; intro w
              rcases w with w | w | w | w
              · omega
              · omega
              · omega
              · exact hr w
            · have := hA.Cr h0
              unfold aKA aKc; intro w
              rcases w with w | w | w | w
              · omega
              · omega
              · omega
              · exact hr w
      · rw [g2 x k (by unfold aMaj; omega)]
        exact rj x k (by unfold aRj; omega)
    · rw [w] at hf; cases hf
  · have hA1 := AD_u2 (x := 13) (y := 1) (v := q') (AD_u2 (x := 13) (y := 0) (v := b) (AD_q (AD_u2 (x := 11) (y := 1) (v := q' + 8) (AD_u2 (x := 11) (y := 7) (v := b) (AD_u2 (x := 11) (y := 6) (v := q') hA (by omega)) (by omega)) (by omega))) (by omega)) (by omega)
    have t66 : I1 66 = I 3 := (fr_row f1 66 (fun k => by unfold aKA aKc aRi; omega)).trans hT.t
    have hM1 : CM b T N I1 J1 ns l := CM_of hM (fun x k g => f1 x k (by unfold aKA aKc aRi; omega)) (fun x k g => g1 x k (by unfold aKAj aKcj aRj; omega))
    refine b_L_law_199 hA1.hL (s_X14_assertion (kd := kd) (key := key) (pl := pl) (m := m) hA1.hL hA1.t9 hA1.yT hA1.n11 hA1.yN hA1.c13 hA1.c14 hA1.yC' hA1.k15 hA1.k16 hA1.yK' (by omega) (by omega) (by omega) hC' hc118 hM1.mc hM.w (by rw [f1 65 1 (by unfold aKA aKc aRi; omega)]; exact hT.l65) hT.le (by rw [t66]; exact hT.by8) (by rw [t66]; exact tk) (fun p2 cs2 gv2 kl2 g2 w => ?_) (fun w I2 J2 f2 g2 e3 => ?_) (fun p2 cs2 gv2 kl2 g2 w S2 I2 J2 R2 c2 C1 hs2 hr2 hr65 r13 r14 r15 r16 f2 j2 e3 hcc qc mj => ?_))
    · rw [ho] at w
      injection w with w1 w
      injection w with w2 w
      injection w with w3 w
      injection w with w4 w
      injection w with w5 w6
      subst w3 w4 w5 w6
      have := kc.2.2.2.2.2.2.2.2
      exact ⟨fun x hx => ⟨(ki.1 x hx).1, KCl_cs kc hx⟩, this.1, this.2.1, this.2.2.1⟩
    · rw [ho] at w; cases w
    · rw [ho] at w
      injection w with w1 w
      injection w with w2 w
      injection w with w3 w
      injection w with w4 w
      injection w with w5 w6
      subst w3 w4 w5 w6
      refine b_L_law_203 (fun _ => hk _ _ _ _ _ ?_) (fun w => absurd rfl w)
      have hcle : c.1 ≤ c2.1 := by
        rcases hcc with ⟨-, -, z⟩ | ⟨-, -, z, -⟩
        · rw [z]; exact Nat.le_refl _
        · rw [z]; show c.1 ≤ c.1 + 7; omega
      have e1R : ∀ k, R2 1 k = _ := fun k => congrFun (hr2 1 (by omega) (by omega)) k
      have hly : ∀ a, (a = 93 ∨ (118 < a ∧ a + 6 ≤ c.1)) → LyCs S _ a → LyCs S2 R2 a := fun a ha hy => LyCs_eq hy (fun x h1 h2 => ⟨hs2 x (by omega), hr2 x (by omega) (by omega)⟩)
      have hA2 : AD S2 R2 c2 b b' q' q T T' N N' K' K C' C1 := by
        refine ⟨?_, ?_, ?_, ?_, ?_, ?_, ?_, ?_, ?_, ?_, ?_, ?_, ?_, ?_, ?_, ?_, ?_, ?_, ?_, ?_, ?_, ?_⟩
        · exact Lay_ch hA1.hL (fun x hx => hs2 x (by omega)) (fun x hx h1 _ => hr2 x (by omega) h1) (fun k _ => e1R k) (fun k hk => hr65 k (by omega))
        · rw [e1R]; exact hA1.r4
        · rw [e1R]; exact hA1.r5
        · exact hA.hb
        · rw [e1R]; exact hA1.r6
        · rw [e1R]; exact hA1.r7
        · exact hA1.hq
        · rw [hr65 _ (by omega)]; exact hA1.t9
        · rw [hr65 _ (by omega)]; exact hA1.t10
        · exact hA.hT
        · rw [hr65 _ (by omega)]; exact hA1.n11
        · rw [hr65 _ (by omega)]; exact hA1.n12
        · exact hA.hN
        · exact r13
        · exact r14
        · exact r15
        · exact r16
        · have := hA.hK; clear hC' hcc; omega
        · rcases hcc with ⟨z1, z2, z3⟩ | ⟨z1, z2, z3, z4⟩
          · have := hA.Cr z2
            rw [z1]; omega
          · right; rw [z2, z3]; show 118 < c.1 + 1 ∧ c.1 + 1 + 6 ≤ c.1 + 7; omega
        · rcases hcc with ⟨z1, z2, z3⟩ | ⟨z1, z2, z3, z4⟩
          · rw [z1]; exact hly C (hA.Cr z2).1 (hA1.hC.resolve_left z2).2.1
          · exact z4
        · refine Or.inr ⟨by omega, hly C' hC' hA1.yC', ?_⟩
          rcases hcc with ⟨z1, z2, z3⟩ | ⟨z1, z2, z3, z4⟩
          · have := (hA.Cr z2).2
            rw [z1]; omega
          · rw [z2]; omega
        · omega
      have fI : ∀ x k, x ≤ 118 → ¬ aMa C' K' x k → ¬ aJv x k → I2 x k = I1 x k := fun x k h1 h2 h3 => f2 x k (by omega) (by rintro (z | z); exact h2 z; exact h3 z)
      have fJ : ∀ x k, x ≤ 118 → ¬ aMaj C' K' x k → J2 x k = J1 x k := fun x k h1 h2 => j2 x k (by omega) h2
      have hV := ki.2.2
      have hk4 := kc.2.2.2.1
      have hgl := kc.2.2.2.2.2.2.2.2
      have h40 := hM.w.1
      have eJ : ∀ x k, ((x = 13 ∧ k = 4) ∨ (19 ≤ x ∧ x ≤ 24)) → J2 x k = J1 x k := fun x k h => fJ x k (by omega) (by unfold aMaj; omega)
      refine ⟨b, b', q', q, T, T', N, N', K', K, C', C1, 0, ns, l, hA2, ⟨?_, e3, by omega, ?_, fun i hi => absurd hi (Nat.not_lt_zero _)⟩, CM_of hM1 (fun x k g => fI x k (by omega) (by unfold aMa; omega) (by unfold aJv; omega)) (fun x k g => fJ x k (by omega) (by unfold aMaj; omega)), Or.inr ⟨cs, gv, kl, g, ?_, by omega, ?_, ki, ?_, ?_, ?_, ?_, ?_, qc⟩, ?_, ?_⟩
      · rw [fI 2 1 (by omega) (by unfold aMa; omega) (by unfold aJv; omega)]; exact e1
      · rw [show I2 66 = I1 66 from funext fun k => fI 66 k (by omega) (by unfold aMa; omega) (by unfold aJv; omega), t66, show I2 3 = I1 3 from funext fun k => fI 3 k (by omega) (by unfold aMa; omega) (by unfold aJv; omega), fr_row f1 3 (fun k => by unfold aKA aKc aRi; omega)]
      · rw [fI 1 8 (by omega) (by unfold aMa; omega) (by unfold aJv; omega)]; exact e2
      · exact KCl_of kc (fun x k h1 h2 => fI x k (by omega) (by unfold aMa; omega) (by unfold aJv; omega))
      · rw [congrFun (hr2 13 (by omega) (by omega)) 1, u2_e]
      · rw [fI 13 2 (by omega) (by unfold aMa; omega) (by unfold aJv; omega)]; exact i2
      · rw [fI 13 3 (by omega) (by unfold aMa; omega) (by unfold aJv; omega)]; exact i3
      · rw [eJ 13 4 (by omega)]; exact hu
      · exact ⟨hM.w, hV, ki.2.1, fun x hx => (ki.1 x hx).1, fun w hw => CkW_congr hM.w hk4 (by omega) (fun x hx => ⟨by have := (ki.1 x hx).1; omega, (KCl_cs kc hx).2⟩) (fun i _ => ⟨eJ _ _ (by omega), eJ _ _ (by omega)⟩) (fun i _ => ⟨eJ _ _ (by omega), eJ _ _ (by omega)⟩) (eJ _ _ (by omega)) (eJ _ _ (by omega)) (ckw w hw), mj⟩
      · rcases hcc with ⟨-, -, z⟩ | ⟨-, -, z, -⟩
        · rw [z]; omega
        · rw [z]; show c.1 + 7 ≤ _; omega
      · rcases hcc with ⟨-, -, z⟩ | ⟨-, -, z, -⟩
        · rw [z]; omega
        · rw [z]; show c.2 + 259 ≤ _; omega
end OPS
