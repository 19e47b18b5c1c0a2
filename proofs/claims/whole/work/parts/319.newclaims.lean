/-! ===== P2: a new Claims of the model ===== -/
section NCL
variable {xs : Nat → Int32} {L d : Nat} {S : Nat → Shp} {I : Nat → Nat → Int32} {J : Nat → Nat → Int64} {R : Nat → Nat → Nat} {c : Nat × Nat} {Q : Option (Option Value) → MH → Prop}
/-- the same but for one place -/
def eqx (p : Nat) (S S' : Nat → Shp) (I I' : Nat → Nat → Int32) (J J' : Nat → Nat → Int64) : Prop := ∀ x, ¬ x = p → S' x = S x ∧ I' x = I x ∧ J' x = J x
theorem ini1 {pc n k0 f a : Nat} {q : Int} {v : Int32} {aty : ArrayType} {ty : FieldType} (h1 : decode (mB 115) pc = .ok (.aload_n 0, 1)) (h2 : decode (mB 115) (pc + 1) = .ok (.bipush q, 2)) (h3 : decode (mB 115) (pc + 3) = .ok (.newarray aty, 2)) (h4 : decode (mB 115) (pc + 5) = .ok (.putfield k0, 3)) (hv : (Int8.ofInt q).toInt32 = v) (ht : arT aty = some ty) (hn : ¬ v < 0) (hq : v.toNatClampNeg = n) (hn2 : n ≤ 1000000) (hs : S a = .inl 10) (ha : a ≤ c.1) (hf : fl (mO 115) k0 10 = some f) (hok : pfOK 115 10 f = true) (hr : isRF (tyT 10 f) = true) (k : ∀ S' I' J', eqx (c.1 + 1) S S' I I' J J' → S' (c.1 + 1) = .inr (ty, n) → X xs L d 115 (pc + 8) [.ref a] [] (S', I', J', u2 R a f (c.1 + 1), (c.1 + 1, c.2 + n)) Q) : X xs L d 115 pc [.ref a] [] (S, I, J, R, c) Q := by
  refine X_aload_n (q := 0) h1 (pc' := pc + 1) rfl rfl rfl ?_
  refine X_bipush h2 (pc' := pc + 3) rfl hv ?_
  refine X_newa h3 (pc' := pc + 5) rfl ht hn hq hn2 ?_
  show X xs L d 115 (pc + 5) [.ref a] [.ref (c.1 + 1), .ref a] (u1 S (c.1 + 1) (.inr (ty, n)), u1 I (c.1 + 1) (fun _ => 0), u1 J (c.1 + 1) (fun _ => 0), R, (c.1 + 1, c.2 + n)) Q
  refine X_putR h4 (pc' := pc + 8) rfl (ci := 10) (f := f) (by rw [u1_if, if_neg (by omega)]; exact hs) hf hok hr ?_
  exact k _ _ _ (fun x hx => ⟨by rw [u1_if, if_neg hx], by rw [u1_if, if_neg hx], by rw [u1_if, if_neg hx]⟩) (by rw [u1_if, if_pos rfl])
theorem s_newCs (k : ∀ S' I' J' R', (∀ x, ¬ (c.1 < x ∧ x ≤ c.1 + 7) → S' x = S x ∧ I' x = I x ∧ J' x = J x ∧ R' x = R x) → LyCs S' R' (c.1 + 1) → X xs L (d + 2) 147 135 [.ref 65, .null] [.ref (c.1 + 1), .ref 65] (S', I', J', R', (c.1 + 7, c.2 + 259)) Q) : X xs L (d + 2) 147 128 [.ref 65, .null] [.ref 65] (S, I, J, R, c) Q := by
  obtain ⟨p, s⟩ := c
  refine X_new (ci := 10) (show decode (mB 147) 128 = .ok (.new 47, 3) by decide +kernel) (pc' := 131) rfl (by decide +kernel) ?_
  refine X_dup (show decode (mB 147) 131 = .ok (.dup, 1) by decide +kernel) (pc' := 132) rfl rfl ?_
  refine X_callP (a := p) (y := 115) (n := 0) (rest := [.ref (p + 1), .ref 65]) (as := [.ref (p + 1)]) (ls0 := [.ref (p + 1)]) (show decode (mB 147) 132 = .ok (.invokespecial 49, 3) by decide +kernel) (pc' := 135) rfl (by decide +kernel) (by decide +kernel) (by decide +kernel) rfl rfl rfl rfl rfl rfl ?_
  show X xs L (d + 1) 115 0 [.ref (p + 1)] [] (u1 S (p + 1) (.inl 10), u1 I (p + 1) (fun _ => 0), u1 J (p + 1) (fun _ => 0), u1 R (p + 1) (fun _ => 0), (p + 1, s + 10)) _
  refine X_aload_n (q := 0) (show decode (mB 115) 0 = .ok (.aload_n 0, 1) by decide +kernel) (pc' := 1) rfl rfl rfl ?_
  refine X_oinit (show decode (mB 115) 1 = .ok (.invokespecial 3, 3) by decide +kernel) (pc' := 4) rfl (by decide +kernel) ⟨by omega, by omega, by decide⟩ ?_
  have e0 : ∀ x, ¬ x = p + 1 → u1 S (p + 1) (.inl 10) x = S x ∧ u1 I (p + 1) (fun _ => 0) x = I x ∧ u1 J (p + 1) (fun _ => 0) x = J x ∧ u1 R (p + 1) (fun _ => 0) x = R x := fun x hx => ⟨by rw [u1_if, if_neg hx], by rw [u1_if, if_neg hx], by rw [u1_if, if_neg hx], by rw [u1_if, if_neg hx]⟩
  have s0 : u1 S (p + 1) (.inl 10) (p + 1) = .inl 10 := by rw [u1_if, if_pos rfl]
  revert e0 s0
  generalize u1 S (p + 1) (.inl 10) = S0
  generalize u1 I (p + 1) (fun _ => 0) = I0
  generalize u1 J (p + 1) (fun _ => 0) = J0
  generalize u1 R (p + 1) (fun _ => 0) = R0
  intro e0 s0
  have hfl : ∀ k0 f, fl (mO 115) k0 10 = some f → fl (mO 115) k0 10 = some f := fun _ _ h => h
  refine ini1 (n := 48) (q := 48) (v := 48) (aty := .int) (ty := .int) (k0 := 9) (f := 0) (a := p + 1) (pc := 4) (by decide +kernel) (by decide +kernel) (by decide +kernel) (by decide +kernel) rfl rfl (by decide) rfl (by omega) s0 (Nat.le_refl _) (by decide +kernel) (by decide +kernel) (by decide +kernel) (fun S1 I1 J1 q1 t1 => ?_)
  have s1 : S1 (p + 1) = .inl 10 := by rw [(q1 _ (by omega)).1]; exact s0
  refine ini1 (n := 48) (q := 48) (v := 48) (aty := .int) (ty := .int) (k0 := 15) (f := 1) (a := p + 1) (pc := 12) (by decide +kernel) (by decide +kernel) (by decide +kernel) (by decide +kernel) rfl rfl (by decide) rfl (by omega) s1 (show p + 1 ≤ p + 1 + 1 by omega) (by decide +kernel) (by decide +kernel) (by decide +kernel) (fun S2 I2 J2 q2 t2 => ?_)
  have s2 : S2 (p + 1) = .inl 10 := by rw [(q2 _ (show ¬ p + 1 = p + 1 + 1 + 1 by omega)).1]; exact s1
  refine ini1 (n := 48) (q := 48) (v := 48) (aty := .int) (ty := .int) (k0 := 18) (f := 2) (a := p + 1) (pc := 20) (by decide +kernel) (by decide +kernel) (by decide +kernel) (by decide +kernel) rfl rfl (by decide) rfl (by omega) s2 (show p + 1 ≤ p + 1 + 1 + 1 by omega) (by decide +kernel) (by decide +kernel) (by decide +kernel) (fun S3 I3 J3 q3 t3 => ?_)
  have s3 : S3 (p + 1) = .inl 10 := by rw [(q3 _ (show ¬ p + 1 = p + 1 + 1 + 1 + 1 by omega)).1]; exact s2
  refine ini1 (n := 48) (q := 48) (v := 48) (aty := .int) (ty := .int) (k0 := 21) (f := 3) (a := p + 1) (pc := 28) (by decide +kernel) (by decide +kernel) (by decide +kernel) (by decide +kernel) rfl rfl (by decide) rfl (by omega) s3 (show p + 1 ≤ p + 1 + 1 + 1 + 1 by omega) (by decide +kernel) (by decide +kernel) (by decide +kernel) (fun S4 I4 J4 q4 t4 => ?_)
  have s4 : S4 (p + 1) = .inl 10 := by rw [(q4 _ (show ¬ p + 1 = p + 1 + 1 + 1 + 1 + 1 by omega)).1]; exact s3
  refine ini1 (n := 48) (q := 48) (v := 48) (aty := .int) (ty := .int) (k0 := 24) (f := 4) (a := p + 1) (pc := 36) (by decide +kernel) (by decide +kernel) (by decide +kernel) (by decide +kernel) rfl rfl (by decide) rfl (by omega) s4 (show p + 1 ≤ p + 1 + 1 + 1 + 1 + 1 by omega) (by decide +kernel) (by decide +kernel) (by decide +kernel) (fun S5 I5 J5 q5 t5 => ?_)
  have s5 : S5 (p + 1) = .inl 10 := by rw [(q5 _ (show ¬ p + 1 = p + 1 + 1 + 1 + 1 + 1 + 1 by omega)).1]; exact s4
  refine ini1 (n := 9) (q := 9) (v := 9) (aty := .long) (ty := .long) (k0 := 27) (f := 5) (a := p + 1) (pc := 44) (by decide +kernel) (by decide +kernel) (by decide +kernel) (by decide +kernel) rfl rfl (by decide) rfl (by omega) s5 (show p + 1 ≤ p + 1 + 1 + 1 + 1 + 1 + 1 by omega) (by decide +kernel) (by decide +kernel) (by decide +kernel) (fun S6 I6 J6 q6 t6 => ?_)
  refine X_return (show decode (mB 115) 52 = .ok (.return_, 1) by decide +kernel) rfl ?_
  refine k S6 I6 J6 _ (fun x hx => ?_) ?_
  · have hx : ¬ (p < x ∧ x ≤ p + 7) := hx
    obtain ⟨a1, a2, a3⟩ := q1 x (show ¬ x = p + 1 + 1 by omega)
    obtain ⟨b1, b2, b3⟩ := q2 x (show ¬ x = p + 1 + 1 + 1 by omega)
    obtain ⟨c1, c2, c3⟩ := q3 x (show ¬ x = p + 1 + 1 + 1 + 1 by omega)
    obtain ⟨d1, d2, d3⟩ := q4 x (show ¬ x = p + 1 + 1 + 1 + 1 + 1 by omega)
    obtain ⟨f1, f2, f3⟩ := q5 x (show ¬ x = p + 1 + 1 + 1 + 1 + 1 + 1 by omega)
    obtain ⟨g1, g2, g3⟩ := q6 x (show ¬ x = p + 1 + 1 + 1 + 1 + 1 + 1 + 1 by omega)
    obtain ⟨h1, h2, h3, h4⟩ := e0 x (by omega)
    refine ⟨by rw [g1, f1, d1, c1, b1, a1, h1], by rw [g2, f2, d2, c2, b2, a2, h2], by rw [g3, f3, d3, c3, b3, a3, h3], ?_⟩
    have hne : ¬ x = p + 1 := by omega
    funext j
    rw [u2_a _ _ _ _ hne, u2_a _ _ _ _ hne, u2_a _ _ _ _ hne, u2_a _ _ _ _ hne, u2_a _ _ _ _ hne, u2_a _ _ _ _ hne, h4]
  · refine ⟨⟨?_, ?_, ?_, ?_, ?_, ?_, ?_⟩, ?_, ?_, ?_, ?_, ?_, ?_⟩
    · show S6 (p + 1) = _
      rw [(q6 _ (show ¬ p + 1 = p + 1 + 1 + 1 + 1 + 1 + 1 + 1 by omega)).1]; exact s5
    · show S6 (p + 1 + 1) = _
      rw [(q6 _ (show ¬ p + 1 + 1 = p + 1 + 1 + 1 + 1 + 1 + 1 + 1 by omega)).1, (q5 _ (show ¬ p + 1 + 1 = p + 1 + 1 + 1 + 1 + 1 + 1 by omega)).1, (q4 _ (show ¬ p + 1 + 1 = p + 1 + 1 + 1 + 1 + 1 by omega)).1, (q3 _ (show ¬ p + 1 + 1 = p + 1 + 1 + 1 + 1 by omega)).1, (q2 _ (show ¬ p + 1 + 1 = p + 1 + 1 + 1 by omega)).1]; exact t1
    · show S6 (p + 1 + 1 + 1) = _
      rw [(q6 _ (show ¬ p + 1 + 1 + 1 = p + 1 + 1 + 1 + 1 + 1 + 1 + 1 by omega)).1, (q5 _ (show ¬ p + 1 + 1 + 1 = p + 1 + 1 + 1 + 1 + 1 + 1 by omega)).1, (q4 _ (show ¬ p + 1 + 1 + 1 = p + 1 + 1 + 1 + 1 + 1 by omega)).1, (q3 _ (show ¬ p + 1 + 1 + 1 = p + 1 + 1 + 1 + 1 by omega)).1]; exact t2
    · show S6 (p + 1 + 1 + 1 + 1) = _
      rw [(q6 _ (show ¬ p + 1 + 1 + 1 + 1 = p + 1 + 1 + 1 + 1 + 1 + 1 + 1 by omega)).1, (q5 _ (show ¬ p + 1 + 1 + 1 + 1 = p + 1 + 1 + 1 + 1 + 1 + 1 by omega)).1, (q4 _ (show ¬ p + 1 + 1 + 1 + 1 = p + 1 + 1 + 1 + 1 + 1 by omega)).1]; exact t3
    · show S6 (p + 1 + 1 + 1 + 1 + 1) = _
      rw [(q6 _ (show ¬ p + 1 + 1 + 1 + 1 + 1 = p + 1 + 1 + 1 + 1 + 1 + 1 + 1 by omega)).1, (q5 _ (show ¬ p + 1 + 1 + 1 + 1 + 1 = p + 1 + 1 + 1 + 1 + 1 + 1 by omega)).1]; exact t4
    · show S6 (p + 1 + 1 + 1 + 1 + 1 + 1) = _
      rw [(q6 _ (show ¬ p + 1 + 1 + 1 + 1 + 1 + 1 = p + 1 + 1 + 1 + 1 + 1 + 1 + 1 by omega)).1]; exact t5
    · exact t6
    · rw [u2_k _ _ _ _ (by decide), u2_k _ _ _ _ (by decide), u2_k _ _ _ _ (by decide), u2_k _ _ _ _ (by decide), u2_k _ _ _ _ (by decide), u2_e]
    · rw [u2_k _ _ _ _ (by decide), u2_k _ _ _ _ (by decide), u2_k _ _ _ _ (by decide), u2_k _ _ _ _ (by decide), u2_e]
    · rw [u2_k _ _ _ _ (by decide), u2_k _ _ _ _ (by decide), u2_k _ _ _ _ (by decide), u2_e]
    · rw [u2_k _ _ _ _ (by decide), u2_k _ _ _ _ (by decide), u2_e]
    · rw [u2_k _ _ _ _ (by decide), u2_e]
    · rw [u2_e]
end NCL
