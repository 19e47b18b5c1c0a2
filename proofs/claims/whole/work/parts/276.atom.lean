/-! ===== P2: takeAtom of the circuit's reader ===== -/
/-- the step of the atom that stands at n, if it is one -/
def atC (kd : Nat → Int32) (key : Nat → Int64) (n : Nat) : Option Int32 := if kd n = 5 then (if key n = 48 ∨ key n = 49 then some ((-(key n)).toInt32) else none) else if kd n = 2 then some (ii n) else none
def aAtc (r : Nat) (a k : Nat) : Prop := (a = 4 ∧ k = 5) ∨ a = r + 1 ∨ (a = r ∧ k = 1) ∨ (a = 8 ∧ k = 2)
theorem s_X6c_takeAtom {xs : Nat → Int32} {L d : Nat} {S : Nat → Shp} {I : Nat → Nat → Int32} {J : Nat → Nat → Int64} {R : Nat → Nat → Nat} {c : Nat × Nat} {Q : Option (Option Value) → MH → Prop} {r n m ats : Nat} {l : List Int32} (hL : Lay S R) (hr : R 8 1 = r) (hc : LyCd S R r) (hr2 : 12 < r) (h : TkC I n m) (hl : CdL I r l) (hl2 : l.length < 2000) (ha : I 8 2 = ii ats) (ha2 : ats ≤ 300) (k0 : ∀ I', fr (aAtc r) I I' → TkC I' n m → (ats < 300 → atC (I 5) (J 7) n = none) → Q (some (some (.int 0))) (S, I', J, R, c)) (k1 : ∀ I' x, fr (aAtc r) I I' → ats < 300 → n < m → atC (I 5) (J 7) n = some x → TkC I' (n + 1) m → CdL I' r (l ++ [x]) → I' 8 2 = ii (ats + 1) → Q (some (some (.int 1))) (S, I', J, R, c)) : X xs L (d + 2) 70 0 [.ref 8] [] (S, I, J, R, c) Q := by
  refine b_X6c_takeAtom_0 hL (fun z => ?_) (fun z => b_X6c_takeAtom_10 (k0 I (fr_refl _ _) h (fun q => absurd ?_ z)))
  rotate_left
  · rw [ha]; exact (ii_lt (m := 300) (by omega) (by omega)).2 q
  rw [ha] at z
  have z' := (ii_lt (m := 300) (by omega) (by omega)).1 z
  refine b_X6c_takeAtom_12 hL ?_
  rw [ha, ii_add1]
  have hT : TkC (u2 I 8 2 (ii (ats + 1))) n m := by
    refine ⟨?_, ?_, h.2.2.1, h.2.2.2.1, ?_⟩
    · rw [u2_a _ _ _ _ (by decide)]; exact h.1
    · rw [u2_a _ _ _ _ (by decide)]; exact h.2.1
    · rw [u2_a _ _ _ _ (by decide)]; exact h.2.2.2.2
  have hC : CdL (u2 I 8 2 (ii (ats + 1))) r l := by
    refine ⟨?_, fun i x hx => ?_⟩
    · rw [u2_a _ _ _ _ (by omega)]; exact hl.1
    · rw [u2_a _ _ _ _ (by omega)]; exact hl.2 i x hx
  have hF : fr (aAtc r) I (u2 I 8 2 (ii (ats + 1))) := fr_u _ (fr_refl _ _) (Or.inr (Or.inr (Or.inr ⟨rfl, rfl⟩)))
  have hA : (u2 I 8 2 (ii (ats + 1))) 8 2 = ii (ats + 1) := u2_e _ _ _ _
  have e5 : (u2 I 8 2 (ii (ats + 1))) 5 = I 5 := by funext j; rw [u2_a _ _ _ _ (by decide)]
  generalize u2 I 8 2 (ii (ats + 1)) = I2 at hT hC hF hA e5 ⊢
  refine s_X9_kind hL (TkC_in hT) ?_
  have e : f_X9_kind I2 = I 5 n := by unfold f_X9_kind; rw [TkC_nat hT, e5]
  have e2 : f_X9_key I2 J = J 7 n := by unfold f_X9_key; rw [TkC_nat hT]
  have hgo : ∀ (d' : Nat) x, n < m → atC (I 5) (J 7) n = some x → ∀ (Q' : Option (Option Value) → MH → Prop), (∀ I3, TkC I3 n m → (TkC (u2 I3 4 5 (ii (n + 1))) (n + 1) m → Q (some (some (.int 1))) (S, u2 I3 4 5 (ii (n + 1)), J, R, c)) → Q' (some none) (S, I3, J, R, c)) → X xs L d' 57 0 [.ref r, .int x] [] (S, I2, J, R, c) Q' := by
    intro d' x hn hx Q' hk
    refine s_X5_add (n := l.length) hc hC.1 hl2 (hk _ ?_ (fun hT2 => k1 _ x ?_ z' hn hx hT2 ?_ ?_))
    · refine ⟨?_, ?_, hT.2.2.1, hT.2.2.2.1, ?_⟩
      · rw [u2_a _ _ _ _ (by omega), u2_a _ _ _ _ (by omega)]; exact hT.1
      · rw [u2_a _ _ _ _ (by omega), u2_a _ _ _ _ (by omega)]; exact hT.2.1
      · rw [u2_a _ _ _ _ (by omega), u2_a _ _ _ _ (by omega)]; exact hT.2.2.2.2
    · exact fr_u _ (fr_u _ (fr_u _ hF (Or.inr (Or.inl rfl))) (Or.inr (Or.inr (Or.inl ⟨rfl, rfl⟩)))) (Or.inl ⟨rfl, rfl⟩)
    · have := CdL_add (x := x) hC rfl
      refine ⟨?_, fun i y hy => ?_⟩
      · rw [u2_a _ _ _ _ (by omega)]; exact this.1
      · rw [u2_a _ _ _ _ (by omega)]; exact this.2 i y hy
    · rw [u2_a _ _ _ _ (by decide), u2_a _ _ _ _ (by omega), u2_a _ _ _ _ (by omega)]; exact hA
  show Kc _ _ _ _ _ _ _ _ _ _
  rw [e]
  refine b_X6c_takeAtom_29 (fun q => ?_) (fun q => ?_)
  · have hn := TkC_lt h (by rw [q]; decide)
    refine b_X6c_takeAtom_38 hL (s_X9_key hL (TkC_in hT) ?_)
    rw [e2]
    have hadd : (J 7 n = 48 ∨ J 7 n = 49) → X xs L (d + 2) 70 68 [.ref 8] [] (S, I2, J, R, c) Q := by
      intro hk
      refine b_X6c_takeAtom_68 hL hr (s_X9_key hL (TkC_in hT) ?_)
      rw [e2]
      refine b_X6c_takeAtom_79 hc (hgo _ _ hn (by unfold atC; rw [if_pos q, if_pos hk]) _ (fun I3 t1 t2 => ?_))
      exact b_X6c_takeAtom_84 hL (s_X9_step hL t1 hn (b_X6c_takeAtom_91 (t2 (TkC_st t1 hn))))
    refine b_X6c_takeAtom_45 (fun q2 => hadd (Or.inl (lgc.1 q2))) (fun q2 => ?_)
    refine b_X6c_takeAtom_52 hL (s_X9_key hL (TkC_in hT) ?_)
    rw [e2]
    refine b_X6c_takeAtom_59 (fun q3 => hadd (Or.inr (lgc.1 q3))) (fun q3 => b_X6c_takeAtom_66 (k0 I2 hF hT (fun _ => ?_)))
    unfold atC
    rw [if_pos q, if_neg (fun w => w.elim (fun w => q2 (lgc.2 w)) (fun w => q3 (lgc.2 w)))]
  · refine b_X6c_takeAtom_33 hL ?_
    refine b_X2_takeLeaf_0 hL (s_X9_kind hL (TkC_in hT) ?_)
    rw [e]
    refine b_X2_takeLeaf_7 (fun q2 => ?_) (fun q2 => b_X2_takeLeaf_11 (b_X6c_takeAtom_37 (Or.inl rfl) (k0 I2 hF hT (fun _ => ?_))))
    · have hn := TkC_lt h (by rw [q2]; decide)
      refine b_X2_takeLeaf_13 hL hr (s_X9_index hL ?_)
      have e3 : f_X9_index I2 = ii n := by unfold f_X9_index; exact hT.1
      rw [e3]
      refine b_X2_takeLeaf_24 hc (hgo _ _ hn (by unfold atC; rw [if_neg q, if_pos q2]) _ (fun I3 t1 t2 => ?_))
      exact b_X2_takeLeaf_27 hL (s_X9_step hL t1 hn (b_X2_takeLeaf_34 (b_X6c_takeAtom_37 (Or.inr rfl) (t2 (TkC_st t1 hn)))))
    · unfold atC
      rw [if_neg q, if_neg q2]
