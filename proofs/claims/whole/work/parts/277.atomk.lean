/-! ===== P2: takeAtom of the claim's reader ===== -/
def atK (kd : Nat → Int32) (key : Nat → Int64) (n : Nat) (vs : List Int64) : Option (Int32 × List Int64) := if kd n = 5 then (if key n = 48 ∨ key n = 49 then some ((-(key n)).toInt32, vs) else none) else if kd n = 4 then (match ixl (key n) vs with
  | some v => some (ii v, vs)
  | none => if vs.length < 9 then some (ii vs.length, vs ++ [key n]) else none) else none
def aAtk (q : Nat) (a k : Nat) : Prop := (a = 4 ∧ k = 5) ∨ a = q + 9 ∨ (a = q + 8 ∧ k = 1) ∨ (a = 11 ∧ k = 2) ∨ (a = q ∧ k = 0)
def aAtj (q : Nat) (a _k : Nat) : Prop := a = q + 1
theorem ii_n2 {n : Nat} (h : n < 2147483648) : ¬ ii n = -2 := fun q => by
  have := ii_nn h
  rw [q] at this
  exact this (by decide)
theorem ixl_lt (key : Int64) : ∀ (l : List Int64) (v : Nat), ixl key l = some v → v < l.length
  | [], v, h => by cases h
  | x :: l, v, h => by
    rw [ixl] at h
    split at h
    · cases h; simp
    · cases hq : ixl key l with
      | none => rw [hq] at h; cases h
      | some u =>
        rw [hq] at h
        have := ixl_lt key l u hq
        have h2 : u + 1 = v := by simpa using h
        rw [List.length_cons]; omega
theorem s_X6k_takeAtom {xs : Nat → Int32} {L d : Nat} {S : Nat → Shp} {I : Nat → Nat → Int32} {J : Nat → Nat → Int64} {R : Nat → Nat → Nat} {c : Nat × Nat} {Q : Option (Option Value) → MH → Prop} {q n m ats : Nat} {l : List Int32} {vs : List Int64} (hL : Lay S R) (hr : R 11 1 = q + 8) (hq : R 11 6 = q) (hc : LyCd S R (q + 8)) (hm : LyCm S R q) (hq2 : 12 < q) (h : TkC I n m) (hl : CdL I (q + 8) l) (hl2 : l.length < 2000) (hv : I q 0 = ii vs.length) (hv1 : NL J (q + 1) vs) (hv2 : vs.length ≤ 9) (ha : I 11 2 = ii ats) (ha2 : ats ≤ 300) (k0 : ∀ I', fr (aAtk q) I I' → TkC I' n m → (ats < 300 → atK (I 5) (J 7) n vs = none) → Q (some (some (.int 0))) (S, I', J, R, c)) (k1 : ∀ I' J' x vs', fr (aAtk q) I I' → fr (aAtj q) J J' → ats < 300 → n < m → atK (I 5) (J 7) n vs = some (x, vs') → TkC I' (n + 1) m → CdL I' (q + 8) (l ++ [x]) → I' 11 2 = ii (ats + 1) → I' q 0 = ii vs'.length → NL J' (q + 1) vs' → Q (some (some (.int 1))) (S, I', J', R, c)) : X xs L (d + 2) 70 0 [.ref 11] [] (S, I, J, R, c) Q := by
  refine b_X6k_takeAtom_0 hL (fun z => ?_) (fun z => b_X6k_takeAtom_10 (k0 I (fr_refl _ _) h (fun w => absurd ?_ z)))
  rotate_left
  · rw [ha]; exact (ii_lt (m := 300) (by omega) (by omega)).2 w
  rw [ha] at z
  have z' := (ii_lt (m := 300) (by omega) (by omega)).1 z
  refine b_X6k_takeAtom_12 hL ?_
  rw [ha, ii_add1]
  have hT : TkC (u2 I 11 2 (ii (ats + 1))) n m := by
    refine ⟨?_, ?_, h.2.2.1, h.2.2.2.1, ?_⟩
    · rw [u2_a _ _ _ _ (by decide)]; exact h.1
    · rw [u2_a _ _ _ _ (by decide)]; exact h.2.1
    · rw [u2_a _ _ _ _ (by decide)]; exact h.2.2.2.2
  have hC : CdL (u2 I 11 2 (ii (ats + 1))) (q + 8) l := by
    refine ⟨?_, fun i x hx => ?_⟩
    · rw [u2_a _ _ _ _ (by omega)]; exact hl.1
    · rw [u2_a _ _ _ _ (by omega)]; exact hl.2 i x hx
  have hF : fr (aAtk q) I (u2 I 11 2 (ii (ats + 1))) := fr_u _ (fr_refl _ _) (Or.inr (Or.inr (Or.inr (Or.inl ⟨rfl, rfl⟩))))
  have hA : (u2 I 11 2 (ii (ats + 1))) 11 2 = ii (ats + 1) := u2_e _ _ _ _
  have hV : (u2 I 11 2 (ii (ats + 1))) q 0 = ii vs.length := by rw [u2_a _ _ _ _ (by omega)]; exact hv
  have e5 : (u2 I 11 2 (ii (ats + 1))) 5 = I 5 := by funext j; rw [u2_a _ _ _ _ (by decide)]
  generalize u2 I 11 2 (ii (ats + 1)) = I2 at hT hC hF hA hV e5 ⊢
  refine s_X9_kind hL (TkC_in hT) ?_
  have e : f_X9_kind I2 = I 5 n := by unfold f_X9_kind; rw [TkC_nat hT, e5]
  have e2 : f_X9_key I2 J = J 7 n := by unfold f_X9_key; rw [TkC_nat hT]
  have hgo : ∀ (d' : Nat) (I2 : Nat → Nat → Int32) (J2 : Nat → Nat → Int64) x vs', TkC I2 n m → CdL I2 (q + 8) l → fr (aAtk q) I I2 → fr (aAtj q) J J2 → I2 11 2 = ii (ats + 1) → I2 q 0 = ii vs'.length → NL J2 (q + 1) vs' → n < m → atK (I 5) (J 7) n vs = some (x, vs') → ∀ (Q' : Option (Option Value) → MH → Prop), (∀ I3, TkC I3 n m → (TkC (u2 I3 4 5 (ii (n + 1))) (n + 1) m → Q (some (some (.int 1))) (S, u2 I3 4 5 (ii (n + 1)), J2, R, c)) → Q' (some none) (S, I3, J2, R, c)) → X xs L d' 57 0 [.ref (q + 8), .int x] [] (S, I2, J2, R, c) Q' := by
    intro d' I2 J2 x vs' hT hC hF hJ hA hV hN hn hx Q' hk
    refine s_X5_add (n := l.length) hc hC.1 hl2 (hk _ ?_ (fun hT2 => k1 _ _ x vs' ?_ hJ z' hn hx hT2 ?_ ?_ ?_ hN))
    · refine ⟨?_, ?_, hT.2.2.1, hT.2.2.2.1, ?_⟩
      · rw [u2_a _ _ _ _ (by omega), u2_a _ _ _ _ (by omega)]; exact hT.1
      · rw [u2_a _ _ _ _ (by omega), u2_a _ _ _ _ (by omega)]; exact hT.2.1
      · rw [u2_a _ _ _ _ (by omega), u2_a _ _ _ _ (by omega)]; exact hT.2.2.2.2
    · exact fr_u _ (fr_u _ (fr_u _ hF (Or.inr (Or.inl rfl))) (Or.inr (Or.inr (Or.inl ⟨rfl, rfl⟩)))) (Or.inl ⟨rfl, rfl⟩)
    · have := CdL_add (x := x) hC rfl
      refine ⟨?_, fun i y hy => ?_⟩
      · rw [u2_a _ _ _ _ (by omega)]; exact this.1
      · rw [u2_a _ _ _ _ (by omega)]; exact this.2 i y hy
    · rw [u2_a _ _ _ _ (by decide), u2_a _ _ _ _ (by omega), u2_a _ _ _ _ (by omega)]; exact hA
    · rw [u2_a _ _ _ _ (by omega), u2_a _ _ _ _ (by omega), u2_a _ _ _ _ (by omega)]; exact hV
  show Kc _ _ _ _ _ _ _ _ _ _
  rw [e]
  refine b_X6k_takeAtom_29 (fun g => ?_) (fun g => ?_)
  · have hn := TkC_lt h (by rw [g]; decide)
    refine b_X6k_takeAtom_38 hL (s_X9_key hL (TkC_in hT) ?_)
    rw [e2]
    have hadd : (J 7 n = 48 ∨ J 7 n = 49) → X xs L (d + 2) 70 68 [.ref 11] [] (S, I2, J, R, c) Q := by
      intro hk
      refine b_X6k_takeAtom_68 hL hr (s_X9_key hL (TkC_in hT) ?_)
      rw [e2]
      refine b_X6k_takeAtom_79 hc (hgo _ I2 J _ vs hT hC hF (fr_refl _ _) hA hV hv1 hn (by unfold atK; rw [if_pos g, if_pos hk]) _ (fun I3 t1 t2 => ?_))
      exact b_X6k_takeAtom_84 hL (s_X9_step hL t1 hn (b_X6k_takeAtom_91 (t2 (TkC_st t1 hn))))
    refine b_X6k_takeAtom_45 (fun q2 => hadd (Or.inl (lgc.1 q2))) (fun q2 => ?_)
    refine b_X6k_takeAtom_52 hL (s_X9_key hL (TkC_in hT) ?_)
    rw [e2]
    refine b_X6k_takeAtom_59 (fun q3 => hadd (Or.inr (lgc.1 q3))) (fun q3 => b_X6k_takeAtom_66 (k0 I2 hF hT (fun _ => ?_)))
    unfold atK
    rw [if_pos g, if_neg (fun w => w.elim (fun w => q2 (lgc.2 w)) (fun w => q3 (lgc.2 w)))]
  · refine b_X6k_takeAtom_33 hL ?_
    refine b_X4_takeLeaf_0 hL (s_X9_kind hL (TkC_in hT) ?_)
    rw [e]
    refine b_X4_takeLeaf_7 (fun g2 => ?_) (fun g2 => ?_)
    · refine b_X4_takeLeaf_28 (b_X4_takeLeaf_30 (fun w => absurd rfl w) (fun _ => b_X4_takeLeaf_37 (b_X6k_takeAtom_37 (Or.inl rfl) (k0 I2 hF hT (fun _ => ?_)))))
      unfold atK
      rw [if_neg g, if_neg g2]
    · have g3 := Classical.not_not.1 g2
      have hn := TkC_lt h (by rw [g3]; decide)
      refine b_X4_takeLeaf_11 hL hq (s_X9_key hL (TkC_in hT) ?_)
      rw [e2]
      refine b_X4_takeLeaf_22 hm (s_X3_variable hm hV hv1 hv2 (fun v w1 => ?_) (fun w1 w2 => ?_) (fun w1 w2 => ?_))
      · have := ixl_lt _ _ _ w1
        refine b_X4_takeLeaf_25 (b_X4_takeLeaf_30 (fun _ => ?_) (fun w => absurd (ii_n2 (by omega)) w))
        refine b_X4_takeLeaf_39 hL hr hc (hgo _ I2 J _ vs hT hC hF (fr_refl _ _) hA hV hv1 hn (by unfold atK; rw [if_neg g, if_pos g3, w1]) _ (fun I3 t1 t2 => ?_))
        exact b_X4_takeLeaf_47 hL (s_X9_step hL t1 hn (b_X4_takeLeaf_54 (b_X6k_takeAtom_37 (Or.inr rfl) (t2 (TkC_st t1 hn)))))
      · refine b_X4_takeLeaf_25 (b_X4_takeLeaf_30 (fun _ => ?_) (fun w => absurd (ii_n2 (by omega)) w))
        refine b_X4_takeLeaf_39 hL hr hc (hgo _ _ _ _ (vs ++ [J 7 n]) ?_ ?_ (fr_u _ hF (Or.inr (Or.inr (Or.inr (Or.inr ⟨rfl, rfl⟩))))) (fr_u _ (fr_refl _ _) rfl) ?_ ?_ (NL_add hv1 rfl) hn (by unfold atK; rw [if_neg g, if_pos g3, w1]; simp only; rw [if_pos w2]) _ (fun I3 t1 t2 => ?_))
        · refine ⟨?_, ?_, hT.2.2.1, hT.2.2.2.1, ?_⟩
          · rw [u2_a _ _ _ _ (by omega)]; exact hT.1
          · rw [u2_a _ _ _ _ (by omega)]; exact hT.2.1
          · rw [u2_a _ _ _ _ (by omega)]; exact hT.2.2.2.2
        · refine ⟨?_, fun i x hx => ?_⟩
          · rw [u2_a _ _ _ _ (by omega)]; exact hC.1
          · rw [u2_a _ _ _ _ (by omega)]; exact hC.2 i x hx
        · rw [u2_a _ _ _ _ (by omega)]; exact hA
        · rw [u2_e, List.length_append]; rfl
        · exact b_X4_takeLeaf_47 hL (s_X9_step hL t1 hn (b_X4_takeLeaf_54 (b_X6k_takeAtom_37 (Or.inr rfl) (t2 (TkC_st t1 hn)))))
      · refine b_X4_takeLeaf_25 (b_X4_takeLeaf_30 (fun w => absurd rfl w) (fun _ => b_X4_takeLeaf_37 (b_X6k_takeAtom_37 (Or.inl rfl) (k0 I2 hF hT (fun _ => ?_)))))
        unfold atK
        rw [if_neg g, if_pos g3, w1]
        simp only
        rw [if_neg w2]
