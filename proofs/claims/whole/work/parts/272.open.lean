/-! ===== P2: takeOpeners of both readers (by wip/whole/gen/gen272.py) ===== -/
def opn (kd : Nat → Int32) : Nat → Nat → List Int32 → Nat → Bool × Nat × List Int32 × Nat
  | 0, n, w, dp => (false, n, w, dp)
  | f + 1, n, w, dp => if kd n = 33 ∨ kd n = 40 then (if 10 ≤ dp then (false, n, w, dp) else opn kd f (n + 1) (kd n :: w) (dp + 1)) else (true, n, w, dp)
def aOpc (a k : Nat) : Prop := (a = 4 ∧ k = 5) ∨ a = 9 ∨ (a = 8 ∧ (k = 4 ∨ k = 5))
theorem s_X6c_takeOpeners {xs : Nat → Int32} {L d : Nat} {S : Nat → Shp} {I : Nat → Nat → Int32} {J : Nat → Nat → Int64} {R : Nat → Nat → Nat} {c : Nat × Nat} {Q : Option (Option Value) → MH → Prop} {n m dp : Nat} {w : List Int32} (hL : Lay S R) (h : TkC I n m) (hw : WL I 8 9 w) (hw2 : w.length + 11 ≤ 64) (hd : I 8 5 = ii dp) (hd2 : dp ≤ 10) (k : ∀ I', fr aOpc I I' → TkC I' (opn (I 5) 11 n w dp).2.1 m → WL I' 8 9 (opn (I 5) 11 n w dp).2.2.1 → I' 8 5 = ii (opn (I 5) 11 n w dp).2.2.2 → Q (some (some (.int (if (opn (I 5) 11 n w dp).1 = true then 1 else 0)))) (S, I', J, R, c)) : X xs L (d + 1) 65 0 [.ref 8, .null, .null] [] (S, I, J, R, c) Q := by
  refine b_X6c_takeOpeners_0 ?_
  have main : ∀ (f i : Nat) (v2 : Value) (I' : Nat → Nat → Int32) (n dp : Nat) (w : List Int32), f + i = 11 → fr aOpc I I' → TkC I' n m → WL I' 8 9 w → w.length + f ≤ 64 → I' 8 5 = ii dp → dp ≤ 10 → (∀ I', fr aOpc I I' → TkC I' (opn (I 5) f n w dp).2.1 m → WL I' 8 9 (opn (I 5) f n w dp).2.2.1 → I' 8 5 = ii (opn (I 5) f n w dp).2.2.2 → Q (some (some (.int (if (opn (I 5) f n w dp).1 = true then 1 else 0)))) (S, I', J, R, c)) → X xs L (d + 1) 65 2 [.ref 8, .int (ii i), v2] [] (S, I', J, R, c) Q := by
    intro f
    induction f with
    | zero =>
      intro i v2 I' n dp w h1 h2 h3 h4 h5 h6 h7 k
      refine b_X6c_takeOpeners_2 (fun _ => b_X6c_takeOpeners_69 (k I' h2 h3 h4 h6)) (fun z => ?_)
      exact absurd ((ii_lt (n := 10) (by omega) (by omega)).2 (by omega)) z
    | succ f ih =>
      intro i v2 I' n dp w h1 h2 h3 h4 h5 h6 h7 k
      refine b_X6c_takeOpeners_2 (fun z => ?_) (fun _ => ?_)
      · have := (ii_lt (n := 10) (by omega) (by omega)).1 z; omega
      have e5 : I' 5 = I 5 := fr_row h2 5 (by intro k; unfold aOpc; omega)
      refine b_X6c_takeOpeners_8 hL (s_X9_kind hL (TkC_in h3) ?_)
      have e : f_X9_kind I' = I 5 n := by unfold f_X9_kind; rw [TkC_nat h3, e5]
      rw [e]
      rw [opn] at k
      have hgo : (I 5 n = 33 ∨ I 5 n = 40) → X xs L (d + 1) 65 30 [.ref 8, .int (ii i), .int (I 5 n)] [] (S, I', J, R, c) Q := by
        intro hk
        rw [if_pos hk] at k
        refine b_X6c_takeOpeners_30 hL (fun z => ?_) (fun z => ?_)
        · rw [h6] at z
          have z' := (ii_lt (m := 10) (by omega) (by omega)).1 z
          rw [if_neg (by omega)] at k
          refine b_X6c_takeOpeners_41 hL ?_
          rw [h6, ii_add1]
          refine s_X6c_letWait (n := w.length) hL (by rw [u2_k _ _ _ _ (by decide)]; exact h4.1) (by omega) ?_
          have h4' : WL (u2 I' 8 5 (ii (dp + 1))) 8 9 w := by
            refine ⟨by rw [u2_k _ _ _ _ (by decide)]; exact h4.1, fun j x hx => ?_⟩
            rw [u2_a _ _ _ _ (by decide)]; exact h4.2 j x hx
          have hW := WL_push (x := I 5 n) (by decide) h4' rfl
          have hT : TkC (u2 (u2 (u2 I' 8 5 (ii (dp + 1))) 9 w.length (I 5 n)) 8 4 (ii (w.length + 1))) n m := by
            refine ⟨?_, ?_, h3.2.2.1, h3.2.2.2.1, ?_⟩
            · rw [u2_a _ _ _ _ (by decide), u2_a _ _ _ _ (by decide), u2_a _ _ _ _ (by decide)]; exact h3.1
            · rw [u2_a _ _ _ _ (by decide), u2_a _ _ _ _ (by decide), u2_a _ _ _ _ (by decide)]; exact h3.2.1
            · rw [u2_a _ _ _ _ (by decide), u2_a _ _ _ _ (by decide), u2_a _ _ _ _ (by decide)]; exact h3.2.2.2.2
          have hn : n < m := by
            refine TkC_lt h3 ?_
            rw [e5]
            rcases hk with hk | hk <;> rw [hk] <;> decide
          have hF : fr aOpc I (u2 (u2 (u2 I' 8 5 (ii (dp + 1))) 9 w.length (I 5 n)) 8 4 (ii (w.length + 1))) := fr_u _ (fr_u _ (fr_u _ h2 (Or.inr (Or.inr ⟨rfl, Or.inr rfl⟩))) (Or.inr (Or.inl rfl))) (Or.inr (Or.inr ⟨rfl, Or.inl rfl⟩))
          have hD : (u2 (u2 (u2 I' 8 5 (ii (dp + 1))) 9 w.length (I 5 n)) 8 4 (ii (w.length + 1))) 8 5 = ii (dp + 1) := by
            rw [u2_k _ _ _ _ (by decide), u2_a _ _ _ _ (by decide), u2_e]
          refine b_X6c_takeOpeners_56 hL (s_X9_step hL hT hn (b_X6c_takeOpeners_63 ?_))
          rw [ii_add1]
          refine ih (i + 1) _ _ (n + 1) (dp + 1) (I 5 n :: w) (by omega) (fr_u _ hF (Or.inl ⟨rfl, rfl⟩)) (TkC_st hT hn) ?_ (by rw [List.length_cons]; omega) ?_ (by omega) k
          · refine ⟨by rw [u2_a _ _ _ _ (by decide)]; exact hW.1, fun j x hx => ?_⟩
            rw [u2_a _ _ _ _ (by decide)]; exact hW.2 j x hx
          · rw [u2_a _ _ _ _ (by decide)]; exact hD
        · rw [h6] at z
          have z' : ¬ dp < 10 := fun q => z ((ii_lt (m := 10) (by omega) (by omega)).2 q)
          rw [if_pos (by omega)] at k
          exact b_X6c_takeOpeners_39 (k I' h2 h3 h4 h6)
      refine b_X6c_takeOpeners_15 (fun z => hgo (Or.inl z)) (fun z => ?_)
      refine b_X6c_takeOpeners_22 (fun z2 => hgo (Or.inr z2)) (fun z2 => b_X6c_takeOpeners_28 ?_)
      rw [if_neg (fun q => q.elim z z2)] at k
      exact k I' h2 h3 h4 h6
  exact main 11 0 _ I n dp w rfl (fr_refl _ _) h hw hw2 hd hd2 k
def aOpk (a k : Nat) : Prop := (a = 4 ∧ k = 5) ∨ a = 12 ∨ (a = 11 ∧ (k = 4 ∨ k = 5))
theorem s_X6k_takeOpeners {xs : Nat → Int32} {L d : Nat} {S : Nat → Shp} {I : Nat → Nat → Int32} {J : Nat → Nat → Int64} {R : Nat → Nat → Nat} {c : Nat × Nat} {Q : Option (Option Value) → MH → Prop} {n m dp : Nat} {w : List Int32} (hL : Lay S R) (h : TkC I n m) (hw : WL I 11 12 w) (hw2 : w.length + 11 ≤ 64) (hd : I 11 5 = ii dp) (hd2 : dp ≤ 10) (k : ∀ I', fr aOpk I I' → TkC I' (opn (I 5) 11 n w dp).2.1 m → WL I' 11 12 (opn (I 5) 11 n w dp).2.2.1 → I' 11 5 = ii (opn (I 5) 11 n w dp).2.2.2 → Q (some (some (.int (if (opn (I 5) 11 n w dp).1 = true then 1 else 0)))) (S, I', J, R, c)) : X xs L (d + 1) 65 0 [.ref 11, .null, .null] [] (S, I, J, R, c) Q := by
  refine b_X6k_takeOpeners_0 ?_
  have main : ∀ (f i : Nat) (v2 : Value) (I' : Nat → Nat → Int32) (n dp : Nat) (w : List Int32), f + i = 11 → fr aOpk I I' → TkC I' n m → WL I' 11 12 w → w.length + f ≤ 64 → I' 11 5 = ii dp → dp ≤ 10 → (∀ I', fr aOpk I I' → TkC I' (opn (I 5) f n w dp).2.1 m → WL I' 11 12 (opn (I 5) f n w dp).2.2.1 → I' 11 5 = ii (opn (I 5) f n w dp).2.2.2 → Q (some (some (.int (if (opn (I 5) f n w dp).1 = true then 1 else 0)))) (S, I', J, R, c)) → X xs L (d + 1) 65 2 [.ref 11, .int (ii i), v2] [] (S, I', J, R, c) Q := by
    intro f
    induction f with
    | zero =>
      intro i v2 I' n dp w h1 h2 h3 h4 h5 h6 h7 k
      refine b_X6k_takeOpeners_2 (fun _ => b_X6k_takeOpeners_69 (k I' h2 h3 h4 h6)) (fun z => ?_)
      exact absurd ((ii_lt (n := 10) (by omega) (by omega)).2 (by omega)) z
    | succ f ih =>
      intro i v2 I' n dp w h1 h2 h3 h4 h5 h6 h7 k
      refine b_X6k_takeOpeners_2 (fun z => ?_) (fun _ => ?_)
      · have := (ii_lt (n := 10) (by omega) (by omega)).1 z; omega
      have e5 : I' 5 = I 5 := fr_row h2 5 (by intro k; unfold aOpk; omega)
      refine b_X6k_takeOpeners_8 hL (s_X9_kind hL (TkC_in h3) ?_)
      have e : f_X9_kind I' = I 5 n := by unfold f_X9_kind; rw [TkC_nat h3, e5]
      rw [e]
      rw [opn] at k
      have hgo : (I 5 n = 33 ∨ I 5 n = 40) → X xs L (d + 1) 65 30 [.ref 11, .int (ii i), .int (I 5 n)] [] (S, I', J, R, c) Q := by
        intro hk
        rw [if_pos hk] at k
        refine b_X6k_takeOpeners_30 hL (fun z => ?_) (fun z => ?_)
        · rw [h6] at z
          have z' := (ii_lt (m := 10) (by omega) (by omega)).1 z
          rw [if_neg (by omega)] at k
          refine b_X6k_takeOpeners_41 hL ?_
          rw [h6, ii_add1]
          refine s_X6k_letWait (n := w.length) hL (by rw [u2_k _ _ _ _ (by decide)]; exact h4.1) (by omega) ?_
          have h4' : WL (u2 I' 11 5 (ii (dp + 1))) 11 12 w := by
            refine ⟨by rw [u2_k _ _ _ _ (by decide)]; exact h4.1, fun j x hx => ?_⟩
            rw [u2_a _ _ _ _ (by decide)]; exact h4.2 j x hx
          have hW := WL_push (x := I 5 n) (by decide) h4' rfl
          have hT : TkC (u2 (u2 (u2 I' 11 5 (ii (dp + 1))) 12 w.length (I 5 n)) 11 4 (ii (w.length + 1))) n m := by
            refine ⟨?_, ?_, h3.2.2.1, h3.2.2.2.1, ?_⟩
            · rw [u2_a _ _ _ _ (by decide), u2_a _ _ _ _ (by decide), u2_a _ _ _ _ (by decide)]; exact h3.1
            · rw [u2_a _ _ _ _ (by decide), u2_a _ _ _ _ (by decide), u2_a _ _ _ _ (by decide)]; exact h3.2.1
            · rw [u2_a _ _ _ _ (by decide), u2_a _ _ _ _ (by decide), u2_a _ _ _ _ (by decide)]; exact h3.2.2.2.2
          have hn : n < m := by
            refine TkC_lt h3 ?_
            rw [e5]
            rcases hk with hk | hk <;> rw [hk] <;> decide
          have hF : fr aOpk I (u2 (u2 (u2 I' 11 5 (ii (dp + 1))) 12 w.length (I 5 n)) 11 4 (ii (w.length + 1))) := fr_u _ (fr_u _ (fr_u _ h2 (Or.inr (Or.inr ⟨rfl, Or.inr rfl⟩))) (Or.inr (Or.inl rfl))) (Or.inr (Or.inr ⟨rfl, Or.inl rfl⟩))
          have hD : (u2 (u2 (u2 I' 11 5 (ii (dp + 1))) 12 w.length (I 5 n)) 11 4 (ii (w.length + 1))) 11 5 = ii (dp + 1) := by
            rw [u2_k _ _ _ _ (by decide), u2_a _ _ _ _ (by decide), u2_e]
          refine b_X6k_takeOpeners_56 hL (s_X9_step hL hT hn (b_X6k_takeOpeners_63 ?_))
          rw [ii_add1]
          refine ih (i + 1) _ _ (n + 1) (dp + 1) (I 5 n :: w) (by omega) (fr_u _ hF (Or.inl ⟨rfl, rfl⟩)) (TkC_st hT hn) ?_ (by rw [List.length_cons]; omega) ?_ (by omega) k
          · refine ⟨by rw [u2_a _ _ _ _ (by decide)]; exact hW.1, fun j x hx => ?_⟩
            rw [u2_a _ _ _ _ (by decide)]; exact hW.2 j x hx
          · rw [u2_a _ _ _ _ (by decide)]; exact hD
        · rw [h6] at z
          have z' : ¬ dp < 10 := fun q => z ((ii_lt (m := 10) (by omega) (by omega)).2 q)
          rw [if_pos (by omega)] at k
          exact b_X6k_takeOpeners_39 (k I' h2 h3 h4 h6)
      refine b_X6k_takeOpeners_15 (fun z => hgo (Or.inl z)) (fun z => ?_)
      refine b_X6k_takeOpeners_22 (fun z2 => hgo (Or.inr z2)) (fun z2 => b_X6k_takeOpeners_28 ?_)
      rw [if_neg (fun q => q.elim z z2)] at k
      exact k I' h2 h3 h4 h6
  exact main 11 0 _ I n dp w rfl (fr_refl _ _) h hw hw2 hd hd2 k
