/-! ===== P2: takeClosers of both readers (by wip/whole/gen/gen274.py) ===== -/
def aClc (r : Nat) (a k : Nat) : Prop := (a = 4 ∧ k = 5) ∨ a = r + 1 ∨ (a = r ∧ k = 1) ∨ (a = 8 ∧ (k = 4 ∨ k = 5))
theorem s_X6c_takeClosers {xs : Nat → Int32} {L d : Nat} {S : Nat → Shp} {I : Nat → Nat → Int32} {J : Nat → Nat → Int64} {R : Nat → Nat → Nat} {c : Nat × Nat} {Q : Option (Option Value) → MH → Prop} {r n m dp : Nat} {w l : List Int32} (hL : Lay S R) (hr : R 8 1 = r) (hc : LyCd S R r) (hr2 : 12 < r) (h : TkC I n m) (hw : WL I 8 9 w) (hw2 : w.length ≤ 64) (hw3 : ∀ x ∈ w, sgw x) (hl : CdL I r l) (hl2 : l.length + w.length ≤ 2000) (hd : I 8 5 = ii dp) (hd2 : dps w ≤ dp) (hd3 : dp < 100) (k : ∀ I', fr (aClc r) I I' → TkC I' (cls (I 5) 10 n w dp).1 m → WL I' 8 9 (cls (I 5) 10 n w dp).2.1 → I' 8 5 = ii (cls (I 5) 10 n w dp).2.2.1 → CdL I' r (l ++ (cls (I 5) 10 n w dp).2.2.2) → Q (some none) (S, I', J, R, c)) : X xs L (d + 2) 66 0 [.ref 8, .null] [] (S, I, J, R, c) Q := by
  refine b_X6c_takeClosers_0 ?_
  have main : ∀ (f i : Nat) (I' : Nat → Nat → Int32) (n dp : Nat) (w l : List Int32), f + i = 10 → fr (aClc r) I I' → TkC I' n m → WL I' 8 9 w → w.length ≤ 64 → (∀ x ∈ w, sgw x) → CdL I' r l → l.length + w.length ≤ 2000 → I' 8 5 = ii dp → dps w ≤ dp → dp < 100 → (∀ I', fr (aClc r) I I' → TkC I' (cls (I 5) f n w dp).1 m → WL I' 8 9 (cls (I 5) f n w dp).2.1 → I' 8 5 = ii (cls (I 5) f n w dp).2.2.1 → CdL I' r (l ++ (cls (I 5) f n w dp).2.2.2) → Q (some none) (S, I', J, R, c)) → X xs L (d + 2) 66 2 [.ref 8, .int (ii i)] [] (S, I', J, R, c) Q := by
    intro f
    induction f with
    | zero =>
      intro i I' n dp w l h1 h2 h3 h4 h5 h6 h7 h8 h9 h10 h11 k
      refine b_X6c_takeClosers_2 (fun _ => b_X6c_takeClosers_66 (k I' h2 h3 h4 h9 (by rw [show (cls (I 5) 0 n w dp).2.2.2 = [] from rfl, List.append_nil]; exact h7))) (fun z => ?_)
      exact absurd ((ii_le (n := 10) (by omega) (by omega)).2 (by omega)) z
    | succ f ih =>
      intro i I' n dp w l h1 h2 h3 h4 h5 h6 h7 h8 h9 h10 h11 k
      refine b_X6c_takeClosers_2 (fun z => ?_) (fun _ => ?_)
      · have := (ii_le (n := 10) (by omega) (by omega)).1 z; omega
      have e5 : I' 5 = I 5 := fr_row h2 5 (by intro k; unfold aClc; omega)
      refine b_X6c_takeClosers_8 hL (s_X9_kind hL (TkC_in h3) ?_)
      have e : f_X9_kind I' = I 5 n := by unfold f_X9_kind; rw [TkC_nat h3, e5]
      rw [e]
      rw [cls] at k
      refine b_X6c_takeClosers_15 (fun z => ?_) (fun z => ?_)
      · rw [if_neg z] at k
        exact b_X6c_takeClosers_66 (k I' h2 h3 h4 h9 (by rw [List.append_nil]; exact h7))
      have z' := Classical.not_not.1 z
      rw [if_pos z'] at k
      have hn : n < m := by
        refine TkC_lt h3 ?_
        rw [e5, z']; decide
      refine b_X6c_takeClosers_20 hL ?_
      refine s_X6c_setFree (s := 1) (dp := dp) hL hr hc hr2 (by omega) h4 h5 h7 h8 h9 h10 h11 ?_
      intro I2 g1 g2 g3 g4
      have hF : fr (aClc r) I I2 := fr_trans h2 (fr_sub g1 (by intro a k; unfold aSfc aClc; omega))
      have hT : TkC I2 n m := by
        refine ⟨?_, ?_, h3.2.2.1, h3.2.2.2.1, ?_⟩
        · rw [g1 4 5 (by unfold aSfc; omega)]; exact h3.1
        · rw [g1 4 4 (by unfold aSfc; omega)]; exact h3.2.1
        · rw [g1 5 m (by unfold aSfc; omega)]; exact h3.2.2.2.2
      have hfl := fre_len 1 w dp
      have hfd := fre_dps 1 w dp h10
      have hfm := fre_mem 1 w dp
      have hfh := fre_hd 1 w dp
      generalize fre 1 w dp = F at k g2 g3 g4 hfl hfd hfm hfh
      obtain ⟨w1, dp1, o1⟩ := F
      simp only at k g2 g3 g4 hfl hfd hfm hfh
      cases w1 with
      | nil =>
        rw [if_pos rfl] at k
        refine b_X6c_takeClosers_25 hL (fun z2 => absurd (by rw [g2.1]; rfl) z2) (fun _ => b_X6c_takeClosers_32 ?_)
        exact k I2 hF hT g2 g4 g3
      | cons a w2 =>
        rw [if_neg (by simp)] at k
        have ha : a = 40 := sgw_0 (h6 a (hfm a (List.mem_cons_self ..))) (hfh a w2 rfl)
        have hd1 : dps (a :: w2) = 1 + dps w2 := by rw [dps_cons, if_pos (Or.inr ha)]
        rw [List.length_cons] at hfl
        refine b_X6c_takeClosers_25 hL (fun _ => ?_) (fun z2 => ?_)
        rotate_left
        · exact absurd (by rw [g2.1, ii_zero, ii_inj (by rw [List.length_cons]; omega) (by omega), List.length_cons]; omega) z2
        refine b_X6c_takeClosers_33 hL ?_
        have e4 : I2 8 4 - 1 = ii w2.length := by rw [g2.1, List.length_cons, ii_one, ii_sub (by omega)]; rfl
        rw [e4, g4, ii_one, ii_sub (by omega)]
        have hW := WL_pop (by decide) g2
        have hT2 : TkC (u2 (u2 I2 8 4 (ii w2.length)) 8 5 (ii (dp1 - 1))) n m := by
          refine ⟨?_, ?_, h3.2.2.1, h3.2.2.2.1, ?_⟩
          · rw [u2_a _ _ _ _ (by decide), u2_a _ _ _ _ (by decide)]; exact hT.1
          · rw [u2_a _ _ _ _ (by decide), u2_a _ _ _ _ (by decide)]; exact hT.2.1
          · rw [u2_a _ _ _ _ (by decide), u2_a _ _ _ _ (by decide)]; exact hT.2.2.2.2
        refine s_X9_step hL hT2 hn (b_X6c_takeClosers_60 ?_)
        rw [ii_add1]
        refine ih (i + 1) _ (n + 1) (dp1 - 1) w2 (l ++ o1) (by omega) (fr_u _ (fr_u _ (fr_u _ hF (Or.inr (Or.inr (Or.inr ⟨rfl, Or.inl rfl⟩)))) (Or.inr (Or.inr (Or.inr ⟨rfl, Or.inr rfl⟩)))) (Or.inl ⟨rfl, rfl⟩)) (TkC_st hT2 hn) ?_ (by omega) (fun x hx => h6 x (hfm x (List.mem_cons_of_mem _ hx))) ?_ (by rw [List.length_append]; omega) ?_ (by omega) (by omega) ?_
        · refine ⟨by rw [u2_a _ _ _ _ (by decide), u2_k _ _ _ _ (by decide)]; exact hW.1, fun j x hx => ?_⟩
          rw [u2_a _ _ _ _ (by decide), u2_a _ _ _ _ (by decide)]; exact hW.2 j x hx
        · refine ⟨by rw [u2_a _ _ _ _ (by omega), u2_a _ _ _ _ (by omega), u2_a _ _ _ _ (by omega)]; exact g3.1, fun j x hx => ?_⟩
          rw [u2_a _ _ _ _ (by omega), u2_a _ _ _ _ (by omega), u2_a _ _ _ _ (by omega)]; exact g3.2 j x hx
        · rw [u2_a _ _ _ _ (by decide), u2_e]
        · intro I3 q1 q2 q3 q4 q5
          refine k I3 q1 q2 q3 q4 ?_
          rw [List.append_assoc] at q5; exact q5
  exact main 10 0 I n dp w l rfl (fr_refl _ _) h hw hw2 hw3 hl hl2 hd hd2 hd3 k
def aClk (r : Nat) (a k : Nat) : Prop := (a = 4 ∧ k = 5) ∨ a = r + 1 ∨ (a = r ∧ k = 1) ∨ (a = 11 ∧ (k = 4 ∨ k = 5))
theorem s_X6k_takeClosers {xs : Nat → Int32} {L d : Nat} {S : Nat → Shp} {I : Nat → Nat → Int32} {J : Nat → Nat → Int64} {R : Nat → Nat → Nat} {c : Nat × Nat} {Q : Option (Option Value) → MH → Prop} {r n m dp : Nat} {w l : List Int32} (hL : Lay S R) (hr : R 11 1 = r) (hc : LyCd S R r) (hr2 : 12 < r) (h : TkC I n m) (hw : WL I 11 12 w) (hw2 : w.length ≤ 64) (hw3 : ∀ x ∈ w, sgw x) (hl : CdL I r l) (hl2 : l.length + w.length ≤ 2000) (hd : I 11 5 = ii dp) (hd2 : dps w ≤ dp) (hd3 : dp < 100) (k : ∀ I', fr (aClk r) I I' → TkC I' (cls (I 5) 10 n w dp).1 m → WL I' 11 12 (cls (I 5) 10 n w dp).2.1 → I' 11 5 = ii (cls (I 5) 10 n w dp).2.2.1 → CdL I' r (l ++ (cls (I 5) 10 n w dp).2.2.2) → Q (some none) (S, I', J, R, c)) : X xs L (d + 2) 66 0 [.ref 11, .null] [] (S, I, J, R, c) Q := by
  refine b_X6k_takeClosers_0 ?_
  have main : ∀ (f i : Nat) (I' : Nat → Nat → Int32) (n dp : Nat) (w l : List Int32), f + i = 10 → fr (aClk r) I I' → TkC I' n m → WL I' 11 12 w → w.length ≤ 64 → (∀ x ∈ w, sgw x) → CdL I' r l → l.length + w.length ≤ 2000 → I' 11 5 = ii dp → dps w ≤ dp → dp < 100 → (∀ I', fr (aClk r) I I' → TkC I' (cls (I 5) f n w dp).1 m → WL I' 11 12 (cls (I 5) f n w dp).2.1 → I' 11 5 = ii (cls (I 5) f n w dp).2.2.1 → CdL I' r (l ++ (cls (I 5) f n w dp).2.2.2) → Q (some none) (S, I', J, R, c)) → X xs L (d + 2) 66 2 [.ref 11, .int (ii i)] [] (S, I', J, R, c) Q := by
    intro f
    induction f with
    | zero =>
      intro i I' n dp w l h1 h2 h3 h4 h5 h6 h7 h8 h9 h10 h11 k
      refine b_X6k_takeClosers_2 (fun _ => b_X6k_takeClosers_66 (k I' h2 h3 h4 h9 (by rw [show (cls (I 5) 0 n w dp).2.2.2 = [] from rfl, List.append_nil]; exact h7))) (fun z => ?_)
      exact absurd ((ii_le (n := 10) (by omega) (by omega)).2 (by omega)) z
    | succ f ih =>
      intro i I' n dp w l h1 h2 h3 h4 h5 h6 h7 h8 h9 h10 h11 k
      refine b_X6k_takeClosers_2 (fun z => ?_) (fun _ => ?_)
      · have := (ii_le (n := 10) (by omega) (by omega)).1 z; omega
      have e5 : I' 5 = I 5 := fr_row h2 5 (by intro k; unfold aClk; omega)
      refine b_X6k_takeClosers_8 hL (s_X9_kind hL (TkC_in h3) ?_)
      have e : f_X9_kind I' = I 5 n := by unfold f_X9_kind; rw [TkC_nat h3, e5]
      rw [e]
      rw [cls] at k
      refine b_X6k_takeClosers_15 (fun z => ?_) (fun z => ?_)
      · rw [if_neg z] at k
        exact b_X6k_takeClosers_66 (k I' h2 h3 h4 h9 (by rw [List.append_nil]; exact h7))
      have z' := Classical.not_not.1 z
      rw [if_pos z'] at k
      have hn : n < m := by
        refine TkC_lt h3 ?_
        rw [e5, z']; decide
      refine b_X6k_takeClosers_20 hL ?_
      refine s_X6k_setFree (s := 1) (dp := dp) hL hr hc hr2 (by omega) h4 h5 h7 h8 h9 h10 h11 ?_
      intro I2 g1 g2 g3 g4
      have hF : fr (aClk r) I I2 := fr_trans h2 (fr_sub g1 (by intro a k; unfold aSfk aClk; omega))
      have hT : TkC I2 n m := by
        refine ⟨?_, ?_, h3.2.2.1, h3.2.2.2.1, ?_⟩
        · rw [g1 4 5 (by unfold aSfk; omega)]; exact h3.1
        · rw [g1 4 4 (by unfold aSfk; omega)]; exact h3.2.1
        · rw [g1 5 m (by unfold aSfk; omega)]; exact h3.2.2.2.2
      have hfl := fre_len 1 w dp
      have hfd := fre_dps 1 w dp h10
      have hfm := fre_mem 1 w dp
      have hfh := fre_hd 1 w dp
      generalize fre 1 w dp = F at k g2 g3 g4 hfl hfd hfm hfh
      obtain ⟨w1, dp1, o1⟩ := F
      simp only at k g2 g3 g4 hfl hfd hfm hfh
      cases w1 with
      | nil =>
        rw [if_pos rfl] at k
        refine b_X6k_takeClosers_25 hL (fun z2 => absurd (by rw [g2.1]; rfl) z2) (fun _ => b_X6k_takeClosers_32 ?_)
        exact k I2 hF hT g2 g4 g3
      | cons a w2 =>
        rw [if_neg (by simp)] at k
        have ha : a = 40 := sgw_0 (h6 a (hfm a (List.mem_cons_self ..))) (hfh a w2 rfl)
        have hd1 : dps (a :: w2) = 1 + dps w2 := by rw [dps_cons, if_pos (Or.inr ha)]
        rw [List.length_cons] at hfl
        refine b_X6k_takeClosers_25 hL (fun _ => ?_) (fun z2 => ?_)
        rotate_left
        · exact absurd (by rw [g2.1, ii_zero, ii_inj (by rw [List.length_cons]; omega) (by omega), List.length_cons]; omega) z2
        refine b_X6k_takeClosers_33 hL ?_
        have e4 : I2 11 4 - 1 = ii w2.length := by rw [g2.1, List.length_cons, ii_one, ii_sub (by omega)]; rfl
        rw [e4, g4, ii_one, ii_sub (by omega)]
        have hW := WL_pop (by decide) g2
        have hT2 : TkC (u2 (u2 I2 11 4 (ii w2.length)) 11 5 (ii (dp1 - 1))) n m := by
          refine ⟨?_, ?_, h3.2.2.1, h3.2.2.2.1, ?_⟩
          · rw [u2_a _ _ _ _ (by decide), u2_a _ _ _ _ (by decide)]; exact hT.1
          · rw [u2_a _ _ _ _ (by decide), u2_a _ _ _ _ (by decide)]; exact hT.2.1
          · rw [u2_a _ _ _ _ (by decide), u2_a _ _ _ _ (by decide)]; exact hT.2.2.2.2
        refine s_X9_step hL hT2 hn (b_X6k_takeClosers_60 ?_)
        rw [ii_add1]
        refine ih (i + 1) _ (n + 1) (dp1 - 1) w2 (l ++ o1) (by omega) (fr_u _ (fr_u _ (fr_u _ hF (Or.inr (Or.inr (Or.inr ⟨rfl, Or.inl rfl⟩)))) (Or.inr (Or.inr (Or.inr ⟨rfl, Or.inr rfl⟩)))) (Or.inl ⟨rfl, rfl⟩)) (TkC_st hT2 hn) ?_ (by omega) (fun x hx => h6 x (hfm x (List.mem_cons_of_mem _ hx))) ?_ (by rw [List.length_append]; omega) ?_ (by omega) (by omega) ?_
        · refine ⟨by rw [u2_a _ _ _ _ (by decide), u2_k _ _ _ _ (by decide)]; exact hW.1, fun j x hx => ?_⟩
          rw [u2_a _ _ _ _ (by decide), u2_a _ _ _ _ (by decide)]; exact hW.2 j x hx
        · refine ⟨by rw [u2_a _ _ _ _ (by omega), u2_a _ _ _ _ (by omega), u2_a _ _ _ _ (by omega)]; exact g3.1, fun j x hx => ?_⟩
          rw [u2_a _ _ _ _ (by omega), u2_a _ _ _ _ (by omega), u2_a _ _ _ _ (by omega)]; exact g3.2 j x hx
        · rw [u2_a _ _ _ _ (by decide), u2_e]
        · intro I3 q1 q2 q3 q4 q5
          refine k I3 q1 q2 q3 q4 ?_
          rw [List.append_assoc] at q5; exact q5
  exact main 10 0 I n dp w l rfl (fr_refl _ _) h hw hw2 hw3 hl hl2 hd hd2 hd3 k
