/-! ===== P2: setFree of both readers (by wip/whole/gen/gen271.py) ===== -/
def strg (x : Int32) : Nat := if x = 33 then 4 else if x = 38 then 3 else if x = 94 then 2 else if x = 124 then 1 else 0
theorem strg_lt (x : Int32) : strg x < 5 := by unfold strg; split <;> (try omega); split <;> (try omega); split <;> (try omega); split <;> omega
theorem s_X6_strengthOf {xs : Nat → Int32} {L d : Nat} {S : Nat → Shp} {I : Nat → Nat → Int32} {J : Nat → Nat → Int64} {R : Nat → Nat → Nat} {c : Nat × Nat} {Q : Option (Option Value) → MH → Prop} {x0 : Int32} (k : Q (some (some (.int (ii (strg x0))))) (S, I, J, R, c)) : X xs L d 69 0 [.int x0] [] (S, I, J, R, c) Q := by
  unfold strg at k
  by_cases h1 : x0 = 33
  · rw [if_pos h1] at k
    exact b_X6_strengthOf_0 (tgt := 50) (xnB_lk rfl (by rw [h1]; rfl)) (b_X6_strengthOf_50 k)
  rw [if_neg h1] at k
  by_cases h2 : x0 = 38
  · rw [if_pos h2] at k
    exact b_X6_strengthOf_0 (tgt := 48) (xnB_lk rfl (by rw [h2]; rfl)) (b_X6_strengthOf_48 k)
  rw [if_neg h2] at k
  by_cases h3 : x0 = 94
  · rw [if_pos h3] at k
    exact b_X6_strengthOf_0 (tgt := 46) (xnB_lk rfl (by rw [h3]; rfl)) (b_X6_strengthOf_46 k)
  rw [if_neg h3] at k
  by_cases h4 : x0 = 124
  · rw [if_pos h4] at k
    exact b_X6_strengthOf_0 (tgt := 44) (xnB_lk rfl (by rw [h4]; rfl)) (b_X6_strengthOf_44 k)
  rw [if_neg h4] at k
  refine b_X6_strengthOf_0 (tgt := 52) (xnB_lk rfl ?_) (b_X6_strengthOf_52 k)
  show tg 1 (Op.lookupswitch.offset [(33, 49), (38, 47), (94, 45), (124, 43)] 51 x0.toInt) = some 52
  simp only [Op.lookupswitch.offset_cons, Op.lookupswitch.offset_nil]
  rw [if_neg (show ¬ (33 : Int) = x0.toInt from ne_int h1), if_neg (show ¬ (38 : Int) = x0.toInt from ne_int h2), if_neg (show ¬ (94 : Int) = x0.toInt from ne_int h3), if_neg (show ¬ (124 : Int) = x0.toInt from ne_int h4)]
  rfl
/-- the code's steps -/
def CdL (I : Nat → Nat → Int32) (r : Nat) (l : List Int32) : Prop := I r 1 = ii l.length ∧ ∀ i x, l[i]? = some x → I (r + 1) i = x
/-- the signs that wait, the last one first -/
def WL (I : Nat → Nat → Int32) (a w : Nat) (l : List Int32) : Prop := I a 4 = ii l.length ∧ ∀ i x, l.reverse[i]? = some x → I w i = x
/-- what is set free from s on: what waits still, the depth, the steps -/
def fre (s : Nat) : List Int32 → Nat → List Int32 × Nat × List Int32
  | [], dp => ([], dp, [])
  | a :: w, dp => if s ≤ strg a then ((fre s w (if a = 33 then dp - 1 else dp)).1, (fre s w (if a = 33 then dp - 1 else dp)).2.1, -a :: (fre s w (if a = 33 then dp - 1 else dp)).2.2) else (a :: w, dp, [])
/-- how many of them are deep -/
def dps (l : List Int32) : Nat := (l.filter (fun a => a == 33 || a == 40)).length
theorem CdL_add {I : Nat → Nat → Int32} {r n : Nat} {l : List Int32} {x : Int32} (h : CdL I r l) (hn : n = l.length) : CdL (u2 (u2 I (r + 1) n x) r 1 (ii (n + 1))) r (l ++ [x]) := by
  refine ⟨by rw [u2_e, List.length_append, hn]; rfl, fun i y hy => ?_⟩
  rw [List.getElem?_append] at hy
  rw [u2_a _ _ _ _ (by omega)]
  split at hy
  · rename_i hi
    rw [u2_k _ _ _ _ (by omega)]; exact h.2 i y hy
  · rename_i hi
    have h2 : i - l.length = 0 := by
      by_cases q : i - l.length = 0
      · exact q
      · rw [List.getElem?_cons, if_neg q] at hy; simp at hy
    have h3 : i = n := by omega
    rw [h2] at hy
    have : x = y := by simpa using hy
    rw [h3, u2_e, this]
theorem WL_push {I : Nat → Nat → Int32} {a w n : Nat} {l : List Int32} {x : Int32} (haw : a ≠ w) (h : WL I a w l) (hn : n = l.length) : WL (u2 (u2 I w n x) a 4 (ii (n + 1))) a w (x :: l) := by
  refine ⟨by rw [u2_e, List.length_cons, hn], fun i y hy => ?_⟩
  rw [List.reverse_cons, List.getElem?_append] at hy
  rw [u2_a _ _ _ _ haw.symm]
  split at hy
  · rename_i hi
    rw [List.length_reverse] at hi
    rw [u2_k _ _ _ _ (by omega)]; exact h.2 i y hy
  · rename_i hi
    rw [List.length_reverse] at hi hy
    have h2 : i - l.length = 0 := by
      by_cases q : i - l.length = 0
      · exact q
      · rw [List.getElem?_cons, if_neg q] at hy; simp at hy
    have h3 : i = n := by omega
    rw [h2] at hy
    have : x = y := by simpa using hy
    rw [h3, u2_e, this]
theorem WL_top {I : Nat → Nat → Int32} {a w : Nat} {l : List Int32} {x : Int32} (h : WL I a w (x :: l)) : I w l.length = x := by
  refine h.2 l.length x ?_
  rw [List.reverse_cons, List.getElem?_append, if_neg (by simp), List.length_reverse, Nat.sub_self]; rfl
theorem WL_pop {I : Nat → Nat → Int32} {a w : Nat} {l : List Int32} {x : Int32} (haw : w ≠ a) (h : WL I a w (x :: l)) : WL (u2 I a 4 (ii l.length)) a w l := by
  refine ⟨u2_e _ _ _ _, fun i y hy => ?_⟩
  rw [u2_a _ _ _ _ haw]
  refine h.2 i y ?_
  rw [List.reverse_cons, List.getElem?_append, if_pos]
  · exact hy
  · rcases Nat.lt_or_ge i l.reverse.length with q | q
    · exact q
    · rw [List.getElem?_eq_none q] at hy; cases hy
def aSfc (r : Nat) (a k : Nat) : Prop := a = r + 1 ∨ (a = r ∧ k = 1) ∨ (a = 8 ∧ (k = 4 ∨ k = 5))
theorem s_X6c_setFree {xs : Nat → Int32} {L d : Nat} {S : Nat → Shp} {I : Nat → Nat → Int32} {J : Nat → Nat → Int64} {R : Nat → Nat → Nat} {c : Nat × Nat} {Q : Option (Option Value) → MH → Prop} {r s dp : Nat} {w l : List Int32} (hL : Lay S R) (hr : R 8 1 = r) (hc : LyCd S R r) (hr2 : 12 < r) (hs : s < 5) (hw : WL I 8 9 w) (hw2 : w.length ≤ 64) (hl : CdL I r l) (hl2 : l.length + w.length ≤ 2000) (hd : I 8 5 = ii dp) (hd2 : dps w ≤ dp) (hd3 : dp < 100) (k : ∀ I', fr (aSfc r) I I' → WL I' 8 9 (fre s w dp).1 → CdL I' r (l ++ (fre s w dp).2.2) → I' 8 5 = ii (fre s w dp).2.1 → Q (some none) (S, I', J, R, c)) : X xs L (d + 1) 68 0 [.ref 8, .int (ii s)] [] (S, I, J, R, c) Q := by
  have main : ∀ (w : List Int32) (I' : Nat → Nat → Int32) (l : List Int32) (dp : Nat), fr (aSfc r) I I' → WL I' 8 9 w → w.length ≤ 64 → CdL I' r l → l.length + w.length ≤ 2000 → I' 8 5 = ii dp → dps w ≤ dp → (∀ I', fr (aSfc r) I I' → WL I' 8 9 (fre s w dp).1 → CdL I' r (l ++ (fre s w dp).2.2) → I' 8 5 = ii (fre s w dp).2.1 → Q (some none) (S, I', J, R, c)) → X xs L (d + 1) 68 0 [.ref 8, .int (ii s)] [] (S, I', J, R, c) Q := by
    intro w
    induction w with
    | nil =>
      intro I' l dp h1 h2 h3 h4 h5 h6 h7 k
      refine b_X6c_setFree_0 hL (fun _ => b_X6c_setFree_79 (k I' h1 h2 ?_ h6)) (fun z => ?_)
      · rw [show (fre s [] dp).2.2 = [] from rfl, List.append_nil]; exact h4
      · rw [h2.1] at z; exact absurd (Int32.le_refl _) z
    | cons a w ih =>
      intro I' l dp h1 h2 h3 h4 h5 h6 h7 k
      rw [List.length_cons] at h3 h5
      have e4 : I' 8 4 - 1 = ii w.length := by rw [h2.1, List.length_cons, ii_one, ii_sub (by omega)]; rfl
      have e4n : (I' 8 4 - 1).toNatClampNeg = w.length := by rw [e4, ii_nat (by omega)]
      have hb : inb (I' 8 4 - 1) 64 = true := by rw [e4]; exact ii_inb (by omega) (by omega)
      refine b_X6c_setFree_0 hL (fun z => ?_) (fun _ => ?_)
      · rw [h2.1, ii_zero, ii_le (by rw [List.length_cons]; omega) (by omega), List.length_cons] at z; omega
      refine b_X6c_setFree_7 hL hb (s_X6_strengthOf ?_)
      rw [e4n, WL_top h2]
      have hsa := strg_lt a
      refine b_X6c_setFree_21 (fun z => b_X6c_setFree_79 ?_) (fun z => ?_)
      · rw [ii_lt (by omega) (by omega)] at z
        rw [fre, if_neg (by omega)] at k
        exact k I' h1 h2 (by rw [List.append_nil]; exact h4) h6
      rw [ii_lt (by omega) (by omega)] at z
      rw [fre, if_pos (by omega)] at k
      refine b_X6c_setFree_25 hL hr hb hc ?_
      rw [e4n, WL_top h2, e4]
      have hq : (u2 I' 8 4 (ii w.length)) r 1 = ii l.length := by rw [u2_a _ _ _ _ (by omega)]; exact h4.1
      refine s_X5_add (n := l.length) hc hq (by omega) ?_
      have hC : CdL (u2 (u2 (u2 I' 8 4 (ii w.length)) (r + 1) l.length (-a)) r 1 (ii (l.length + 1))) r (l ++ [-a]) := by
        refine CdL_add ⟨hq, fun i x hx => ?_⟩ rfl
        rw [u2_a _ _ _ _ (by omega)]; exact h4.2 i x hx
      have hW : WL (u2 (u2 (u2 I' 8 4 (ii w.length)) (r + 1) l.length (-a)) r 1 (ii (l.length + 1))) 8 9 w := by
        have := WL_pop (by decide) h2
        refine ⟨?_, fun i x hx => ?_⟩
        · rw [u2_a _ _ _ _ (by omega), u2_a _ _ _ _ (by omega)]; exact this.1
        · rw [u2_a _ _ _ _ (by omega), u2_a _ _ _ _ (by omega)]; exact this.2 i x hx
      have hF : fr (aSfc r) I (u2 (u2 (u2 I' 8 4 (ii w.length)) (r + 1) l.length (-a)) r 1 (ii (l.length + 1))) := fr_u _ (fr_u _ (fr_u _ h1 (Or.inr (Or.inr ⟨rfl, Or.inl rfl⟩))) (Or.inl rfl)) (Or.inr (Or.inl ⟨rfl, rfl⟩))
      have hWt : (u2 (u2 (u2 I' 8 4 (ii w.length)) (r + 1) l.length (-a)) r 1 (ii (l.length + 1))) 9 w.length = a := by
        rw [u2_a _ _ _ _ (by omega), u2_a _ _ _ _ (by omega), u2_a _ _ _ _ (by decide)]; exact WL_top h2
      have hD : (u2 (u2 (u2 I' 8 4 (ii w.length)) (r + 1) l.length (-a)) r 1 (ii (l.length + 1))) 8 5 = ii dp := by
        rw [u2_a _ _ _ _ (by omega), u2_a _ _ _ _ (by omega), u2_k _ _ _ _ (by decide)]; exact h6
      generalize (u2 (u2 (u2 I' 8 4 (ii w.length)) (r + 1) l.length (-a)) r 1 (ii (l.length + 1))) = I2 at hC hW hF hWt hD ⊢
      have e5 : (I2 8 4).toNatClampNeg = w.length := by rw [hW.1, ii_nat (by omega)]
      refine b_X6c_setFree_52 hL (by rw [hW.1]; exact ii_inb (by omega) (by omega)) (fun z2 => ?_) (fun z2 => ?_)
      · rw [e5, hWt] at z2
        rw [if_neg z2] at k
        refine ih I2 (l ++ [-a]) dp hF hW (by omega) hC (by rw [List.length_append, List.length_singleton]; omega) hD ?_ ?_
        · have : dps w ≤ dps (a :: w) := by unfold dps; rw [List.filter_cons]; split <;> simp
          omega
        · intro I3 g1 g2 g3 g4
          refine k I3 g1 g2 ?_ g4
          rw [List.append_assoc] at g3; exact g3
      · rw [e5, hWt] at z2
        have z3 := Classical.not_not.1 z2
        rw [if_pos z3] at k
        have h8 : dps (a :: w) = dps w + 1 := by unfold dps; rw [List.filter_cons, if_pos (by rw [z3]; decide), List.length_cons]
        refine b_X6c_setFree_66 hL ?_
        rw [hD, ii_one, ii_sub (by omega)]
        refine ih _ (l ++ [-a]) (dp - 1) (fr_u _ hF (Or.inr (Or.inr ⟨rfl, Or.inr rfl⟩))) ?_ (by omega) ?_ (by rw [List.length_append, List.length_singleton]; omega) (u2_e _ _ _ _) (by omega) ?_
        · refine ⟨?_, fun i x hx => ?_⟩
          · rw [u2_k _ _ _ _ (by decide)]; exact hW.1
          · rw [u2_a _ _ _ _ (by decide)]; exact hW.2 i x hx
        · refine ⟨?_, fun i x hx => ?_⟩
          · rw [u2_a _ _ _ _ (by omega)]; exact hC.1
          · rw [u2_a _ _ _ _ (by omega)]; exact hC.2 i x hx
        · intro I3 g1 g2 g3 g4
          refine k I3 g1 g2 ?_ g4
          rw [List.append_assoc] at g3; exact g3
  exact main w I l dp (fr_refl _ _) hw hw2 hl hl2 hd hd2 k
def aSfk (r : Nat) (a k : Nat) : Prop := a = r + 1 ∨ (a = r ∧ k = 1) ∨ (a = 11 ∧ (k = 4 ∨ k = 5))
theorem s_X6k_setFree {xs : Nat → Int32} {L d : Nat} {S : Nat → Shp} {I : Nat → Nat → Int32} {J : Nat → Nat → Int64} {R : Nat → Nat → Nat} {c : Nat × Nat} {Q : Option (Option Value) → MH → Prop} {r s dp : Nat} {w l : List Int32} (hL : Lay S R) (hr : R 11 1 = r) (hc : LyCd S R r) (hr2 : 12 < r) (hs : s < 5) (hw : WL I 11 12 w) (hw2 : w.length ≤ 64) (hl : CdL I r l) (hl2 : l.length + w.length ≤ 2000) (hd : I 11 5 = ii dp) (hd2 : dps w ≤ dp) (hd3 : dp < 100) (k : ∀ I', fr (aSfk r) I I' → WL I' 11 12 (fre s w dp).1 → CdL I' r (l ++ (fre s w dp).2.2) → I' 11 5 = ii (fre s w dp).2.1 → Q (some none) (S, I', J, R, c)) : X xs L (d + 1) 68 0 [.ref 11, .int (ii s)] [] (S, I, J, R, c) Q := by
  have main : ∀ (w : List Int32) (I' : Nat → Nat → Int32) (l : List Int32) (dp : Nat), fr (aSfk r) I I' → WL I' 11 12 w → w.length ≤ 64 → CdL I' r l → l.length + w.length ≤ 2000 → I' 11 5 = ii dp → dps w ≤ dp → (∀ I', fr (aSfk r) I I' → WL I' 11 12 (fre s w dp).1 → CdL I' r (l ++ (fre s w dp).2.2) → I' 11 5 = ii (fre s w dp).2.1 → Q (some none) (S, I', J, R, c)) → X xs L (d + 1) 68 0 [.ref 11, .int (ii s)] [] (S, I', J, R, c) Q := by
    intro w
    induction w with
    | nil =>
      intro I' l dp h1 h2 h3 h4 h5 h6 h7 k
      refine b_X6k_setFree_0 hL (fun _ => b_X6k_setFree_79 (k I' h1 h2 ?_ h6)) (fun z => ?_)
      · rw [show (fre s [] dp).2.2 = [] from rfl, List.append_nil]; exact h4
      · rw [h2.1] at z; exact absurd (Int32.le_refl _) z
    | cons a w ih =>
      intro I' l dp h1 h2 h3 h4 h5 h6 h7 k
      rw [List.length_cons] at h3 h5
      have e4 : I' 11 4 - 1 = ii w.length := by rw [h2.1, List.length_cons, ii_one, ii_sub (by omega)]; rfl
      have e4n : (I' 11 4 - 1).toNatClampNeg = w.length := by rw [e4, ii_nat (by omega)]
      have hb : inb (I' 11 4 - 1) 64 = true := by rw [e4]; exact ii_inb (by omega) (by omega)
      refine b_X6k_setFree_0 hL (fun z => ?_) (fun _ => ?_)
      · rw [h2.1, ii_zero, ii_le (by rw [List.length_cons]; omega) (by omega), List.length_cons] at z; omega
      refine b_X6k_setFree_7 hL hb (s_X6_strengthOf ?_)
      rw [e4n, WL_top h2]
      have hsa := strg_lt a
      refine b_X6k_setFree_21 (fun z => b_X6k_setFree_79 ?_) (fun z => ?_)
      · rw [ii_lt (by omega) (by omega)] at z
        rw [fre, if_neg (by omega)] at k
        exact k I' h1 h2 (by rw [List.append_nil]; exact h4) h6
      rw [ii_lt (by omega) (by omega)] at z
      rw [fre, if_pos (by omega)] at k
      refine b_X6k_setFree_25 hL hr hb hc ?_
      rw [e4n, WL_top h2, e4]
      have hq : (u2 I' 11 4 (ii w.length)) r 1 = ii l.length := by rw [u2_a _ _ _ _ (by omega)]; exact h4.1
      refine s_X5_add (n := l.length) hc hq (by omega) ?_
      have hC : CdL (u2 (u2 (u2 I' 11 4 (ii w.length)) (r + 1) l.length (-a)) r 1 (ii (l.length + 1))) r (l ++ [-a]) := by
        refine CdL_add ⟨hq, fun i x hx => ?_⟩ rfl
        rw [u2_a _ _ _ _ (by omega)]; exact h4.2 i x hx
      have hW : WL (u2 (u2 (u2 I' 11 4 (ii w.length)) (r + 1) l.length (-a)) r 1 (ii (l.length + 1))) 11 12 w := by
        have := WL_pop (by decide) h2
        refine ⟨?_, fun i x hx => ?_⟩
        · rw [u2_a _ _ _ _ (by omega), u2_a _ _ _ _ (by omega)]; exact this.1
        · rw [u2_a _ _ _ _ (by omega), u2_a _ _ _ _ (by omega)]; exact this.2 i x hx
      have hF : fr (aSfk r) I (u2 (u2 (u2 I' 11 4 (ii w.length)) (r + 1) l.length (-a)) r 1 (ii (l.length + 1))) := fr_u _ (fr_u _ (fr_u _ h1 (Or.inr (Or.inr ⟨rfl, Or.inl rfl⟩))) (Or.inl rfl)) (Or.inr (Or.inl ⟨rfl, rfl⟩))
      have hWt : (u2 (u2 (u2 I' 11 4 (ii w.length)) (r + 1) l.length (-a)) r 1 (ii (l.length + 1))) 12 w.length = a := by
        rw [u2_a _ _ _ _ (by omega), u2_a _ _ _ _ (by omega), u2_a _ _ _ _ (by decide)]; exact WL_top h2
      have hD : (u2 (u2 (u2 I' 11 4 (ii w.length)) (r + 1) l.length (-a)) r 1 (ii (l.length + 1))) 11 5 = ii dp := by
        rw [u2_a _ _ _ _ (by omega), u2_a _ _ _ _ (by omega), u2_k _ _ _ _ (by decide)]; exact h6
      generalize (u2 (u2 (u2 I' 11 4 (ii w.length)) (r + 1) l.length (-a)) r 1 (ii (l.length + 1))) = I2 at hC hW hF hWt hD ⊢
      have e5 : (I2 11 4).toNatClampNeg = w.length := by rw [hW.1, ii_nat (by omega)]
      refine b_X6k_setFree_52 hL (by rw [hW.1]; exact ii_inb (by omega) (by omega)) (fun z2 => ?_) (fun z2 => ?_)
      · rw [e5, hWt] at z2
        rw [if_neg z2] at k
        refine ih I2 (l ++ [-a]) dp hF hW (by omega) hC (by rw [List.length_append, List.length_singleton]; omega) hD ?_ ?_
        · have : dps w ≤ dps (a :: w) := by unfold dps; rw [List.filter_cons]; split <;> simp
          omega
        · intro I3 g1 g2 g3 g4
          refine k I3 g1 g2 ?_ g4
          rw [List.append_assoc] at g3; exact g3
      · rw [e5, hWt] at z2
        have z3 := Classical.not_not.1 z2
        rw [if_pos z3] at k
        have h8 : dps (a :: w) = dps w + 1 := by unfold dps; rw [List.filter_cons, if_pos (by rw [z3]; decide), List.length_cons]
        refine b_X6k_setFree_66 hL ?_
        rw [hD, ii_one, ii_sub (by omega)]
        refine ih _ (l ++ [-a]) (dp - 1) (fr_u _ hF (Or.inr (Or.inr ⟨rfl, Or.inr rfl⟩))) ?_ (by omega) ?_ (by rw [List.length_append, List.length_singleton]; omega) (u2_e _ _ _ _) (by omega) ?_
        · refine ⟨?_, fun i x hx => ?_⟩
          · rw [u2_k _ _ _ _ (by decide)]; exact hW.1
          · rw [u2_a _ _ _ _ (by decide)]; exact hW.2 i x hx
        · refine ⟨?_, fun i x hx => ?_⟩
          · rw [u2_a _ _ _ _ (by omega)]; exact hC.1
          · rw [u2_a _ _ _ _ (by omega)]; exact hC.2 i x hx
        · intro I3 g1 g2 g3 g4
          refine k I3 g1 g2 ?_ g4
          rw [List.append_assoc] at g3; exact g3
  exact main w I l dp (fr_refl _ _) hw hw2 hl hl2 hd hd2 k
