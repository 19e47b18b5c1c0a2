/-! ===== P2: takeFormula of both readers (by wip/whole/gen/gen280.py) ===== -/
theorem WL_of {I I' : Nat → Nat → Int32} {a w : Nat} {l : List Int32} (h : WL I a w l) (e1 : I' a 4 = I a 4) (e2 : I' w = I w) : WL I' a w l := ⟨by rw [e1]; exact h.1, fun i x hx => by rw [e2]; exact h.2 i x hx⟩
theorem CdL_of {I I' : Nat → Nat → Int32} {r : Nat} {l : List Int32} (h : CdL I r l) (e1 : I' r 1 = I r 1) (e2 : I' (r + 1) = I (r + 1)) : CdL I' r l := ⟨by rw [e1]; exact h.1, fun i x hx => by rw [e2]; exact h.2 i x hx⟩
theorem TkC_of {I I' : Nat → Nat → Int32} {n m : Nat} (h : TkC I n m) (e1 : I' 4 5 = I 4 5) (e2 : I' 4 4 = I 4 4) (e3 : I' 5 = I 5) : TkC I' n m := ⟨by rw [e1]; exact h.1, by rw [e2]; exact h.2.1, h.2.2.1, h.2.2.2.1, by rw [e3]; exact h.2.2.2.2⟩
theorem NL_of {J J' : Nat → Nat → Int64} {a : Nat} {l : List Int64} (h : NL J a l) (e : J' a = J a) : NL J' a l := fun i x hx => by rw [e]; exact h i x hx
def lfC (kd : Nat → Int32) (key : Nat → Int64) (n : Nat) (g : LeS) : Option (Int32 × LeS) := if g.1 < 300 then (atC kd key n).map (fun x => (x, (g.1 + 1, g.2))) else none
def lfK (kd : Nat → Int32) (key : Nat → Int64) (n : Nat) (g : LeS) : Option (Int32 × LeS) := if g.1 < 300 then (atK kd key n g.2).map (fun p => (p.1, (g.1 + 1, p.2))) else none
theorem atK_len {kd : Nat → Int32} {key : Nat → Int64} {n : Nat} {vs vs' : List Int64} {x : Int32} (h : atK kd key n vs = some (x, vs')) (hv : vs.length ≤ 9) : vs'.length ≤ 9 := by
  unfold atK at h
  split at h
  · split at h
    · cases h; exact hv
    · cases h
  · split at h
    · split at h
      · cases h; exact hv
      · split at h
        · cases h; rw [List.length_append, List.length_singleton]; omega
        · cases h
    · cases h
def aFoc (r : Nat) (a k : Nat) : Prop := (a = 4 ∧ k = 5) ∨ a = 9 ∨ (a = 8 ∧ (k = 2 ∨ k = 4 ∨ k = 5)) ∨ a = r + 1 ∨ (a = r ∧ k = 1)
theorem s_X6c_takeFormula {xs : Nat → Int32} {L d : Nat} {S : Nat → Shp} {I : Nat → Nat → Int32} {J : Nat → Nat → Int64} {R : Nat → Nat → Nat} {c : Nat × Nat} {Q : Option (Option Value) → MH → Prop} {r n m : Nat} {l : List Int32} {g : LeS} {s : Bool × Nat × List Int32 × LeS} (hL : Lay S R) (hr : R 8 1 = r) (hc : LyCd S R (r)) (hr2 : 12 < r) (h : TkC I n m) (hl : CdL I (r) l) (hl2 : l.length < n) (ha : I 8 2 = ii g.1) (ha2 : g.1 ≤ 300) (hs : sy1 (I 5) (lfC (I 5) (J 7)) m true n [] 0 l g = s) (k : ∀ I', fr (aFoc r) I I' → TkC I' s.2.1 m → n ≤ s.2.1 → (s.1 = true → CdL I' (r) s.2.2.1 ∧ I' 8 2 = ii s.2.2.2.1 ∧ s.2.2.1.length < s.2.1 ∧ s.2.2.2.1 ≤ 300) → Q (some (some (.int (if s.1 = true then 1 else 0)))) (S, I', J, R, c)) : X xs L (d + 4) 64 0 [.ref 8, .null, .null] [] (S, I, J, R, c) Q := by
  refine b_X6c_takeFormula_0 hL ?_
  have main : ∀ (f i : Nat) (v2 : Value) (I' : Nat → Nat → Int32) (n0 dp : Nat) (w l : List Int32) (g : LeS), m + 1 - n0 ≤ f → 2 * i ≤ n0 → n ≤ n0 → fr (aFoc r) I I' → TkC I' n0 m → WL I' 8 9 w → WI w dp → CdL I' (r) l → l.length + w.length < n0 → I' 8 5 = ii dp → I' 8 2 = ii g.1 → g.1 ≤ 300 → sy1 (I 5) (lfC (I 5) (J 7)) m true n0 w dp l g = s → X xs L (d + 4) 64 12 [.ref 8, .int (ii i), v2] [] (S, I', J, R, c) Q := by
    intro f
    induction f with
    | zero =>
      intro i v2 I' n0 dp w l g h1 h2 h3 h4 h5 h6 h7 h8 h9 h10 h11 h12 h13
      have := h5.2.2.1; omega
    | succ f ih =>
      intro i v2 I' n0 dp w l g h1 h2 h3 h4 h5 h6 h7 h8 h9 h10 h11 h12 h13
      have hm1 := h5.2.2.1
      have hm2 := h5.2.2.2.1
      have h0 : I 5 m = 0 := by rw [← fr_row h4 5 (by intro k; unfold aFoc; omega)]; exact h5.2.2.2.2
      have hwl := WI_len h7
      refine b_X6c_takeFormula_12 (fun z => ?_) (fun _ => ?_)
      · have := (ii_le (n := 2000) (by omega) (by omega)).1 z; omega
      have e5 : I' 5 = I 5 := fr_row h4 5 (by intro k; unfold aFoc; omega)
      refine b_X6c_takeFormula_19 hL (s_X6c_takeOpeners hL h5 h6 (by omega) h10 h7.2.2.1 ?_)
      rw [e5]
      have ho := opn_sy (lf := lfC (I 5) (J 7)) (l := l) (g := g) h0 11 n0 w dp hm1 (by omega)
      have hoi := opn_inv (kd := I 5) 11 n0 w dp h7
      rw [h13] at ho
      generalize opn (I 5) 11 n0 w dp = O at ho hoi ⊢
      obtain ⟨ok, n1, w1, dp1⟩ := O
      simp only at ho hoi ⊢
      intro I2 g1 g2 g3 g4
      have F2 : fr (aFoc r) I I2 := fr_trans h4 (fr_sub g1 (by intro a k; unfold aOpc aFoc; omega))
      have C2 : CdL I2 (r) l := CdL_of h8 (g1 _ _ (by unfold aOpc; omega)) (fr_row g1 _ (by intro k; unfold aOpc; omega))
      have A2 : I2 8 2 = ii g.1 := by rw [g1 _ _ (by unfold aOpc; omega)]; exact h11
      cases ok with
      | false =>
        rw [if_neg (by decide)] at ho
        obtain ⟨ho, ho1, -⟩ := ho
        subst ho
        refine b_X6c_takeFormula_23 (fun _ => b_X6c_takeFormula_33 ?_) (fun z => absurd rfl z)
        exact k I2 F2 g2 (by simp only; omega) (fun z => by cases z)
      | true =>
        rw [if_pos rfl] at ho
        obtain ⟨ho, ho1, ho2, ho3⟩ := ho
        have ho3 := ho3 rfl
        refine b_X6c_takeFormula_23 (fun z => by rw [if_pos rfl] at z; exact absurd z (by decide)) (fun _ => ?_)
        have e52 : I2 5 = I 5 := fr_row F2 5 (by intro k; unfold aFoc; omega)
        refine b_X6c_takeFormula_26 hL (s_X6c_takeAtom (r := r) (ats := g.1) hL hr hc hr2 g2 C2 (by omega) A2 h12 ?_ ?_)
        · rw [e52]
          intro I3 q1 q2 q3
          refine b_X6c_takeFormula_30 (fun z => absurd rfl z) (fun _ => b_X6c_takeFormula_33 ?_)
          have hq : s = (false, n1, l, g) := by
            rw [ho, sy_o ho2, if_neg ho3]
            have : lfC (I 5) (J 7) n1 g = none := by
              unfold lfC
              by_cases z : g.1 < 300
              · rw [if_pos z, q3 z]; rfl
              · rw [if_neg z]
            rw [this]
          subst hq
          exact k I3 (fr_trans F2 (fr_sub q1 (by intro a k; unfold aAtc aFoc; omega))) q2 (by simp only; omega) (fun z => by cases z)
        · rw [e52]
          intro I3 x q1 q2 q3 q4 q5 q6 q7
          refine b_X6c_takeFormula_30 (fun _ => ?_) (fun z => absurd (by decide) z)
          have hq : s = sy1 (I 5) (lfC (I 5) (J 7)) m false (n1 + 1) w1 dp1 (l ++ [x]) (g.1 + 1, g.2) := by
            rw [ho, sy_o ho2, if_neg ho3]
            have : lfC (I 5) (J 7) n1 g = some (x, (g.1 + 1, g.2)) := by
              unfold lfC
              rw [if_pos q2, q4]; rfl
            rw [this]
          have F3 : fr (aFoc r) I I3 := fr_trans F2 (fr_sub q1 (by intro a k; unfold aAtc aFoc; omega))
          have W3 : WL I3 8 9 w1 := WL_of g3 (q1 _ _ (by unfold aAtc; omega)) (fr_row q1 _ (by intro k; unfold aAtc; omega))
          have D3 : I3 8 5 = ii dp1 := by rw [q1 _ _ (by unfold aAtc; omega)]; exact g4
          have hwl1 := WI_len hoi.1
          refine b_X6c_takeFormula_35 hL ?_
          refine s_X6c_takeClosers (r := r) hL hr hc (by omega) q5 W3 (by omega) hoi.1.1 q6 (by rw [List.length_append, List.length_singleton]; omega) D3 hoi.1.2.1 (by have := hoi.1.2.2.1; omega) ?_
          have e53 : I3 5 = I 5 := fr_row F3 5 (by intro k; unfold aFoc; omega)
          rw [e53]
          have hcs := cls_sy (lf := lfC (I 5) (J 7)) (g := (g.1 + 1, g.2)) h0 10 (n1 + 1) w1 dp1 (l ++ [x]) q3 (brs_le hoi.1) hoi.1.1
          have hci := cls_inv (kd := I 5) 10 (n1 + 1) w1 dp1 hoi.1
          rw [← hq] at hcs
          generalize cls (I 5) 10 (n1 + 1) w1 dp1 = C at hcs hci ⊢
          obtain ⟨n2, w2, dp2, o2⟩ := C
          simp only at hcs hci ⊢
          intro I4 p1 p2 p3 p4 p5
          obtain ⟨hcs, -, hc2, hc3, hc4⟩ := hcs
          have F4 : fr (aFoc r) I I4 := fr_trans F3 (fr_sub p1 (by intro a k; unfold aClc aFoc; omega))
          have A4 : I4 8 2 = ii (g.1 + 1) := by rw [p1 _ _ (by unfold aClc; omega)]; exact q7
          have e54 : I4 5 = I 5 := fr_row F4 5 (by intro k; unfold aFoc; omega)
          have hln : (l ++ [x] ++ o2).length + w2.length < n2 := by
            rw [List.length_append, List.length_append, List.length_singleton]
            have := hci.2.1; have := hci.2.2; omega
          generalize l ++ [x] ++ o2 = l2 at hcs p5 hln
          have hwl2 := WI_len hci.1
          have hm2' := p2.2.2.1
          refine b_X6c_takeFormula_39 hL (s_X9_kind hL (TkC_in p2) ?_)
          have e : f_X9_kind I4 = I 5 n2 := by unfold f_X9_kind; rw [TkC_nat p2, e54]
          rw [e]
          have hend : isOp (I 5 n2) = false → X xs L (d + 4) 64 65 [.ref 8, .int (ii i), .int (I 5 n2)] [] (S, I4, J, R, c) Q := by
            intro hno
            refine b_X6c_takeFormula_65 hL ?_
            refine s_X6c_setFree (r := r) (s := 1) (dp := dp2) hL hr hc (by omega) (by omega) p3 (by omega) p5 (by omega) p4 hci.1.2.1 (by have := hci.1.2.2.1; omega) ?_
            intro I5 t1 t2 t3 t4
            have F5 : fr (aFoc r) I I5 := fr_trans F4 (fr_sub t1 (by intro a k; unfold aSfc aFoc; omega))
            have T5 : TkC I5 n2 m := TkC_of p2 (t1 _ _ (by unfold aSfc; omega)) (t1 _ _ (by unfold aSfc; omega)) (fr_row t1 _ (by intro k; unfold aSfc; omega))
            have hfl := fre_len 1 w2 dp2
            have hs5 : s = (decide ((fre 1 w2 dp2).1 = []), n2, l2 ++ (fre 1 w2 dp2).2.2, (g.1 + 1, g.2)) := by
              rw [hcs, sy_a hc2]
              by_cases hk : I 5 n2 = 41
              · rw [if_pos hk, if_pos (hc4 hk), decide_eq_true (hc4 hk)]
              · rw [if_neg hk, hno, if_neg (by decide)]
            have k5 := k I5 F5
            rw [hs5] at k5
            have k6 := k5 T5 (by simp only; have := hci.2.2; omega) (fun _ => ⟨t3, by rw [t1 _ _ (by unfold aSfc; omega)]; exact A4, by simp only [List.length_append]; omega, by simp only; omega⟩)
            by_cases hw5 : (fre 1 w2 dp2).1 = []
            · have e0 : I5 8 4 = 0 := by rw [t2.1, hw5]; rfl
              refine b_X6c_takeFormula_70 hL (fun z => absurd e0 z) (fun _ => b_X6c_takeFormula_77 (b_X6c_takeFormula_82 (Or.inr rfl) ?_))
              simp only [decide_eq_true hw5, if_pos] at k6
              exact k6
            · have e0 : ¬ I5 8 4 = 0 := by
                rw [t2.1, ii_zero, ii_inj (by omega) (by omega)]
                intro z; exact hw5 (List.eq_nil_of_length_eq_zero z)
              refine b_X6c_takeFormula_70 hL (fun _ => b_X6c_takeFormula_81 (b_X6c_takeFormula_82 (Or.inl rfl) ?_)) (fun z => absurd e0 z)
              simp only [decide_eq_false hw5, Bool.false_eq_true, if_false] at k6
              exact k6
          have hgo : isOp (I 5 n2) = true → X xs L (d + 4) 64 83 [.ref 8, .int (ii i), .int (I 5 n2)] [] (S, I4, J, R, c) Q := by
            intro hop
            have hne : ¬ I 5 n2 = 0 := by intro z; rw [z] at hop; exact absurd hop (by decide)
            have hn2 : n2 < m := lt_of_kd h0 hc2 hne
            refine b_X6c_takeFormula_83 (s_X6_strengthOf ?_)
            refine b_X6c_takeFormula_88 hL ?_
            refine s_X6c_setFree (r := r) (s := strg (I 5 n2)) (dp := dp2) hL hr hc (by omega) (strg_lt _) p3 (by omega) p5 (by omega) p4 hci.1.2.1 (by have := hci.1.2.2.1; omega) ?_
            intro I5 t1 t2 t3 t4
            have F5 : fr (aFoc r) I I5 := fr_trans F4 (fr_sub t1 (by intro a k; unfold aSfc aFoc; omega))
            have T5 : TkC I5 n2 m := TkC_of p2 (t1 _ _ (by unfold aSfc; omega)) (t1 _ _ (by unfold aSfc; omega)) (fr_row t1 _ (by intro k; unfold aSfc; omega))
            have hfl := fre_len (strg (I 5 n2)) w2 dp2
            have hwi := WI_op hci.1 hop
            refine b_X6c_takeFormula_91 hL (s_X6c_letWait (n := (fre (strg (I 5 n2)) w2 dp2).1.length) hL t2.1 (by omega) ?_)
            have T6 : TkC (u2 (u2 I5 9 (fre (strg (I 5 n2)) w2 dp2).1.length (I 5 n2)) 8 4 (ii ((fre (strg (I 5 n2)) w2 dp2).1.length + 1))) n2 m := TkC_of T5 (by rw [u2_a _ _ _ _ (by decide), u2_a _ _ _ _ (by decide)]) (by rw [u2_a _ _ _ _ (by decide), u2_a _ _ _ _ (by decide)]) (by funext j; rw [u2_a _ _ _ _ (by decide), u2_a _ _ _ _ (by decide)])
            refine b_X6c_takeFormula_96 hL (s_X9_step hL T6 hn2 ?_)
            refine b_X6c_takeFormula_103 ?_
            rw [ii_add1]
            refine ih (i + 1) _ _ (n2 + 1) (fre (strg (I 5 n2)) w2 dp2).2.1 (I 5 n2 :: (fre (strg (I 5 n2)) w2 dp2).1) (l2 ++ (fre (strg (I 5 n2)) w2 dp2).2.2) (g.1 + 1, g.2) (by have := hci.2.2; omega) (by have := hci.2.2; omega) (by have := hci.2.2; omega) (fr_u _ (fr_u _ (fr_u _ F5 (by unfold aFoc; omega)) (by unfold aFoc; omega)) (by unfold aFoc; omega)) (TkC_st T6 hn2) (WL_of (WL_push (by decide) t2 rfl) (by rw [u2_a _ _ _ _ (by decide)]) (by funext j; rw [u2_a _ _ _ _ (by decide)])) hwi (CdL_of t3 (by rw [u2_a _ _ _ _ (by omega), u2_a _ _ _ _ (by omega), u2_a _ _ _ _ (by omega)]) (by funext j; rw [u2_a _ _ _ _ (by omega), u2_a _ _ _ _ (by omega), u2_a _ _ _ _ (by omega)])) (by rw [List.length_append, List.length_cons]; omega) ?_ ?_ (by simp only; omega) ?_
            · rw [u2_a _ _ _ _ (by decide), u2_k _ _ _ _ (by decide), u2_a _ _ _ _ (by decide)]; exact t4
            · rw [u2_a _ _ _ _ (by decide), u2_k _ _ _ _ (by decide), u2_a _ _ _ _ (by decide), t1 _ _ (by unfold aSfc; omega)]; exact A4
            · rw [hcs, sy_a hc2, if_neg (by intro z; rw [z] at hop; exact absurd hop (by decide)), if_pos hop]
          refine b_X6c_takeFormula_46 (fun z => hgo (isOp_iff.2 (Or.inl z))) (fun z1 => ?_)
          refine b_X6c_takeFormula_53 (fun z => hgo (isOp_iff.2 (Or.inr (Or.inl z)))) (fun z2 => ?_)
          refine b_X6c_takeFormula_59 (fun z => hgo (isOp_iff.2 (Or.inr (Or.inr z)))) (fun z3 => ?_)
          refine hend ?_
          cases hq9 : isOp (I 5 n2) with
          | false => rfl
          | true => rcases isOp_iff.1 hq9 with z | z | z
                    · exact absurd z z1
                    · exact absurd z z2
                    · exact absurd z z3
  have E5 : (u2 (u2 I 8 4 0) 8 5 0) 5 = I 5 := by funext j; rw [u2_a _ _ _ _ (by decide), u2_a _ _ _ _ (by decide)]
  refine main (m + 1 - n) 0 _ _ n 0 [] l g (by omega) (by omega) (by omega) (fr_u _ (fr_u _ (fr_refl _ _) (by unfold aFoc; omega)) (by unfold aFoc; omega)) (TkC_of h (by rw [u2_a _ _ _ _ (by decide), u2_a _ _ _ _ (by decide)]) (by rw [u2_a _ _ _ _ (by decide), u2_a _ _ _ _ (by decide)]) E5) ⟨by rw [u2_k _ _ _ _ (by decide), u2_e]; rfl, fun i x hx => by simp at hx⟩ WI_nil (CdL_of hl (by rw [u2_a _ _ _ _ (by omega), u2_a _ _ _ _ (by omega)]) (by funext j; rw [u2_a _ _ _ _ (by omega), u2_a _ _ _ _ (by omega)])) (by simp; omega) (by rw [u2_e]; rfl) (by rw [u2_k _ _ _ _ (by decide), u2_k _ _ _ _ (by decide)]; exact ha) ha2 hs
def aFok (q : Nat) (a k : Nat) : Prop := (a = 4 ∧ k = 5) ∨ a = 12 ∨ (a = 11 ∧ (k = 2 ∨ k = 4 ∨ k = 5)) ∨ a = (q + 8) + 1 ∨ (a = (q + 8) ∧ k = 1) ∨ (a = q ∧ k = 0)
theorem s_X6k_takeFormula {xs : Nat → Int32} {L d : Nat} {S : Nat → Shp} {I : Nat → Nat → Int32} {J : Nat → Nat → Int64} {R : Nat → Nat → Nat} {c : Nat × Nat} {Q : Option (Option Value) → MH → Prop} {q n m : Nat} {l : List Int32} {g : LeS} {s : Bool × Nat × List Int32 × LeS} (hL : Lay S R) (hr : R 11 1 = (q + 8)) (hc : LyCd S R ((q + 8))) (hr2 : 12 < q) (hq : R 11 6 = q) (hm : LyCm S R q) (hv : I q 0 = ii g.2.length) (hv1 : NL J (q + 1) g.2) (hv2 : g.2.length ≤ 9) (h : TkC I n m) (hl : CdL I ((q + 8)) l) (hl2 : l.length < n) (ha : I 11 2 = ii g.1) (ha2 : g.1 ≤ 300) (hs : sy1 (I 5) (lfK (I 5) (J 7)) m true n [] 0 l g = s) (k : ∀ I' J', fr (aFok q) I I' → fr (aAtj q) J J' → TkC I' s.2.1 m → n ≤ s.2.1 → (s.1 = true → CdL I' ((q + 8)) s.2.2.1 ∧ I' 11 2 = ii s.2.2.2.1 ∧ s.2.2.1.length < s.2.1 ∧ s.2.2.2.1 ≤ 300 ∧ I' q 0 = ii s.2.2.2.2.length ∧ NL J' (q + 1) s.2.2.2.2 ∧ s.2.2.2.2.length ≤ 9) → Q (some (some (.int (if s.1 = true then 1 else 0)))) (S, I', J', R, c)) : X xs L (d + 4) 64 0 [.ref 11, .null, .null] [] (S, I, J, R, c) Q := by
  refine b_X6k_takeFormula_0 hL ?_
  have main : ∀ (f i : Nat) (v2 : Value) (I' : Nat → Nat → Int32) (J' : Nat → Nat → Int64) (n0 dp : Nat) (w l : List Int32) (g : LeS), m + 1 - n0 ≤ f → 2 * i ≤ n0 → n ≤ n0 → fr (aFok q) I I' → fr (aAtj q) J J' → TkC I' n0 m → WL I' 11 12 w → WI w dp → CdL I' ((q + 8)) l → l.length + w.length < n0 → I' 11 5 = ii dp → I' 11 2 = ii g.1 → g.1 ≤ 300 → I' q 0 = ii g.2.length → NL J' (q + 1) g.2 → g.2.length ≤ 9 → sy1 (I 5) (lfK (I 5) (J 7)) m true n0 w dp l g = s → X xs L (d + 4) 64 12 [.ref 11, .int (ii i), v2] [] (S, I', J', R, c) Q := by
    intro f
    induction f with
    | zero =>
      intro i v2 I' J' n0 dp w l g h1 h2 h3 h4 j4 h5 h6 h7 h8 h9 h10 h11 h12 v1 v2 v3 h13
      have := h5.2.2.1; omega
    | succ f ih =>
      intro i v2 I' J' n0 dp w l g h1 h2 h3 h4 j4 h5 h6 h7 h8 h9 h10 h11 h12 v1 v2 v3 h13
      have hm1 := h5.2.2.1
      have hm2 := h5.2.2.2.1
      have h0 : I 5 m = 0 := by rw [← fr_row h4 5 (by intro k; unfold aFok; omega)]; exact h5.2.2.2.2
      have hwl := WI_len h7
      refine b_X6k_takeFormula_12 (fun z => ?_) (fun _ => ?_)
      · have := (ii_le (n := 2000) (by omega) (by omega)).1 z; omega
      have e5 : I' 5 = I 5 := fr_row h4 5 (by intro k; unfold aFok; omega)
      have e7 : J' 7 = J 7 := fr_row j4 7 (by intro k; unfold aAtj; omega)
      refine b_X6k_takeFormula_19 hL (s_X6k_takeOpeners hL h5 h6 (by omega) h10 h7.2.2.1 ?_)
      rw [e5]
      have ho := opn_sy (lf := lfK (I 5) (J 7)) (l := l) (g := g) h0 11 n0 w dp hm1 (by omega)
      have hoi := opn_inv (kd := I 5) 11 n0 w dp h7
      rw [h13] at ho
      generalize opn (I 5) 11 n0 w dp = O at ho hoi ⊢
      obtain ⟨ok, n1, w1, dp1⟩ := O
      simp only at ho hoi ⊢
      intro I2 g1 g2 g3 g4
      have F2 : fr (aFok q) I I2 := fr_trans h4 (fr_sub g1 (by intro a k; unfold aOpk aFok; omega))
      have C2 : CdL I2 ((q + 8)) l := CdL_of h8 (g1 _ _ (by unfold aOpk; omega)) (fr_row g1 _ (by intro k; unfold aOpk; omega))
      have A2 : I2 11 2 = ii g.1 := by rw [g1 _ _ (by unfold aOpk; omega)]; exact h11
      have V2 : I2 q 0 = ii g.2.length := by rw [g1 _ _ (by unfold aOpk; omega)]; exact v1
      cases ok with
      | false =>
        rw [if_neg (by decide)] at ho
        obtain ⟨ho, ho1, -⟩ := ho
        subst ho
        refine b_X6k_takeFormula_23 (fun _ => b_X6k_takeFormula_33 ?_) (fun z => absurd rfl z)
        exact k I2 J' F2 j4 g2 (by simp only; omega) (fun z => by cases z)
      | true =>
        rw [if_pos rfl] at ho
        obtain ⟨ho, ho1, ho2, ho3⟩ := ho
        have ho3 := ho3 rfl
        refine b_X6k_takeFormula_23 (fun z => by rw [if_pos rfl] at z; exact absurd z (by decide)) (fun _ => ?_)
        have e52 : I2 5 = I 5 := fr_row F2 5 (by intro k; unfold aFok; omega)
        refine b_X6k_takeFormula_26 hL (s_X6k_takeAtom (q := q) (vs := g.2) (ats := g.1) hL hr hq hc hm hr2 g2 C2 (by omega) V2 v2 v3 A2 h12 ?_ ?_)
        · rw [e52, e7]
          intro I3 q1 q2 q3
          refine b_X6k_takeFormula_30 (fun z => absurd rfl z) (fun _ => b_X6k_takeFormula_33 ?_)
          have hq : s = (false, n1, l, g) := by
            rw [ho, sy_o ho2, if_neg ho3]
            have : lfK (I 5) (J 7) n1 g = none := by
              unfold lfK
              by_cases z : g.1 < 300
              · rw [if_pos z, q3 z]; rfl
              · rw [if_neg z]
            rw [this]
          subst hq
          exact k I3 J' (fr_trans F2 (fr_sub q1 (by intro a k; unfold aAtk aFok; omega))) j4 q2 (by simp only; omega) (fun z => by cases z)
        · rw [e52, e7]
          intro I3 J3 x vs' q1 j1 q2 q3 q4 q5 q6 q7 q8 q9
          refine b_X6k_takeFormula_30 (fun _ => ?_) (fun z => absurd (by decide) z)
          have hq : s = sy1 (I 5) (lfK (I 5) (J 7)) m false (n1 + 1) w1 dp1 (l ++ [x]) (g.1 + 1, vs') := by
            rw [ho, sy_o ho2, if_neg ho3]
            have : lfK (I 5) (J 7) n1 g = some (x, (g.1 + 1, vs')) := by
              unfold lfK
              rw [if_pos q2, q4]; rfl
            rw [this]
          have F3 : fr (aFok q) I I3 := fr_trans F2 (fr_sub q1 (by intro a k; unfold aAtk aFok; omega))
          have W3 : WL I3 11 12 w1 := WL_of g3 (q1 _ _ (by unfold aAtk; omega)) (fr_row q1 _ (by intro k; unfold aAtk; omega))
          have D3 : I3 11 5 = ii dp1 := by rw [q1 _ _ (by unfold aAtk; omega)]; exact g4
          have j3 := fr_trans j4 j1
          have v3' := atK_len q4 v3
          have hwl1 := WI_len hoi.1
          refine b_X6k_takeFormula_35 hL ?_
          refine s_X6k_takeClosers (r := (q + 8)) hL hr hc (by omega) q5 W3 (by omega) hoi.1.1 q6 (by rw [List.length_append, List.length_singleton]; omega) D3 hoi.1.2.1 (by have := hoi.1.2.2.1; omega) ?_
          have e53 : I3 5 = I 5 := fr_row F3 5 (by intro k; unfold aFok; omega)
          rw [e53]
          have hcs := cls_sy (lf := lfK (I 5) (J 7)) (g := (g.1 + 1, vs')) h0 10 (n1 + 1) w1 dp1 (l ++ [x]) q3 (brs_le hoi.1) hoi.1.1
          have hci := cls_inv (kd := I 5) 10 (n1 + 1) w1 dp1 hoi.1
          rw [← hq] at hcs
          generalize cls (I 5) 10 (n1 + 1) w1 dp1 = C at hcs hci ⊢
          obtain ⟨n2, w2, dp2, o2⟩ := C
          simp only at hcs hci ⊢
          intro I4 p1 p2 p3 p4 p5
          obtain ⟨hcs, -, hc2, hc3, hc4⟩ := hcs
          have F4 : fr (aFok q) I I4 := fr_trans F3 (fr_sub p1 (by intro a k; unfold aClk aFok; omega))
          have A4 : I4 11 2 = ii (g.1 + 1) := by rw [p1 _ _ (by unfold aClk; omega)]; exact q7
          have V4 : I4 q 0 = ii vs'.length := by rw [p1 _ _ (by unfold aClk; omega)]; exact q8
          have e54 : I4 5 = I 5 := fr_row F4 5 (by intro k; unfold aFok; omega)
          have hln : (l ++ [x] ++ o2).length + w2.length < n2 := by
            rw [List.length_append, List.length_append, List.length_singleton]
            have := hci.2.1; have := hci.2.2; omega
          generalize l ++ [x] ++ o2 = l2 at hcs p5 hln
          have hwl2 := WI_len hci.1
          have hm2' := p2.2.2.1
          refine b_X6k_takeFormula_39 hL (s_X9_kind hL (TkC_in p2) ?_)
          have e : f_X9_kind I4 = I 5 n2 := by unfold f_X9_kind; rw [TkC_nat p2, e54]
          rw [e]
          have hend : isOp (I 5 n2) = false → X xs L (d + 4) 64 65 [.ref 11, .int (ii i), .int (I 5 n2)] [] (S, I4, J3, R, c) Q := by
            intro hno
            refine b_X6k_takeFormula_65 hL ?_
            refine s_X6k_setFree (r := (q + 8)) (s := 1) (dp := dp2) hL hr hc (by omega) (by omega) p3 (by omega) p5 (by omega) p4 hci.1.2.1 (by have := hci.1.2.2.1; omega) ?_
            intro I5 t1 t2 t3 t4
            have F5 : fr (aFok q) I I5 := fr_trans F4 (fr_sub t1 (by intro a k; unfold aSfk aFok; omega))
            have T5 : TkC I5 n2 m := TkC_of p2 (t1 _ _ (by unfold aSfk; omega)) (t1 _ _ (by unfold aSfk; omega)) (fr_row t1 _ (by intro k; unfold aSfk; omega))
            have hfl := fre_len 1 w2 dp2
            have hs5 : s = (decide ((fre 1 w2 dp2).1 = []), n2, l2 ++ (fre 1 w2 dp2).2.2, (g.1 + 1, vs')) := by
              rw [hcs, sy_a hc2]
              by_cases hk : I 5 n2 = 41
              · rw [if_pos hk, if_pos (hc4 hk), decide_eq_true (hc4 hk)]
              · rw [if_neg hk, hno, if_neg (by decide)]
            have k5 := k I5 J3 F5 j3
            rw [hs5] at k5
            have k6 := k5 T5 (by simp only; have := hci.2.2; omega) (fun _ => ⟨t3, by rw [t1 _ _ (by unfold aSfk; omega)]; exact A4, by simp only [List.length_append]; omega, by simp only; omega, by rw [t1 _ _ (by unfold aSfk; omega)]; exact V4, q9, v3'⟩)
            by_cases hw5 : (fre 1 w2 dp2).1 = []
            · have e0 : I5 11 4 = 0 := by rw [t2.1, hw5]; rfl
              refine b_X6k_takeFormula_70 hL (fun z => absurd e0 z) (fun _ => b_X6k_takeFormula_77 (b_X6k_takeFormula_82 (Or.inr rfl) ?_))
              simp only [decide_eq_true hw5, if_pos] at k6
              exact k6
            · have e0 : ¬ I5 11 4 = 0 := by
                rw [t2.1, ii_zero, ii_inj (by omega) (by omega)]
                intro z; exact hw5 (List.eq_nil_of_length_eq_zero z)
              refine b_X6k_takeFormula_70 hL (fun _ => b_X6k_takeFormula_81 (b_X6k_takeFormula_82 (Or.inl rfl) ?_)) (fun z => absurd e0 z)
              simp only [decide_eq_false hw5, Bool.false_eq_true, if_false] at k6
              exact k6
          have hgo : isOp (I 5 n2) = true → X xs L (d + 4) 64 83 [.ref 11, .int (ii i), .int (I 5 n2)] [] (S, I4, J3, R, c) Q := by
            intro hop
            have hne : ¬ I 5 n2 = 0 := by intro z; rw [z] at hop; exact absurd hop (by decide)
            have hn2 : n2 < m := lt_of_kd h0 hc2 hne
            refine b_X6k_takeFormula_83 (s_X6_strengthOf ?_)
            refine b_X6k_takeFormula_88 hL ?_
            refine s_X6k_setFree (r := (q + 8)) (s := strg (I 5 n2)) (dp := dp2) hL hr hc (by omega) (strg_lt _) p3 (by omega) p5 (by omega) p4 hci.1.2.1 (by have := hci.1.2.2.1; omega) ?_
            intro I5 t1 t2 t3 t4
            have F5 : fr (aFok q) I I5 := fr_trans F4 (fr_sub t1 (by intro a k; unfold aSfk aFok; omega))
            have T5 : TkC I5 n2 m := TkC_of p2 (t1 _ _ (by unfold aSfk; omega)) (t1 _ _ (by unfold aSfk; omega)) (fr_row t1 _ (by intro k; unfold aSfk; omega))
            have hfl := fre_len (strg (I 5 n2)) w2 dp2
            have hwi := WI_op hci.1 hop
            refine b_X6k_takeFormula_91 hL (s_X6k_letWait (n := (fre (strg (I 5 n2)) w2 dp2).1.length) hL t2.1 (by omega) ?_)
            have T6 : TkC (u2 (u2 I5 12 (fre (strg (I 5 n2)) w2 dp2).1.length (I 5 n2)) 11 4 (ii ((fre (strg (I 5 n2)) w2 dp2).1.length + 1))) n2 m := TkC_of T5 (by rw [u2_a _ _ _ _ (by decide), u2_a _ _ _ _ (by decide)]) (by rw [u2_a _ _ _ _ (by decide), u2_a _ _ _ _ (by decide)]) (by funext j; rw [u2_a _ _ _ _ (by decide), u2_a _ _ _ _ (by decide)])
            refine b_X6k_takeFormula_96 hL (s_X9_step hL T6 hn2 ?_)
            refine b_X6k_takeFormula_103 ?_
            rw [ii_add1]
            refine ih (i + 1) _ _ J3 (n2 + 1) (fre (strg (I 5 n2)) w2 dp2).2.1 (I 5 n2 :: (fre (strg (I 5 n2)) w2 dp2).1) (l2 ++ (fre (strg (I 5 n2)) w2 dp2).2.2) (g.1 + 1, vs') (by have := hci.2.2; omega) (by have := hci.2.2; omega) (by have := hci.2.2; omega) (fr_u _ (fr_u _ (fr_u _ F5 (by unfold aFok; omega)) (by unfold aFok; omega)) (by unfold aFok; omega)) j3 (TkC_st T6 hn2) (WL_of (WL_push (by decide) t2 rfl) (by rw [u2_a _ _ _ _ (by decide)]) (by funext j; rw [u2_a _ _ _ _ (by decide)])) hwi (CdL_of t3 (by rw [u2_a _ _ _ _ (by omega), u2_a _ _ _ _ (by omega), u2_a _ _ _ _ (by omega)]) (by funext j; rw [u2_a _ _ _ _ (by omega), u2_a _ _ _ _ (by omega), u2_a _ _ _ _ (by omega)])) (by rw [List.length_append, List.length_cons]; omega) ?_ ?_ (by simp only; omega) ?_ q9 v3' ?_
            · rw [u2_a _ _ _ _ (by decide), u2_k _ _ _ _ (by decide), u2_a _ _ _ _ (by decide)]; exact t4
            · rw [u2_a _ _ _ _ (by decide), u2_k _ _ _ _ (by decide), u2_a _ _ _ _ (by decide), t1 _ _ (by unfold aSfk; omega)]; exact A4
            · rw [u2_a _ _ _ _ (by omega), u2_a _ _ _ _ (by omega), u2_a _ _ _ _ (by omega), t1 _ _ (by unfold aSfk; omega)]; exact V4
            · rw [hcs, sy_a hc2, if_neg (by intro z; rw [z] at hop; exact absurd hop (by decide)), if_pos hop]
          refine b_X6k_takeFormula_46 (fun z => hgo (isOp_iff.2 (Or.inl z))) (fun z1 => ?_)
          refine b_X6k_takeFormula_53 (fun z => hgo (isOp_iff.2 (Or.inr (Or.inl z)))) (fun z2 => ?_)
          refine b_X6k_takeFormula_59 (fun z => hgo (isOp_iff.2 (Or.inr (Or.inr z)))) (fun z3 => ?_)
          refine hend ?_
          cases hq9 : isOp (I 5 n2) with
          | false => rfl
          | true => rcases isOp_iff.1 hq9 with z | z | z
                    · exact absurd z z1
                    · exact absurd z z2
                    · exact absurd z z3
  have E5 : (u2 (u2 I 11 4 0) 11 5 0) 5 = I 5 := by funext j; rw [u2_a _ _ _ _ (by decide), u2_a _ _ _ _ (by decide)]
  refine main (m + 1 - n) 0 _ _ J n 0 [] l g (by omega) (by omega) (by omega) (fr_u _ (fr_u _ (fr_refl _ _) (by unfold aFok; omega)) (by unfold aFok; omega)) (fr_refl _ _) (TkC_of h (by rw [u2_a _ _ _ _ (by decide), u2_a _ _ _ _ (by decide)]) (by rw [u2_a _ _ _ _ (by decide), u2_a _ _ _ _ (by decide)]) E5) ⟨by rw [u2_k _ _ _ _ (by decide), u2_e]; rfl, fun i x hx => by simp at hx⟩ WI_nil (CdL_of hl (by rw [u2_a _ _ _ _ (by omega), u2_a _ _ _ _ (by omega)]) (by funext j; rw [u2_a _ _ _ _ (by omega), u2_a _ _ _ _ (by omega)])) (by simp; omega) (by rw [u2_e]; rfl) (by rw [u2_k _ _ _ _ (by decide), u2_k _ _ _ _ (by decide)]; exact ha) ha2 (by rw [u2_a _ _ _ _ (by omega), u2_a _ _ _ _ (by omega)]; exact hv) hv1 hv2 hs
