/-! ===== P2: the clauses of an assertion in the class ===== -/
/-- a clause has begun -/
def KP (q : Nat) (I : Nat → Nat → Int32) (cs : List Cl) (v s1 : Nat) : Prop := I q 3 = ii (cs.length + 1) ∧ I q 4 = ii (lst cs) ∧ (∀ i x, cs[i]? = some x → I (q + 2) i = ii x.1 ∧ I (q + 5) i = ii x.2.1 ∧ I (q + 6) i = ii x.2.2.1 ∧ I (q + 7) i = ii x.2.2.2.1 ∧ I (q + 3) i = ii x.2.2.2.2.1 ∧ I (q + 4) i = ii x.2.2.2.2.2 ∧ x.2.2.2.2.1 ≤ x.2.2.2.2.2 ∧ x.2.2.2.2.2 < 12) ∧ I (q + 2) cs.length = ii v ∧ I (q + 5) cs.length = ii s1
theorem KP_of {q v s1 : Nat} {I I' : Nat → Nat → Int32} {cs : List Cl} (h : KP q I cs v s1) (e : ∀ x k, ((x = q ∧ (k = 3 ∨ k = 4)) ∨ x = q + 2 ∨ x = q + 3 ∨ x = q + 4 ∨ x = q + 5 ∨ ((x = q + 6 ∨ x = q + 7) ∧ k < cs.length)) → I' x k = I x k) : KP q I' cs v s1 := by
  obtain ⟨h1, h2, h3, h4, h5⟩ := h
  refine ⟨by rw [e _ _ (by omega)]; exact h1, by rw [e _ _ (by omega)]; exact h2, fun i x hx => ?_, by rw [e _ _ (by omega)]; exact h4, by rw [e _ _ (by omega)]; exact h5⟩
  have hi := (List.getElem?_eq_some_iff.1 hx).1
  rw [e _ _ (by omega), e _ _ (by omega), e _ _ (by omega), e _ _ (by omega), e _ _ (by omega), e _ _ (by omega)]
  exact h3 i x hx
section KRD2
variable {xs : Nat → Int32} {L d : Nat} {S : Nat → Shp} {I I' : Nat → Nat → Int32} {J J' : Nat → Nat → Int64} {R : Nat → Nat → Nat} {c : Nat × Nat} {Q : Option (Option Value) → MH → Prop} {kd : Nat → Int32} {key : Nat → Int64} {pl : Nat → Nat} {m n q b : Nat} {ns : List Nd} {cs : List Cl} {l : List Int32} {g : LeS}
theorem s_X4_takeClause {r : KR} (hB : KB q b S R) (h : KSt q kd key pl m I J n cs l g) (hcs : cs.length < 48) (hC : CRd I J b ns) (hn40 : ns.length ≤ 40) (hr : cla kd key m (ns.map Prod.fst) n cs l g = r) (k : ∀ I' J', fr (aKr q) I I' → fr (aAtj q) J J' → CTk kd key pl m I' J' r.2.1 → (r.1 = true → n < r.2.1 ∧ KSt q kd key pl m I' J' r.2.1 r.2.2.1 r.2.2.2.1 r.2.2.2.2 ∧ r.2.2.1.length = cs.length + 1) → Q (some (some (.int (if r.1 = true then 1 else 0)))) (S, I', J', R, c)) : X xs L (d + 5) 52 0 [.ref 11, .null, .null] [] (S, I, J, R, c) Q := by
  have hB' := hB
  obtain ⟨hL, hY, hR6, hR1, hq, hcd, hR7, hYb, hb1, hb2⟩ := hB'
  obtain ⟨h1, h2, h3, h4, h5, h6, h7, h8, h9, h10, h11⟩ := h
  have hm := h1.1.2.2.2.1
  unfold cla at hr
  have hfail : r = (false, n, cs, l, g) → X xs L (d + 5) 52 30 [.ref 11, .null, .null] [.int (-2)] (S, I, J, R, c) Q := by
    intro e
    subst e
    exact b_X4_takeClause_30 (fun z => absurd rfl z) (fun _ => b_X4_takeClause_37 (k I J (fr_refl _ _) (fr_refl _ _) h1 (fun z => by cases z)))
  refine b_X4_takeClause_0 hL (s_X9_kind hL (TkC_in h1.1) ?_)
  rw [CTk_kind h1]
  refine b_X4_takeClause_7 (fun z => ?_) (fun z => ?_)
  · rw [if_neg z] at hr
    exact b_X4_takeClause_28 (hfail hr.symm)
  have hk := Classical.not_not.1 z
  rw [if_pos hk] at hr
  have hn : n < m := CTk_lt h1 (by rw [hk]; decide)
  refine b_X4_takeClause_11 hL hR7 (s_X9_key hL (TkC_in h1.1) ?_)
  rw [CTk_key h1]
  refine b_X4_takeClause_22 hYb (s_X1_find (vs := ns.map Prod.fst) hYb (by rw [List.length_map]; exact hC.1) (NL_nd hC) (by rw [List.length_map]; omega) (fun v w => ?_) (fun w => ?_))
  rotate_left
  · rw [w] at hr
    exact b_X4_takeClause_25 (hfail hr.symm)
  have hv := ixl_lt _ _ _ w
  rw [List.length_map] at hv
  rw [w] at hr
  simp only at hr
  refine b_X4_takeClause_25 (b_X4_takeClause_30 (fun _ => ?_) (fun z => absurd (ii_n2 (by omega)) z))
  refine b_X4_takeClause_39 hL (s_X9_step hL h1.1 hn ?_)
  have T1 := CTk_st h1 hn
  have eu : ∀ x k, ¬ (x = 4 ∧ k = 5) → u2 I 4 5 (ii (n + 1)) x k = I x k := fun x k z => by rw [u2_if, if_neg z]
  have F1 : fr (aKr q) I (u2 I 4 5 (ii (n + 1))) := fr_u _ (fr_refl _ _) (by unfold aKr; omega)
  generalize u2 I 4 5 (ii (n + 1)) = I1 at T1 eu F1 ⊢
  have e13 : I1 q 3 = ii cs.length := by rw [eu _ _ (by omega)]; exact h2.1
  have e18 : I1 (q + 8) 1 = ii l.length := by rw [eu _ _ (by omega)]; exact h5.1
  have hbc : inb (I1 q 3) 48 = true := by rw [e13]; exact ii_inb hcs (by omega)
  refine b_X4_takeClause_46 hL hR6 hY hbc hR1 hcd (by omega) (by omega) hbc ?_
  rw [e13, ii_add1, ii_nat (by omega), e18]
  have eo : ∀ x k, ¬ (x = q ∧ k = 3) → ¬ x = q + 2 → ¬ x = q + 5 → (u2 (u2 (u2 I1 q 3 (ii (cs.length + 1))) (q + 2) cs.length (ii v)) (q + 5) cs.length (ii l.length)) x k = I1 x k := fun x k z1 z2 z3 => by
    rw [u2_a _ _ _ _ z3, u2_a _ _ _ _ z2, u2_if, if_neg z1]
  have eo2 : ∀ k, k < cs.length → (u2 (u2 (u2 I1 q 3 (ii (cs.length + 1))) (q + 2) cs.length (ii v)) (q + 5) cs.length (ii l.length)) (q + 2) k = I1 (q + 2) k := fun k z => by
    rw [u2_a _ _ _ _ (by omega), u2_k _ _ _ _ (by omega), u2_a _ _ _ _ (by omega)]
  have eo5 : ∀ k, k < cs.length → (u2 (u2 (u2 I1 q 3 (ii (cs.length + 1))) (q + 2) cs.length (ii v)) (q + 5) cs.length (ii l.length)) (q + 5) k = I1 (q + 5) k := fun k z => by
    rw [u2_k _ _ _ _ (by omega), u2_a _ _ _ _ (by omega), u2_a _ _ _ _ (by omega)]
  have P2 : KP q (u2 (u2 (u2 I1 q 3 (ii (cs.length + 1))) (q + 2) cs.length (ii v)) (q + 5) cs.length (ii l.length)) cs v l.length := by
    refine ⟨by rw [u2_a _ _ _ _ (by omega), u2_a _ _ _ _ (by omega), u2_e], by rw [eo _ _ (by omega) (by omega) (by omega), eu _ _ (by omega)]; exact h3, fun i x hx => ?_, by rw [u2_a _ _ _ _ (by omega), u2_e], u2_e _ _ _ _⟩
    have hi := (List.getElem?_eq_some_iff.1 hx).1
    rw [eo2 i hi, eo5 i hi, eo _ _ (by omega) (by omega) (by omega), eo _ _ (by omega) (by omega) (by omega), eo _ _ (by omega) (by omega) (by omega), eo _ _ (by omega) (by omega) (by omega), eu _ _ (by omega), eu _ _ (by omega), eu _ _ (by omega), eu _ _ (by omega), eu _ _ (by omega), eu _ _ (by omega)]
    exact h2.2 i x hx
  have T2 : CTk kd key pl m (u2 (u2 (u2 I1 q 3 (ii (cs.length + 1))) (q + 2) cs.length (ii v)) (q + 5) cs.length (ii l.length)) J (n + 1) := CTk_of T1 (TkC_of T1.1 (eo _ _ (by omega) (by omega) (by omega)) (eo _ _ (by omega) (by omega) (by omega)) (by funext j; exact eo _ _ (by omega) (by omega) (by omega))) (by funext j; exact eo _ _ (by omega) (by omega) (by omega)) (by funext j; exact eo _ _ (by omega) (by omega) (by omega)) rfl
  have F2 : fr (aKr q) I (u2 (u2 (u2 I1 q 3 (ii (cs.length + 1))) (q + 2) cs.length (ii v)) (q + 5) cs.length (ii l.length)) := fr_u _ (fr_u _ (fr_u _ F1 (by unfold aKr; omega)) (by unfold aKr; omega)) (by unfold aKr; omega)
  have C2 : CdL (u2 (u2 (u2 I1 q 3 (ii (cs.length + 1))) (q + 2) cs.length (ii v)) (q + 5) cs.length (ii l.length)) (q + 8) l := CdL_of h5 (by rw [eo _ _ (by omega) (by omega) (by omega), eu _ _ (by omega)]) (by funext j; rw [eo _ _ (by omega) (by omega) (by omega), eu _ _ (by omega)])
  have A2 : (u2 (u2 (u2 I1 q 3 (ii (cs.length + 1))) (q + 2) cs.length (ii v)) (q + 5) cs.length (ii l.length)) 11 2 = ii g.1 := by rw [eo _ _ (by omega) (by omega) (by omega), eu _ _ (by omega)]; exact h6
  have V2 : (u2 (u2 (u2 I1 q 3 (ii (cs.length + 1))) (q + 2) cs.length (ii v)) (q + 5) cs.length (ii l.length)) q 0 = ii g.2.length := by rw [eo _ _ (by omega) (by omega) (by omega), eu _ _ (by omega)]; exact h8
  generalize (u2 (u2 (u2 I1 q 3 (ii (cs.length + 1))) (q + 2) cs.length (ii v)) (q + 5) cs.length (ii l.length)) = I2 at P2 T2 F2 C2 A2 V2 ⊢
  clear eo eo2 eo5
  refine s_X6k_takeWord hL T2.1 (fun z1 z2 z3 => ?_) (fun z1 => ?_)
  rotate_left
  · rw [T2.2.1, T2.2.2.1] at z1
    rw [if_neg z1] at hr
    subst hr
    exact b_X4_takeClause_100 (fun _ => b_X4_takeClause_110 (k I2 J F2 (fr_refl _ _) T2 (fun z => by cases z))) (fun z => absurd rfl z)
  rw [T2.2.1] at z1
  rw [T2.2.2.1] at z2
  rw [if_pos ⟨z1, z2⟩] at hr
  refine b_X4_takeClause_100 (fun z => absurd z (by decide)) (fun _ => b_X4_takeClause_103 hL ?_)
  have T3 := CTk_st T2 z3
  have ev : ∀ x k, ¬ (x = 4 ∧ k = 5) → u2 I2 4 5 (ii (n + 1 + 1)) x k = I2 x k := fun x k z => by rw [u2_if, if_neg z]
  have F3 : fr (aKr q) I (u2 I2 4 5 (ii (n + 1 + 1))) := fr_u _ F2 (by unfold aKr; omega)
  have P3 := KP_of (I' := u2 I2 4 5 (ii (n + 1 + 1))) P2 (fun x k z => ev _ _ (by omega))
  have C3 : CdL (u2 I2 4 5 (ii (n + 1 + 1))) (q + 8) l := CdL_of C2 (ev _ _ (by omega)) (by funext j; exact ev _ _ (by omega))
  have A3 : u2 I2 4 5 (ii (n + 1 + 1)) 11 2 = ii g.1 := by rw [ev _ _ (by omega)]; exact A2
  have V3 : u2 I2 4 5 (ii (n + 1 + 1)) q 0 = ii g.2.length := by rw [ev _ _ (by omega)]; exact V2
  generalize u2 I2 4 5 (ii (n + 1 + 1)) = I3 at T3 F3 P3 C3 A3 V3 ⊢
  clear ev
  refine s_X6k_takeFormula (q := q) (g := g) (s := sy1 kd (lfK kd key) m true (n + 2) [] 0 l g) hL hR1 hcd (by omega) hR6 hY V3 h9 h10 T3.1 C3 (by omega) A3 h7 (by rw [T3.2.1, T3.2.2.1]) ?_
  generalize sy1 kd (lfK kd key) m true (n + 2) [] 0 l g = s at hr ⊢
  intro I4 J4 q1 q2 q3 q4 q5
  have T4 : CTk kd key pl m I4 J4 s.2.1 := CTk_of T3 q3 (fr_row q1 5 (by intro k; unfold aFok; omega)) (fr_row q1 6 (by intro k; unfold aFok; omega)) (fr_row q2 7 (by intro k; unfold aAtj; omega))
  have F4 : fr (aKr q) I I4 := fr_trans F3 (fr_sub q1 (by intro x k; unfold aFok aKr; omega))
  have P4 := KP_of (I' := I4) P3 (fun x k z => q1 _ _ (by unfold aFok; omega))
  by_cases hs : s.1 = true
  rotate_left
  · rw [if_neg hs] at hr ⊢
    subst hr
    exact b_X4_takeClause_107 (fun z => absurd rfl z) (fun _ => b_X4_takeClause_110 (k I4 J4 F4 q2 T4 (fun z => by cases z)))
  rw [if_pos hs] at hr ⊢
  obtain ⟨p1, p2, p3, p4, p5, p6, p7⟩ := q5 hs
  refine b_X4_takeClause_107 (fun _ => ?_) (fun z => absurd (by decide) z)
  refine b_X4_takeClause_112 hL hR6 hY hR1 hcd (ii_inb hcs (by omega)) ?_
  rw [ii_nat (by omega), p1.1]
  have ew : ∀ x k, ¬ (x = q + 6 ∧ k = cs.length) → u2 I4 (q + 6) cs.length (ii s.2.2.1.length) x k = I4 x k := fun x k z => by rw [u2_if, if_neg z]
  have P5 := KP_of (I' := u2 I4 (q + 6) cs.length (ii s.2.2.1.length)) P4 (fun x k z => ew _ _ (by omega))
  have T5 : CTk kd key pl m (u2 I4 (q + 6) cs.length (ii s.2.2.1.length)) J4 s.2.1 := CTk_of T4 (TkC_of T4.1 (ew _ _ (by omega)) (ew _ _ (by omega)) (by funext j; exact ew _ _ (by omega))) (by funext j; exact ew _ _ (by omega)) (by funext j; exact ew _ _ (by omega)) rfl
  have F5 : fr (aKr q) I (u2 I4 (q + 6) cs.length (ii s.2.2.1.length)) := fr_u _ F4 (by unfold aKr; omega)
  have C5 : CdL (u2 I4 (q + 6) cs.length (ii s.2.2.1.length)) (q + 8) s.2.2.1 := CdL_of p1 (ew _ _ (by omega)) (by funext j; exact ew _ _ (by omega))
  have A5 : u2 I4 (q + 6) cs.length (ii s.2.2.1.length) 11 2 = ii s.2.2.2.1 := by rw [ew _ _ (by omega)]; exact p2
  have V5 : u2 I4 (q + 6) cs.length (ii s.2.2.1.length) q 0 = ii s.2.2.2.2.length := by rw [ew _ _ (by omega)]; exact p5
  have D5 : u2 I4 (q + 6) cs.length (ii s.2.2.1.length) (q + 6) cs.length = ii s.2.2.1.length := u2_e _ _ _ _
  generalize u2 I4 (q + 6) cs.length (ii s.2.2.1.length) = I5 at P5 T5 F5 C5 A5 V5 D5 ⊢
  clear ew
  -- the end of a clause
  have hend : ∀ (n6 : Nat) (I6 : Nat → Nat → Int32) (J6 : Nat → Nat → Int64) (l6 : List Int32) (g6 : LeS), n + 2 ≤ n6 → CTk kd key pl m I6 J6 n6 → fr (aKr q) I I6 → fr (aAtj q) J J6 → KP q I6 cs v l.length → I6 (q + 6) cs.length = ii s.2.2.1.length → CdL I6 (q + 8) l6 → l6.length ≤ n6 → I6 11 2 = ii g6.1 → g6.1 ≤ 300 → I6 q 0 = ii g6.2.length → NL J6 (q + 1) g6.2 → g6.2.length ≤ 9 → clz kd key n6 v l.length s.2.2.1.length l6.length cs l6 g6 = r → X xs L (d + 5) 52 147 [.ref 11, .int (ii v), .int (ii cs.length)] [] (S, I6, J6, R, c) Q := by
    intro n6 I6 J6 l6 g6 a1 a2 a3 a4 a5 a6 a7 a8 a9 a10 a11 a12 a13 a14
    refine b_X4_takeClause_147 hL hR6 hY hR1 hcd (ii_inb hcs (by omega)) ?_
    rw [ii_nat (by omega), a7.1]
    have ew : ∀ x k, ¬ (x = q + 7 ∧ k = cs.length) → u2 I6 (q + 7) cs.length (ii l6.length) x k = I6 x k := fun x k z => by rw [u2_if, if_neg z]
    have P7 := KP_of (I' := u2 I6 (q + 7) cs.length (ii l6.length)) a5 (fun x k z => ew _ _ (by omega))
    have T7 : CTk kd key pl m (u2 I6 (q + 7) cs.length (ii l6.length)) J6 n6 := CTk_of a2 (TkC_of a2.1 (ew _ _ (by omega)) (ew _ _ (by omega)) (by funext j; exact ew _ _ (by omega))) (by funext j; exact ew _ _ (by omega)) (by funext j; exact ew _ _ (by omega)) rfl
    refine s_X4_takeTimes (v := v) (s1 := l.length) (s2 := s.2.2.1.length) (s3 := l6.length) (l := l6) (g := g6) hB T7 hcs h4 P7.1 P7.2.1 P7.2.2.1 ⟨P7.2.2.2.1, P7.2.2.2.2, by rw [ew _ _ (by omega)]; exact a6, u2_e _ _ _ _⟩ (CdL_of a7 (ew _ _ (by omega)) (by funext j; exact ew _ _ (by omega))) a8 (by rw [ew _ _ (by omega)]; exact a9) a10 (by rw [ew _ _ (by omega)]; exact a11) a12 a13 ?_
    intro I7 w1 w2 w3 w4
    rw [a14] at w2 w3 w4 ⊢
    have hcl : r.2.2.1.length = cs.length + 1 ∧ r.2.2.2.1 = l6 ∧ r.2.2.2.2 = g6 := by
      rw [← a14]; unfold clz; simp
    have hk := k I7 J6 (fr_trans (fr_u _ a3 (by unfold aKr; omega)) w1) a4 w2 (fun z => ⟨by omega, by rw [hcl.2.1, hcl.2.2]; exact w3 z, hcl.1⟩)
    have hz : (if r.1 = true then (1 : Int32) else 0) = 0 ∨ (if r.1 = true then (1 : Int32) else 0) = 1 := by split <;> simp
    exact b_X4_takeClause_168 hz hk
  refine s_X6k_takeWord hL T5.1 (fun z4 z5 z6 => ?_) (fun z4 => ?_)
  rotate_left
  · rw [T5.2.1, T5.2.2.1] at z4
    rw [if_neg z4] at hr
    refine b_X4_takeClause_135 (fun _ => ?_) (fun z => absurd rfl z)
    exact hend s.2.1 I5 J4 s.2.2.1 s.2.2.2 q4 T5 F5 q2 P5 D5 C5 (by omega) A5 p4 V5 p6 p7 hr
  rw [T5.2.1] at z4
  rw [T5.2.2.1] at z5
  rw [if_pos ⟨z4, z5⟩] at hr
  refine b_X4_takeClause_135 (fun z => absurd z (by decide)) (fun _ => b_X4_takeClause_138 hL ?_)
  have T6 := CTk_st T5 z6
  have ex : ∀ x k, ¬ (x = 4 ∧ k = 5) → u2 I5 4 5 (ii (s.2.1 + 1)) x k = I5 x k := fun x k z => by rw [u2_if, if_neg z]
  have F6 : fr (aKr q) I (u2 I5 4 5 (ii (s.2.1 + 1))) := fr_u _ F5 (by unfold aKr; omega)
  have P6 := KP_of (I' := u2 I5 4 5 (ii (s.2.1 + 1))) P5 (fun x k z => ex _ _ (by omega))
  have C6 : CdL (u2 I5 4 5 (ii (s.2.1 + 1))) (q + 8) s.2.2.1 := CdL_of C5 (ex _ _ (by omega)) (by funext j; exact ex _ _ (by omega))
  have A6 : u2 I5 4 5 (ii (s.2.1 + 1)) 11 2 = ii s.2.2.2.1 := by rw [ex _ _ (by omega)]; exact A5
  have V6 : u2 I5 4 5 (ii (s.2.1 + 1)) q 0 = ii s.2.2.2.2.length := by rw [ex _ _ (by omega)]; exact V5
  have D6 : u2 I5 4 5 (ii (s.2.1 + 1)) (q + 6) cs.length = ii s.2.2.1.length := by rw [ex _ _ (by omega)]; exact D5
  generalize u2 I5 4 5 (ii (s.2.1 + 1)) = I6 at T6 F6 P6 C6 A6 V6 D6 ⊢
  refine s_X6k_takeFormula (q := q) (g := s.2.2.2) (s := sy1 kd (lfK kd key) m true (s.2.1 + 1) [] 0 s.2.2.1 s.2.2.2) hL hR1 hcd (by omega) hR6 hY V6 p6 p7 T6.1 C6 (by omega) A6 p4 (by rw [T6.2.1, T6.2.2.1]) ?_
  generalize sy1 kd (lfK kd key) m true (s.2.1 + 1) [] 0 s.2.2.1 s.2.2.2 = s2 at hr ⊢
  intro I8 J8 y1 y2 y3 y4 y5
  have T8 : CTk kd key pl m I8 J8 s2.2.1 := CTk_of T6 y3 (fr_row y1 5 (by intro k; unfold aFok; omega)) (fr_row y1 6 (by intro k; unfold aFok; omega)) (fr_row y2 7 (by intro k; unfold aAtj; omega))
  have F8 : fr (aKr q) I I8 := fr_trans F6 (fr_sub y1 (by intro x k; unfold aFok aKr; omega))
  have P8 := KP_of (I' := I8) P6 (fun x k z => y1 _ _ (by unfold aFok; omega))
  by_cases hs2 : s2.1 = true
  rotate_left
  · rw [if_neg hs2] at hr ⊢
    subst hr
    exact b_X4_takeClause_142 (fun z => absurd rfl z) (fun _ => b_X4_takeClause_145 (k I8 J8 F8 (fr_trans q2 y2) T8 (fun z => by cases z)))
  rw [if_pos hs2] at hr ⊢
  obtain ⟨o1, o2, o3, o4, o5, o6, o7⟩ := y5 hs2
  refine b_X4_takeClause_142 (fun _ => ?_) (fun z => absurd (by decide) z)
  exact hend s2.2.1 I8 J8 s2.2.2.1 s2.2.2.2 (by omega) T8 F8 (fr_trans q2 y2) P8 (by rw [y1 _ _ (by unfold aFok; omega)]; exact D6) o1 (by omega) o2 o4 o5 o6 o7 hr
theorem s_X4_takeClauses {r : KR} (hB : KB q b S R) (h : KSt q kd key pl m I J n cs l g) (hcs : cs.length ≤ 24) (hC : CRd I J b ns) (hn40 : ns.length ≤ 40) (hr : pts kd key m (ns.map Prod.fst) 24 n cs l g = r) (k : ∀ I' J', fr (aKr q) I I' → fr (aAtj q) J J' → CTk kd key pl m I' J' r.2.1 → (r.1 = true → n < r.2.1 ∧ KSt q kd key pl m I' J' r.2.1 r.2.2.1 r.2.2.2.1 r.2.2.2.2 ∧ cs.length < r.2.2.1.length ∧ r.2.2.1.length ≤ cs.length + 24) → Q (some (some (.int (if r.1 = true then 1 else 0)))) (S, I', J', R, c)) : X xs L (d + 6) 51 0 [.ref 11, .null] [] (S, I, J, R, c) Q := by
  have hL := hB.1
  have hq := hB.2.2.2.2.1
  have hb1 := hB.2.2.2.2.2.2.2.2.1
  have hb2 := hB.2.2.2.2.2.2.2.2.2
  refine b_X4_takeClauses_0 ?_
  have main : ∀ (f i : Nat) (I1 : Nat → Nat → Int32) (J1 : Nat → Nat → Int64) (n1 : Nat) (cs1 : List Cl) (l1 : List Int32) (g1 : LeS), f + i = 24 → cs1.length = cs.length + i → n + i ≤ n1 → fr (aKr q) I I1 → fr (aAtj q) J J1 → KSt q kd key pl m I1 J1 n1 cs1 l1 g1 → pts kd key m (ns.map Prod.fst) f n1 cs1 l1 g1 = r → X xs L (d + 6) 51 2 [.ref 11, .int (ii i)] [] (S, I1, J1, R, c) Q := by
    intro f
    induction f with
    | zero =>
      intro i I1 J1 n1 cs1 l1 g1 a1 a2 a3 a4 a5 a6 a7
      rw [pts] at a7
      subst a7
      refine b_X4_takeClauses_2 (fun _ => b_X4_takeClauses_34 (k I1 J1 a4 a5 a6.1 (fun z => by cases z))) (fun z => ?_)
      exact absurd ((ii_le (n := 24) (by omega) (by omega)).2 (by omega)) z
    | succ f ih =>
      intro i I1 J1 n1 cs1 l1 g1 a1 a2 a3 a4 a5 a6 a7
      rw [pts] at a7
      refine b_X4_takeClauses_2 (fun z => ?_) (fun _ => ?_)
      · have := (ii_le (n := 24) (by omega) (by omega)).1 z; omega
      have hC1 : CRd I1 J1 b ns := ⟨by rw [a4 _ _ (by unfold aKr; omega)]; exact hC.1, fun i x hx => by rw [a5 _ _ (by unfold aAtj; omega), a4 _ _ (by unfold aKr; omega), a4 _ _ (by unfold aKr; omega), a4 _ _ (by unfold aKr; omega)]; exact hC.2 i x hx⟩
      refine b_X4_takeClauses_8 hL (s_X4_takeClause hB a6 (by omega) hC1 hn40 rfl (fun I2 J2 f1 f2 t1 t2 => ?_))
      generalize cla kd key m (ns.map Prod.fst) n1 cs1 l1 g1 = w at a7 t1 t2 ⊢
      by_cases z : w.1 = true
      · rw [if_pos z] at a7 ⊢
        obtain ⟨u1', u2', u3'⟩ := t2 z
        refine b_X4_takeClauses_12 (fun _ => ?_) (fun z => absurd (by decide) z)
        refine b_X4_takeClauses_17 hL (s_X6k_takeSign hL t1.1 (by decide) (fun y1 y2 => ?_) (fun y1 => ?_))
        · rw [t1.2.1] at y1
          rw [if_pos y1] at a7
          refine b_X4_takeClauses_23 (fun _ => b_X4_takeClauses_28 ?_) (fun z => absurd (by decide) z)
          rw [ii_add1]
          exact ih (i + 1) _ J2 _ _ _ _ (by omega) (by omega) (by omega) (fr_u _ (fr_trans a4 f1) (by unfold aKr; omega)) (fr_trans a5 f2) (KSt_st hq u2' y2) a7
        · rw [t1.2.1] at y1
          rw [if_neg y1] at a7
          subst a7
          refine b_X4_takeClauses_23 (fun z => absurd rfl z) (fun _ => b_X4_takeClauses_26 ?_)
          have hk := k I2 J2 (fr_trans a4 f1) (fr_trans a5 f2) t1 (fun _ => ⟨by omega, u2', by omega, by omega⟩)
          rw [if_pos z] at hk
          exact hk
      · rw [if_neg z] at a7 ⊢
        subst a7
        refine b_X4_takeClauses_12 (fun z => absurd rfl z) (fun _ => b_X4_takeClauses_15 ?_)
        have hk := k I2 J2 (fr_trans a4 f1) (fr_trans a5 f2) t1 (fun y => absurd y z)
        rw [if_neg z] at hk
        exact hk
  exact main 24 0 I J n cs l g rfl rfl (Nat.le_refl _) (fr_refl _ _) (fr_refl _ _) h hr
end KRD2
