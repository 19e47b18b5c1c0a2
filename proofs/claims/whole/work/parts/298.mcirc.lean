/-! ===== P2: circuit() of the model ===== -/
theorem layS_le : layS.all (fun p => decide (p.1 ≤ 118)) = true := by decide +kernel
theorem Lay_th {S : Nat → Shp} {R : Nat → Nat → Nat} {a : Nat} {v : Shp} (h : Lay S R) (ha : 118 < a) : Lay (u1 S a v) R := by
  refine ⟨fun p hp => ?_, h.2⟩
  have := of_decide_eq_true (List.all_eq_true.1 layS_le p hp)
  rw [u1_if, if_neg (by omega)]; exact h.1 p hp
theorem LyTr_u2 {S : Nat → Shp} {R : Nat → Nat → Nat} {a x y v : Nat} (h : LyTr S R a) (hx : x < a ∨ a + 5 < x) : LyTr S (u2 R x y v) a := by
  obtain ⟨h1, h2, h3, h4, h5, h6⟩ := h
  have e : ∀ k, u2 R x y v a k = R a k := fun k => by rw [u2_a _ _ _ _ (by omega)]
  exact ⟨h1, by rw [e]; exact h2, by rw [e]; exact h3, by rw [e]; exact h4, by rw [e]; exact h5, by rw [e]; exact h6⟩
theorem LyNo_u2 {S : Nat → Shp} {R : Nat → Nat → Nat} {a x y v : Nat} (h : LyNo S R a) (hx : x < a ∨ a + 4 < x) : LyNo S (u2 R x y v) a := by
  obtain ⟨h1, h2, h3, h4, h5⟩ := h
  have e : ∀ k, u2 R x y v a k = R a k := fun k => by rw [u2_a _ _ _ _ (by omega)]
  exact ⟨h1, by rw [e]; exact h2, by rw [e]; exact h3, by rw [e]; exact h4, by rw [e]; exact h5⟩
def aMc (N T : Nat) (x k : Nat) : Prop := (x = 65 ∧ ¬ k = 22) ∨ x = 67 ∨ x = 69 ∨ x = 70 ∨ (T ≤ x ∧ x ≤ T + 5) ∨ (N ≤ x ∧ x ≤ N + 4) ∨ x = 118
def aMcj (N T : Nat) (x _k : Nat) : Prop := x = 68 ∨ (T ≤ x ∧ x ≤ T + 5) ∨ (N ≤ x ∧ x ≤ N + 4)
section MCIRC
variable {xs : Nat → Int32} {L d : Nat} {S : Nat → Shp} {I : Nat → Nat → Int32} {J : Nat → Nat → Int64} {R : Nat → Nat → Nat} {c : Nat × Nat} {Q : Option (Option Value) → MH → Prop} {N T N0 T0 : Nat}
theorem s_X14_circuit {len m : Nat} {kd : Nat → Int32} {key : Nat → Int64} {pl : Nat → Nat} (hL : Lay S R) (hT : LyTr S R T) (hN : LyNo S R N) (hT1 : 70 < T) (hT2 : T < 78) (hN1 : 82 < N) (hN2 : N < 89) (r10 : R 65 10 = T) (r12 : R 65 12 = N) (r9 : R 65 9 = T0) (r11 : R 65 11 = N0) (hc : 118 ≤ c.1) (hl : I 65 1 = ii len) (hl2 : len ≤ 2000) (hb : ∀ i, i < len → byt (I 66 i)) (hTK : TKP (I 66) len kd key pl m) (kF : ∀ p, cFlt kd key m p → ∀ I' J', fr (aMc N T) I I' → fr (aMcj N T) J J' → I' 65 1 = 0 → Q (some (some (.int (ii (pl p))))) (u1 S (c.1 + 1) (.inl 14), I', J', u2 (u2 R 65 17 T) 65 18 N, c.1 + 1, c.2 + 6)) (kO : ∀ ns l, cOk kd key m ns l → ∀ I' J', fr (aMc N T) I I' → fr (aMcj N T) J J' → I' 65 1 = 0 → MCr N T I' J' ns l → Q (some (some (.int (-2)))) (S, u2 I' 65 22 1, J', u2 (u2 (u2 (u2 (u2 (u2 (u2 R 65 17 T) 65 18 N) 65 10 T0) 65 9 T) 65 12 N0) 65 11 N) 65 13 0, c)) : X xs L (d + 704) 143 0 [.ref 65, .null] [] (S, I, J, R, c) Q := by
  have hL1 : Lay S (u2 (u2 R 65 17 T) 65 18 N) := Lay_u2 (Lay_u2 hL (by decide +kernel)) (by decide +kernel)
  have hT' : LyTr S (u2 (u2 R 65 17 T) 65 18 N) T := LyTr_u2 (LyTr_u2 hT (by omega)) (by omega)
  have hN' : LyNo S (u2 (u2 R 65 17 T) 65 18 N) N := LyNo_u2 (LyNo_u2 hN (by omega)) (by omega)
  have hNB : NB N T S (u2 (u2 R 65 17 T) 65 18 N) := ⟨hL1, hN', u2_e _ _ _ _, hN1, hN2, ⟨hL1, by rw [u2_k _ _ _ _ (by decide), u2_e], hT', hT1, by omega, by omega, by omega, fun q => by omega⟩, hT2⟩
  refine b_X14_circuit_0 hL (s_X14_readTokens (len := len) hL hl hl2 hb ?_)
  intro I1 J1 f1 f2 t1 t2 t3 t4
  refine b_X14_circuit_4 hL r10 hT r12 hN ?_
  have hTm := hTK.1
  rw [← hTm] at t2 t3
  have hTKM := TKM_mk hl2 hb hTK t1 t2 t3
  have eo : ∀ x k, ¬ (x = T ∧ k = 5) → ¬ (x = N ∧ k = 4) → ¬ x = 65 → (u2 (u2 (u2 (u2 (u2 I1 T 5 0) N 4 0) 65 20 1) 65 21 0) 65 7 0) x k = I1 x k := fun x k q1 q2 q3 => by
    rw [u2_a _ _ _ _ q3, u2_a _ _ _ _ q3, u2_a _ _ _ _ q3, u2_if, if_neg q2, u2_if, if_neg q1]
  have e7 : (u2 (u2 (u2 (u2 (u2 I1 T 5 0) N 4 0) 65 20 1) 65 21 0) 65 7 0) 65 7 = ii 0 := by rw [u2_e]; rfl
  have e21 : (u2 (u2 (u2 (u2 (u2 I1 T 5 0) N 4 0) 65 20 1) 65 21 0) 65 7 0) 65 21 = ii 0 := by rw [u2_k _ _ _ _ (by decide), u2_e]; rfl
  have e20 : (u2 (u2 (u2 (u2 (u2 I1 T 5 0) N 4 0) 65 20 1) 65 21 0) 65 7 0) 65 20 = 1 := by rw [u2_k _ _ _ _ (by decide), u2_k _ _ _ _ (by decide), u2_e]
  have eN : (u2 (u2 (u2 (u2 (u2 I1 T 5 0) N 4 0) 65 20 1) 65 21 0) 65 7 0) N 4 = ii 0 := by rw [u2_a _ _ _ _ (by omega), u2_a _ _ _ _ (by omega), u2_a _ _ _ _ (by omega), u2_e]; rfl
  have eT : (u2 (u2 (u2 (u2 (u2 I1 T 5 0) N 4 0) 65 20 1) 65 21 0) 65 7 0) T 5 = ii 0 := by rw [u2_a _ _ _ _ (by omega), u2_a _ _ _ _ (by omega), u2_a _ _ _ _ (by omega), u2_a _ _ _ _ (by omega), u2_e]; rfl
  have e1 : (u2 (u2 (u2 (u2 (u2 I1 T 5 0) N 4 0) 65 20 1) 65 21 0) 65 7 0) 65 1 = 0 := by rw [u2_k _ _ _ _ (by decide), u2_k _ _ _ _ (by decide), u2_k _ _ _ _ (by decide), u2_a _ _ _ _ (by omega), u2_a _ _ _ _ (by omega)]; exact t4
  have F1 : fr (aMc N T) I (u2 (u2 (u2 (u2 (u2 I1 T 5 0) N 4 0) 65 20 1) 65 21 0) 65 7 0) := fr_u _ (fr_u _ (fr_u _ (fr_u _ (fr_u _ (fr_sub f1 (by intro x k; unfold aMt aMc; omega)) (by unfold aMc; omega)) (by unfold aMc; omega)) (by unfold aMc; omega)) (by unfold aMc; omega)) (by unfold aMc; omega)
  have G1 : fr (aMcj N T) J J1 := fr_sub f2 (by intro x k; unfold aMj aMcj; omega)
  generalize (u2 (u2 (u2 (u2 (u2 I1 T 5 0) N 4 0) 65 20 1) 65 21 0) 65 7 0) = I2 at eo e7 e21 e20 eN eT e1 F1 ⊢
  have hM0 : MIt N T ([] : List Nd).length kd key pl m I2 J1 0 [] [] (0, []) := by
    refine ⟨⟨e7, by omega, TKM_of hTKM (by funext j; exact eo _ _ (by omega) (by omega) (by omega)) (by funext j; exact eo _ _ (by omega) (by omega) (by omega)) (by funext j; exact eo _ _ (by omega) (by omega) (by omega)) rfl⟩, eN, by simp, fun i x hx => by simp at hx, ⟨[], rfl, by simp, fun i x y hi => by simp at hi⟩, eT, by simp, e21, by simp only; omega, e20, fun i x hx => by simp at hx⟩
  have h0 : kd m = 0 := hTK.2.2.1
  have thr : ∀ (I' : Nat → Nat → Int32) (J' : Nat → Nat → Int64) (v : Int32), I' 65 8 = v → Q (some (some (.int v))) (u1 S (c.1 + 1) (.inl 14), I', J', u2 (u2 R 65 17 T) 65 18 N, c.1 + 1, c.2 + 6) → X xs L (d + 704) 143 74 [.ref 65, .null] [] (thM (S, I', J', u2 (u2 R 65 17 T) 65 18 N, c)) Q := by
    intro I' J' v hv q
    subst hv
    exact b_X14_circuit_74 (Lay_th hL1 (show 118 < c.1 + 1 by omega)) q
  have main : ∀ (f : Nat) (I' : Nat → Nat → Int32) (J' : Nat → Nat → Int64) (n' : Nat) (ns : List Nd) (l : List Int32) (g : LeS), m < n' + f → fr (aMc N T) I I' → fr (aMcj N T) J J' → I' 65 1 = 0 → MIt N T ns.length kd key pl m I' J' n' ns l g → its kd key m f n' ns l g = its0 kd key m → X xs L (d + 704) 143 51 [.ref 65, .null] [] (S, I', J', u2 (u2 R 65 17 T) 65 18 N, c) Q := by
    intro f
    induction f with
    | zero => intro I' J' n' ns l g g1 g2 g3 g4 g5; have := g5.1.2.1; omega
    | succ f ih =>
      intro I' J' n' ns l g g1 g2 g3 g4 g5 g6
      have hte := TE_0 (MC_te g5.1)
      rw [its] at g6
      refine b_X14_circuit_51 hL1 (s_here hL1 g5.1 ?_)
      refine b_X14_circuit_56 (fun z => ?_) (fun z => ?_)
      · have hk : kd n' = 0 := by
          apply hte.1
          by_cases e : I' 67 n' = 0
          · exact e
          · rw [if_neg e] at z; exact absurd rfl z
        rw [if_pos hk] at g6
        have hP := its_P (key := key) h0 (m + 1) 0 [] [] (0, []) (by omega) (fun x hx => by simp at hx)
        have hP2 : (its0 kd key m).1 = true → ∀ x ∈ (its0 kd key m).2.2.2.1, cdP kd m x := hP
        rw [← g6] at hP2
        have hr1 : (its0 kd key m).1 = true := by rw [← g6]
        have hrs : rsl0 kd key m = rsl (ns.map Prod.fst) key l := by unfold rsl0; rw [← g6]
        have hns : (its0 kd key m).2.2.1 = ns := by rw [← g6]
        refine b_X14_circuit_66 hL1 (s_Mfinish hNB g5 (hP2 rfl) (fun t q I3 q1 q2 => ?_) (fun q i x q1 q2 q3 I3 q4 q5 => ?_) (fun q1 q2 I3 q3 q4 => ?_))
        · refine thr I3 J' _ q2 (kF t (Or.inr (Or.inl ⟨hr1, by rw [hrs]; exact q⟩)) I3 J' (fr_trans g2 (fr_sub q1 (by intro x k; unfold aMf aMc; omega))) g3 (by rw [q1 _ _ (by unfold aMf; omega)]; exact g4))
        · refine thr I3 J' _ q5 (kF _ (Or.inr (Or.inr ⟨hr1, by rw [hrs]; exact q, i, x, by rw [hns]; exact q1, rfl, by rw [hrs, hns]; exact q2, by rw [hrs, hns]; exact q3⟩)) I3 J' (fr_trans g2 (fr_sub q4 (by intro x k; unfold aMf aMc; omega))) g3 (by rw [q4 _ _ (by unfold aMf; omega)]; exact g4))
        · refine b_X14_circuit_70 ?_
          refine b_X14_circuit_79 (q_65_9 := T0) (q_65_17 := T) (q_65_11 := N0) (q_65_18 := N) hL1 (by rw [u2_k _ _ _ _ (by decide), u2_k _ _ _ _ (by decide)]; exact r9) (by rw [u2_k _ _ _ _ (by decide), u2_e]) (by rw [u2_k _ _ _ _ (by decide), u2_k _ _ _ _ (by decide)]; exact r11) (u2_e _ _ _ _) ?_
          exact kO ns _ ⟨hr1, hns.symm, by rw [hrs]; exact q1, by rw [hrs], q2⟩ I3 J' (fr_trans g2 (fr_sub q3 (by intro x k; unfold aMf aMc; omega))) g3 (by rw [q3 _ _ (by unfold aMf; omega)]; exact g4) q4
      · have hk : ¬ kd n' = 0 := fun e => by rw [if_pos (hte.2 e)] at z; exact z (by decide)
        rw [if_neg hk] at g6
        refine b_X14_circuit_59 hL1 (s_Mitem hNB g5 rfl (fun q I3 J3 q1 q2 q3 => ?_) (fun q I3 J3 q1 q2 q3 q4 => ?_))
        · rw [if_neg (by rw [q]; decide)] at g6
          refine thr I3 J3 _ q3 (kF _ (Or.inl ⟨by rw [← g6]; exact q, by rw [← g6]⟩) I3 J3 (fr_trans g2 (fr_sub q1 (by intro x k; unfold aMi aMc; omega))) (fr_trans g3 (fr_sub q2 (by intro x k; unfold aMij aMcj; omega))) (by rw [q1 _ _ (by unfold aMi; omega)]; exact g4))
        · rw [if_pos q] at g6
          refine b_X14_circuit_63 (ih I3 J3 _ _ _ _ (by omega) (fr_trans g2 (fr_sub q1 (by intro x k; unfold aMi aMc; omega))) (fr_trans g3 (fr_sub q2 (by intro x k; unfold aMij aMcj; omega))) (by rw [q1 _ _ (by unfold aMi; omega)]; exact g4) q4 g6)
  exact main (m + 1) I2 J1 0 [] [] (0, []) (by omega) F1 G1 e1 hM0 rfl
end MCIRC
