/-! ===== P2: variable and atom of the model ===== -/
section MATOM
variable {xs : Nat → Int32} {L d : Nat} {S : Nat → Shp} {I : Nat → Nat → Int32} {J : Nat → Nat → Int64} {R : Nat → Nat → Nat} {c : Nat × Nat} {Q : Option (Option Value) → MH → Prop} {md T C : Nat} {kd : Nat → Int32} {key : Nat → Int64} {pl : Nat → Nat} {m n : Nat}
theorem s_Mvar {vs : List Int64} (hL : Lay S R) (hC : R 65 19 = C) (hY : LyCs S R C) (h : MC kd key pl m I J n) (hn : I C 8 = ii vs.length) (hv : NL J (C + 6) vs) (hv2 : vs.length ≤ 9) (k1 : ∀ v, ixl (J 68 n) vs = some v → Q (some (some (.int (ii v)))) (S, I, J, R, c)) (k2 : ixl (J 68 n) vs = none → vs.length < 9 → Q (some (some (.int (ii vs.length)))) (S, u2 I C 8 (ii (vs.length + 1)), u2 J (C + 6) vs.length (J 68 n), R, c)) (k3 : ixl (J 68 n) vs = none → ¬ vs.length < 9 → Q none (thM (S, u2 I 65 8 (ii (pl n)), J, R, c))) : X xs L (d + 9) 136 0 [.ref 65, .null] [] (S, I, J, R, c) Q := by
  refine b_X14_variable_0 ?_
  have main : ∀ (f i : Nat), vs.length - i = f → i ≤ vs.length → ixl (J 68 n) vs = (ixl (J 68 n) (vs.drop i)).map (· + i) → X xs L (d + 9) 136 2 [.ref 65, .int (ii i)] [] (S, I, J, R, c) Q := by
    intro f
    induction f with
    | zero =>
      intro i h1 h2 h3
      have hno : ixl (J 68 n) vs = none := by rw [h3, List.drop_eq_nil_of_le (by omega)]; rfl
      refine b_X14_variable_2 hL hC hY (fun _ => ?_) (fun z => ?_)
      · refine b_X14_variable_43 hL hC hY (fun z => ?_) (fun z => ?_)
        · rw [hn] at z
          have z' := (ii_le (n := 9) (by omega) (by omega)).1 z
          exact b_X14_variable_60 (b_X14_variable_61 hL (s_check hL h (fun _ => k3 hno (by omega)) (fun q => absurd rfl q)))
        · rw [hn] at z
          have z' : vs.length < 9 := by
            rcases Nat.lt_or_ge vs.length 9 with q | q
            · exact q
            · exact absurd ((ii_le (n := 9) (by omega) (by omega)).2 q) z
          refine b_X14_variable_56 (b_X14_variable_61 hL (s_check hL h (fun q => absurd q (by decide)) (fun _ => ?_)))
          refine b_X14_variable_64 hL hC hY (MC_in h) (by rw [hn]; exact ii_inb z' (by omega)) ?_
          rw [hn, ii_nat (by omega), ii_add1, ii_one, ii_sub (by omega), Nat.add_sub_cancel, MC_nat h]
          exact k2 hno z'
      · rw [hn, ii_le (by omega) (by omega)] at z; omega
    | succ f ih =>
      intro i h1 h2 h3
      have hi : i < vs.length := by omega
      refine b_X14_variable_2 hL hC hY (fun z => ?_) (fun _ => ?_)
      · rw [hn, ii_le (by omega) (by omega)] at z; omega
      have e : J (C + 6) i = vs[i] := hv i _ (List.getElem?_eq_getElem hi)
      rw [ixl_drop (J 68 n) vs i hi] at h3
      refine b_X14_variable_13 hL hC hY (ii_inb (by omega) (by omega)) (MC_in h) (fun z => ?_) (fun z => ?_)
      · rw [ii_nat (by omega), e, MC_nat h, lgc] at z
        rw [if_neg z] at h3
        refine b_X14_variable_37 ?_
        rw [ii_add1]
        exact ih (i + 1) (by omega) (by omega) h3
      · rw [ii_nat (by omega), e, MC_nat h, lgc] at z
        rw [if_pos (Classical.not_not.1 z)] at h3
        exact b_X14_variable_35 (k1 i h3)
  exact main vs.length 0 rfl (by omega) (by simp)
/-- what may be a leaf here -/
def glf (md : Nat) (kd : Nat → Int32) (key : Nat → Int64) (n : Nat) : Prop := kd n = (if md = 1 then 2 else 4) ∨ (kd n = 5 ∧ (key n = 48 ∨ key n = 49))
theorem lfM_bad {g : LeS} (hmd : md ≤ 1) (h : ¬ glf md kd key n) : lfM md kd key n g = none := by
  unfold glf at h
  unfold lfM
  by_cases q : md = 1
  · rw [if_pos q] at h ⊢
    unfold lfC
    split
    · unfold atC
      by_cases h5 : kd n = 5
      · rw [if_pos h5, if_neg (fun z => h (Or.inr ⟨h5, z⟩))]; rfl
      · rw [if_neg h5, if_neg (fun z => h (Or.inl z))]; rfl
    · rfl
  · rw [if_neg q] at h ⊢
    unfold lfK
    split
    · unfold atK
      by_cases h5 : kd n = 5
      · rw [if_pos h5, if_neg (fun z => h (Or.inr ⟨h5, z⟩))]; rfl
      · rw [if_neg h5, if_neg (fun z => h (Or.inl z))]; rfl
    · rfl
theorem lfM_full {g : LeS} (h : ¬ g.1 < 300) : lfM md kd key n g = none := by
  unfold lfM
  split
  · unfold lfC; rw [if_neg h]
  · unfold lfK; rw [if_neg h]
theorem lfM_num {g : LeS} (hg : g.1 < 300) (h5 : kd n = 5) (hk : key n = 48 ∨ key n = 49) : lfM md kd key n g = some ((-(key n)).toInt32, (g.1 + 1, g.2)) := by
  unfold lfM
  split
  · unfold lfC atC; rw [if_pos hg, if_pos h5, if_pos hk]; rfl
  · unfold lfK atK; rw [if_pos hg, if_pos h5, if_pos hk]; rfl
/-- a leaf is taken: what is left to show at the end -/
theorem leaf_end {d dp pd : Nat} {l : List Int32} {g g' : LeS} {I0 I2 : Nat → Nat → Int32} {J0 J2 : Nat → Nat → Int64} {x x2 x3 x4 : Int32} (hP : PB md T C S R) (h : MSt md T C kd key pl m I0 J0 n pd l g) (hn : n < m) (h33 : ¬ (kd n = 33 ∨ kd n = 40)) (hlf : lfM md kd key n g = some (x, g')) (hg : g'.1 = g.1 + 1) (hg3 : g.1 < 300) (hgv : g.2.length ≤ g'.2.length) (hx : lfx x)
    (f1 : fr (aMp md T C) I0 I2) (f2 : fr (aMpj md T C) J0 J2) (e7 : I2 65 7 = ii n) (e21 : I2 65 21 = ii (g.1 + 1)) (eT : I2 T 5 = ii (l.length + 1)) (ea : ∀ i, i < l.length → I2 (T + 1) i = I0 (T + 1) i ∧ I2 (T + 2) i = I0 (T + 2) i ∧ I2 (T + 3) i = I0 (T + 3) i ∧ I2 (T + 5) i = I0 (T + 5) i ∧ J2 (T + 4) i = J0 (T + 4) i) (h1 : I2 (T + 1) l.length = opc md x) (h2 : 0 ≤ x → (md = 1 → ∃ k, x = ii k ∧ k < m ∧ kd k = 2 ∧ J2 (T + 4) l.length = key k ∧ I2 (T + 5) l.length = ii (pl k)) ∧ (md = 0 → ∃ v, x = ii v ∧ v < g'.2.length ∧ I2 (T + 2) l.length = ii v)) (hC : md = 0 → I2 C 8 = ii g'.2.length ∧ NL J2 (C + 6) g'.2 ∧ g'.2.length ≤ 9) : PRt md T C kd key pl m I0 J0 n pd dp l g 5 (u2 I2 65 7 (ii (n + 1))) J2 (n + 1) (l ++ [x]) g' := by
  obtain ⟨hL, hT, hY, hT1, hC1, hTC, hmd, -⟩ := hP
  obtain ⟨g1, g2, g3, g4, g5, g6, g7, g8⟩ := h
  have uo : ∀ a k, ¬ (a = 65 ∧ k = 7) → u2 I2 65 7 (ii (n + 1)) a k = I2 a k := fun a k q => by rw [u2_if, if_neg q]
  refine ⟨fr_u _ f1 (by unfold aMp; omega), f2, ⟨MC_of g1 (u2_e _ _ _ _) hn ?_ ?_ ?_ (fr_row f2 68 (by intro k; unfold aMpj; omega)), ?_, ?_, ?_, by omega, ?_, TL_snoc g7 hgv ?_ ?_ ?_, fun q => ⟨?_, (hC q).2⟩⟩, by omega, by rw [List.length_append, List.length_singleton]; omega, ?_, by omega, ?_, fun w _ => ?_, nop_5⟩
  · funext j; rw [uo _ _ (by omega)]; exact f1 67 j (by unfold aMp; omega)
  · funext j; rw [uo _ _ (by omega)]; exact f1 69 j (by unfold aMp; omega)
  · funext j; rw [uo _ _ (by omega)]; exact f1 70 j (by unfold aMp; omega)
  · rw [uo _ _ (by omega), eT, List.length_append, List.length_singleton]
  · rw [List.length_append, List.length_singleton]; omega
  · rw [uo _ _ (by omega), e21, hg]
  · rw [uo _ _ (by omega), f1 65 20 (by unfold aMp; omega)]; exact g6
  · intro i hi
    obtain ⟨a1, a2, a3, a4, a5⟩ := ea i hi
    rw [uo _ _ (by omega), uo _ _ (by omega), uo _ _ (by omega)]
    exact ⟨a1, a2, a4, a5⟩
  · rw [uo _ _ (by omega)]; exact h1
  · rw [uo _ _ (by omega), uo _ _ (by omega)]; exact h2
  · rw [uo _ _ (by omega)]; exact (hC q).1
  · intro i hi
    obtain ⟨a1, a2, a3, a4, a5⟩ := ea i hi
    rw [uo _ _ (by omega), uo _ _ (by omega), ge_app hi]
    exact ⟨rfl, a2, a3⟩
  · rw [hg, show g.1 + 1 - g.1 + (10 - dp) = (10 - dp) + 1 by omega, List.length_append, List.length_singleton, Nat.add_sub_cancel]
    exact ⟨x, ge_len, Or.inl ⟨hx, rfl⟩⟩
  · rw [sy_o g1.2.1, if_neg h33, hlf]
theorem ps_atom {f : Nat} (hP : PB md T C S R) (ho : PS xs L S R c md T C kd key pl m f 131 [.null] 1 16 (fun _ => True)) : PS xs L S R c md T C kd key pl m (f + 1) 135 [.null] 5 12 (fun x => ¬ x = 33) := by
  intro d dp n pd l g I J Q hdp hf h33 h kT kR
  have hL := hP.1
  have hmd := hP.2.2.2.2.2.2.1
  have hT1 := hP.2.2.2.1
  have hC1 := hP.2.2.2.2.1
  have hTC := hP.2.2.2.2.2.1
  have hsg := TE_sg (MC_te h.1) (c := 40) (by decide)
  have hm2 := h.1.2.2.1
  have hnm := h.1.2.1
  have fF : fr (aMp md T C) I (u2 I 65 8 (ii (pl n))) := fr_u _ (fr_refl _ _) (by unfold aMp; omega)
  refine b_X14_atom_0 hL (s_here hL h.1 ?_)
  refine b_X14_atom_6 (fun z => ?_) (fun z => ?_)
  · have h40 : ¬ kd n = 40 := by intro e; rw [if_pos (hsg.2 e)] at z; exact absurd z (by decide)
    have hop : ¬ (kd n = 33 ∨ kd n = 40) := fun q => q.elim h33 h40
    have hbad : ¬ glf md kd key n → X xs L (d + 5 * (10 - dp) + 12) 135 109 [.ref 65, .int (ii dp), .null] [.ref 65] (S, I, J, R, c) Q := by
      intro hg
      refine b_X14_atom_109 (b_X14_atom_110 hL (s_check hL h.1 (fun _ => ?_) (fun q => absurd rfl q)))
      refine kT _ J n ⟨fF, fr_refl _ _, hnm, u2_e _ _ _ _, fun w _ => ?_⟩
      rw [sy_o hnm, if_neg hop, lfM_bad hmd hg]; exact ⟨rfl, rfl⟩
    have hgood : glf md kd key n → X xs L (d + 5 * (10 - dp) + 12) 135 105 [.ref 65, .int (ii dp), .null] [.ref 65] (S, I, J, R, c) Q := by
      intro hg
      have hn : n < m := MC_lt h.1 (by
        intro e
        rcases hg with q | q
        · rw [e] at q; split at q <;> exact absurd q (by decide)
        · rw [e] at q; exact absurd q.1 (by decide))
      refine b_X14_atom_105 (b_X14_atom_110 hL (s_check hL h.1 (fun q => absurd q (by decide)) (fun _ => ?_)))
      refine b_X14_atom_113 hL (fun z2 => ?_) (fun z2 => ?_)
      · rw [h.2.2.2.1] at z2
        have hg3 : ¬ g.1 < 300 := by have := (ii_le (n := 300) (by omega) (by have := h.2.2.2.2.1; omega)).1 z2; omega
        refine b_X14_atom_128 (b_X14_atom_129 hL (s_check hL h.1 (fun _ => ?_) (fun q => absurd rfl q)))
        refine kT _ J n ⟨fF, fr_refl _ _, hnm, u2_e _ _ _ _, fun w _ => ?_⟩
        rw [sy_o hnm, if_neg hop, lfM_full hg3]; exact ⟨rfl, rfl⟩
      · rw [h.2.2.2.1] at z2
        have hg3 : g.1 < 300 := by
          rcases Nat.lt_or_ge g.1 300 with q | q
          · exact q
          · exact absurd ((ii_le (n := 300) (by omega) (by have := h.2.2.2.2.1; omega)).2 q) z2
        refine b_X14_atom_124 (b_X14_atom_129 hL (s_check hL h.1 (fun q => absurd q (by decide)) (fun _ => ?_)))
        refine b_X14_atom_132 hL ?_
        rw [h.2.2.2.1, ii_add1]
        have h2 : MC kd key pl m (u2 I 65 21 (ii (g.1 + 1))) J n := MC_of h.1 (by rw [u2_k _ _ _ _ (by decide)]; exact h.1.1) hnm (by funext j; rw [u2_a _ _ _ _ (by decide)]) (by funext j; rw [u2_a _ _ _ _ (by decide)]) (by funext j; rw [u2_a _ _ _ _ (by decide)]) rfl
        have f2 : fr (aMp md T C) I (u2 I 65 21 (ii (g.1 + 1))) := fr_u _ (fr_refl _ _) (by unfold aMp; omega)
        have eo : ∀ a k, ¬ (a = 65 ∧ k = 21) → u2 I 65 21 (ii (g.1 + 1)) a k = I a k := fun a k q => by rw [u2_if, if_neg q]
        have e21 : u2 I 65 21 (ii (g.1 + 1)) 65 21 = ii (g.1 + 1) := u2_e _ _ _ _
        generalize u2 I 65 21 (ii (g.1 + 1)) = I1 at h2 f2 eo e21 ⊢
        have hl2 : l.length < 2000 := by have := h.2.2.1; omega
        have hcnt : I1 T 5 = ii l.length := by rw [eo _ _ (by omega)]; exact h.2.1
        have hlen : (l ++ [(0 : Int32)]).length - 1 = l.length := by rw [List.length_append, List.length_singleton]; omega
        refine s_here hL h2 ?_
        refine b_X14_atom_147 (fun z3 => ?_) (fun z3 => ?_)
        · have h5 : ¬ kd n = 5 := by
            intro e
            rw [if_pos ((TE_3 (MC_te h2)).2 e)] at z3; exact absurd z3 (by decide)
          have hlk : kd n = (if md = 1 then 2 else 4) := hg.elim (fun q => q) (fun q => absurd q.1 h5)
          refine b_X14_atom_170 hL (fun z4 => ?_) (fun z4 => ?_)
          · rw [eo _ _ (by omega), h.2.2.2.2.2.1] at z4
            have hm0 : md = 0 := by
              by_cases q : md = 1
              · rw [if_pos q] at z4; exact absurd z4 (by decide)
              · omega
            rw [if_neg (by omega)] at hlk
            obtain ⟨hC, hYC⟩ := hP.2.2.2.2.2.2.2 hm0
            obtain ⟨v1, v2, v3⟩ := h.2.2.2.2.2.2.2 hm0
            have hw : J 68 n = key n := TE_nm (MC_te h2) (Or.inr hlk)
            have hfin : ∀ (I2 : Nat → Nat → Int32) (J2 : Nat → Nat → Int64) (v : Nat) (vs' : List Int64), v < 9 → MC kd key pl m I2 J2 n → fr (aMp md T C) I I2 → fr (aMpj md T C) J J2 → (∀ a k, ¬ (a = 65 ∧ k = 21) → ¬ (a = C ∧ k = 8) → I2 a k = I a k) → I2 65 21 = ii (g.1 + 1) → J2 (T + 4) = J (T + 4) → lfM md kd key n g = some (ii v, (g.1 + 1, vs')) → g.2.length ≤ vs'.length → v < vs'.length → (I2 C 8 = ii vs'.length ∧ NL J2 (C + 6) vs' ∧ vs'.length ≤ 9) → X xs L (d + 5 * (10 - dp) + 12) 135 232 [.ref 65, .int (ii dp), .null] [.int (ii v), .int 86, .ref 65] (S, I2, J2, R, c) Q := by
              intro I2 J2 v vs' hv9 hM k1 k2 k3 k4 k5 k6 k7 k8 k9
              refine b_X14_atom_232 hL (s_tree (a := l.length) hL hP.2.1 hP.2.2.1 (by rw [k3 _ _ (by omega) (by omega)]; exact h.2.1) hl2 ?_)
              refine b_X14_atom_236 (b_X14_atom_237 hL ?_)
              have e7 : emI I2 T l.length 86 (ii v) (-1) 65 7 = ii n := by rw [em_o (by omega) (by omega) (by omega) (by omega)]; exact hM.1
              have hr := leaf_end (dp := dp) (I2 := emI I2 T l.length 86 (ii v) (-1)) (J2 := J2) (x2 := 0) (x3 := 0) (x4 := 0) (d := d) hP h hn hop k6 rfl hg3 k7 (Or.inl (by rw [ii_zero, ii_le (by omega) (by omega)]; omega)) (em_fr k1) k2 e7 (by rw [em_o (by omega) (by omega) (by omega) (by omega)]; exact k4) (by unfold emI; rw [u2_e]) (fun i hi => ?_) ?_ (fun _ => ⟨fun q => by omega, fun _ => ⟨v, rfl, k8, by rw [em_2, if_pos rfl]⟩⟩) (fun _ => ⟨by rw [em_o (by omega) (by omega) (by omega) (by omega)]; exact k9.1, k9.2⟩)
              · have := kR _ _ _ _ _ hr
                rw [List.length_append, List.length_singleton, Nat.add_sub_cancel] at this
                show Q _ (S, u2 (emI I2 T l.length 86 (ii v) (-1)) 65 7 (emI I2 T l.length 86 (ii v) (-1) 65 7 + 1), J2, R, c)
                rw [e7, ii_add1]
                exact this
              · rw [em_1, em_2, em_3, if_neg (by omega), if_neg (by omega), if_neg (by omega), em_o (b := T + 5) (by omega) (by omega) (by omega) (by omega), k5, k3 _ _ (by omega) (by omega), k3 _ _ (by omega) (by omega), k3 _ _ (by omega) (by omega), k3 _ _ (by omega) (by omega)]
                exact ⟨rfl, rfl, rfl, rfl, rfl⟩
              · rw [em_1, if_pos rfl, opc_ii (by omega), if_neg (by omega)]
            refine b_X14_atom_225 hL ?_
            refine s_Mvar hL hC hYC h2 (by rw [eo _ _ (by omega)]; exact v1) v2 v3 (fun v q => ?_) (fun q1 q2 => ?_) (fun q1 q2 => ?_)
            · have hv := ixl_lt _ _ _ q
              rw [hw] at q
              refine hfin I1 J v g.2 (by omega) h2 f2 (fr_refl _ _) (fun a k q1 _ => eo a k q1) e21 rfl ?_ (Nat.le_refl _) hv ⟨by rw [eo _ _ (by omega)]; exact v1, v2, v3⟩
              unfold lfM lfK atK
              rw [if_neg (by omega), if_pos hg3, if_neg h5, if_pos hlk, q]; rfl
            · rw [hw] at q1 ⊢
              refine hfin _ _ g.2.length (g.2 ++ [key n]) q2 (MC_of h2 (by rw [u2_a _ _ _ _ (by omega)]; exact h2.1) hnm (by funext j; rw [u2_a _ _ _ _ (by omega)]) (by funext j; rw [u2_a _ _ _ _ (by omega)]) (by funext j; rw [u2_a _ _ _ _ (by omega)]) (by funext j; rw [u2_a _ _ _ _ (by omega)])) (fr_u _ f2 (by unfold aMp; omega)) (fr_u _ (fr_refl _ _) (by unfold aMpj; omega)) (fun a k q3 q4 => by rw [u2_if, if_neg q4]; exact eo a k q3) (by rw [u2_a _ _ _ _ (by omega)]; exact e21) (by funext j; rw [u2_a _ _ _ _ (by omega)]) ?_ (by rw [List.length_append]; omega) (by rw [List.length_append, List.length_singleton]; omega) ⟨by rw [u2_e, List.length_append, List.length_singleton], NL_add v2 rfl, by rw [List.length_append, List.length_singleton]; omega⟩
              unfold lfM lfK atK
              rw [if_neg (by omega), if_pos hg3, if_neg h5, if_pos hlk, q1]
              simp only
              rw [if_pos q2]; rfl
            · rw [hw] at q1
              refine kT _ J n ⟨fr_u _ f2 (by unfold aMp; omega), fr_refl _ _, hnm, u2_e _ _ _ _, fun w _ => ?_⟩
              have : lfM md kd key n g = none := by
                unfold lfM lfK atK
                rw [if_neg (by omega), if_pos hg3, if_neg h5, if_pos hlk, q1]
                simp only
                rw [if_neg q2]; rfl
              rw [sy_o hnm, if_neg hop, this]; exact ⟨rfl, rfl⟩
          · rw [eo _ _ (by omega), h.2.2.2.2.2.1] at z4
            have hm1 : md = 1 := by
              by_cases q : md = 1
              · exact q
              · rw [if_neg q] at z4; exact absurd rfl z4
            rw [if_pos hm1] at hlk
            have hw : J 68 n = key n := TE_nm (MC_te h2) (Or.inl hlk)
            refine b_X14_atom_177 hL (s_tree (a := l.length) hL hP.2.1 hP.2.2.1 hcnt hl2 ?_)
            have hM : MC kd key pl m (emI I1 T l.length 78 (-1) (-1)) J n := MC_of h2 (by rw [em_o (by omega) (by omega) (by omega) (by omega)]; exact h2.1) hnm (by funext j; rw [em_o (by omega) (by omega) (by omega) (by omega)]) (by funext j; rw [em_o (by omega) (by omega) (by omega) (by omega)]) (by funext j; rw [em_o (by omega) (by omega) (by omega) (by omega)]) rfl
            refine b_X14_atom_185 hL hP.2.1 hP.2.2.1 (MC_in hM) (ii_inb hl2 (by omega)) (MC_in hM) (ii_inb hl2 (by omega)) ?_
            have e69 := hM.2.2.2.2.2 n hnm
            unfold emI at e69
            rw [ii_nat (by omega), MC_nat hM, hw, e69]
            refine b_X14_atom_237 hL ?_
            have e7 : u2 (emI I1 T l.length 78 (-1) (-1)) (T + 5) l.length (ii (pl n)) 65 7 = ii n := by rw [u2_a _ _ _ _ (by omega)]; exact hM.1
            have hr := leaf_end (dp := dp) (x := ii n) (g' := (g.1 + 1, g.2)) (I2 := u2 (emI I1 T l.length 78 (-1) (-1)) (T + 5) l.length (ii (pl n))) (J2 := u2 J (T + 4) l.length (key n)) (x2 := 0) (x3 := 0) (x4 := 0) (d := d) hP h hn hop (by unfold lfM lfC atC; rw [if_pos hm1, if_pos hg3, if_neg h5, if_pos hlk]; rfl) rfl hg3 (Nat.le_refl _) (Or.inl (by rw [ii_zero, ii_le (by omega) (by omega)]; omega)) (fr_u _ (em_fr f2) (by unfold aMp; omega)) (fr_u _ (fr_refl _ _) (by unfold aMpj; omega)) e7 (by rw [u2_a _ _ _ _ (by omega), em_o (by omega) (by omega) (by omega) (by omega)]; exact e21) (by rw [u2_a _ _ _ _ (by omega)]; unfold emI; rw [u2_e]) (fun i hi => ?_) ?_ (fun _ => ⟨fun _ => ⟨n, rfl, hn, hlk, u2_e _ _ _ _, u2_e _ _ _ _⟩, fun q => by omega⟩) (fun q => by omega)
            · have := kR _ _ _ _ _ hr
              rw [List.length_append, List.length_singleton, Nat.add_sub_cancel] at this
              show Q _ (S, u2 (u2 (emI I1 T l.length 78 (-1) (-1)) (T + 5) l.length (ii (pl n))) 65 7 (u2 (emI I1 T l.length 78 (-1) (-1)) (T + 5) l.length (ii (pl n)) 65 7 + 1), _, R, c)
              rw [e7, ii_add1]
              exact this
            · rw [u2_a _ _ _ _ (by omega), em_1, u2_a _ _ _ _ (by omega), em_2, u2_a _ _ _ _ (by omega), em_3, u2_k _ _ _ _ (by omega), u2_k _ _ _ _ (by omega), if_neg (by omega), if_neg (by omega), if_neg (by omega), em_o (b := T + 5) (by omega) (by omega) (by omega) (by omega), eo _ _ (by omega), eo _ _ (by omega), eo _ _ (by omega), eo _ _ (by omega)]
              exact ⟨rfl, rfl, rfl, rfl, rfl⟩
            · rw [u2_a _ _ _ _ (by omega), em_1, if_pos rfl, opc_ii (by omega), if_pos hm1]
        · have h5 : kd n = 5 := by
            apply (TE_3 (MC_te h2)).1
            by_cases e : I1 67 n = 3
            · exact e
            · rw [if_neg e] at z3; exact absurd rfl z3
          have hk : key n = 48 ∨ key n = 49 := by
            rcases hg with q | q
            · rw [h5] at q; split at q <;> exact absurd q (by decide)
            · exact q.2
          obtain ⟨v, w1, w2, w3, w4⟩ := TE_nx (MC_te h2) h5
          have hv : v ≤ 1 ∧ key n = Int64.ofNat (48 + v) := by
            rcases w4 with q | q
            · exact ⟨q.1, q.2.2⟩
            · exact absurd hk (fun z => z.elim q.1 q.2.1)
          have hx : (-(key n)).toInt32 = (if v = 0 then -48 else -49) ∧ (J 68 n).toInt32 = (if v = 0 then 0 else 1) := by
            rw [hv.2, w3]
            have : v = 0 ∨ v = 1 := by omega
            rcases this with q | q <;> subst q <;> decide
          refine b_X14_atom_150 hL (MC_in h2) ?_
          rw [MC_nat h2]
          refine s_tree (a := l.length) hL hP.2.1 hP.2.2.1 hcnt hl2 ?_
          refine b_X14_atom_166 (b_X14_atom_237 hL ?_)
          have e7 : emI I1 T l.length (J 68 n).toInt32 (-1) (-1) 65 7 = ii n := by rw [em_o (by omega) (by omega) (by omega) (by omega)]; exact h2.1
          have hxx : (-(key n)).toInt32 = -48 ∨ (-(key n)).toInt32 = -49 := by
            rw [hx.1]; split
            · exact Or.inl rfl
            · exact Or.inr rfl
          have hr := leaf_end (dp := dp) (x := (-(key n)).toInt32) (g' := (g.1 + 1, g.2)) (I2 := emI I1 T l.length (J 68 n).toInt32 (-1) (-1)) (J2 := J) (x2 := 0) (x3 := 0) (x4 := 0) (d := d) hP h hn hop (lfM_num hg3 h5 hk) rfl hg3 (Nat.le_refl _) (Or.inr hxx) (em_fr f2) (fr_refl _ _) e7 (by rw [em_o (by omega) (by omega) (by omega) (by omega)]; exact e21) (by unfold emI; rw [u2_e]) (fun i hi => ?_) ?_ (fun q => ?_) (fun q => ?_)
          · have := kR _ _ _ _ _ hr
            rw [List.length_append, List.length_singleton, Nat.add_sub_cancel] at this
            show Q _ (S, u2 (emI I1 T l.length (J 68 n).toInt32 (-1) (-1)) 65 7 (emI I1 T l.length (J 68 n).toInt32 (-1) (-1) 65 7 + 1), J, R, c)
            rw [e7, ii_add1]
            exact this
          · rw [em_1, em_2, em_3, if_neg (by omega), if_neg (by omega), if_neg (by omega), em_o (b := T + 5) (by omega) (by omega) (by omega) (by omega), eo _ _ (by omega), eo _ _ (by omega), eo _ _ (by omega), eo _ _ (by omega)]
            exact ⟨rfl, rfl, rfl, rfl, rfl⟩
          · rw [em_1, if_pos rfl, hx.1, hx.2]
            split <;> rfl
          · rcases hxx with e | e <;> rw [e] at q <;> exact absurd q (by decide)
          · obtain ⟨v1, v2, v3⟩ := h.2.2.2.2.2.2.2 q
            exact ⟨by rw [em_o (by omega) (by omega) (by omega) (by omega), eo _ _ (by omega)]; exact v1, v2, v3⟩
    have hnum : ¬ kd n = (if md = 1 then 2 else 4) → X xs L (d + 5 * (10 - dp) + 12) 135 70 [.ref 65, .int (ii dp), .null] [.ref 65] (S, I, J, R, c) Q := by
      intro hlk
      refine b_X14_atom_70 hL (s_here hL h.1 ?_)
      refine b_X14_atom_75 (fun z2 => ?_) (fun z2 => ?_)
      · refine hbad (fun q => q.elim hlk (fun q => ?_))
        rw [if_pos ((TE_3 (MC_te h.1)).2 q.1)] at z2; exact absurd z2 (by decide)
      · have h5 : kd n = 5 := by
          apply (TE_3 (MC_te h.1)).1
          by_cases e : I 67 n = 3
          · exact e
          · rw [if_neg e] at z2; exact absurd rfl z2
        obtain ⟨v, w1, w2, w3, w4⟩ := TE_nx (MC_te h.1) h5
        have hbad2 : ¬ (v ≤ 1 ∧ I 70 n = 1) → X xs L (d + 5 * (10 - dp) + 12) 135 109 [.ref 65, .int (ii dp), .null] [.ref 65] (S, I, J, R, c) Q := fun hq => hbad (fun q => q.elim hlk (fun q => by
          rcases w4 with w | w
          · exact hq ⟨w.1, w.2.1⟩
          · exact q.2.elim w.1 w.2.1))
        refine b_X14_atom_78 hL (MC_in h.1) (fun z3 => ?_) (fun z3 => ?_)
        · rw [MC_nat h.1, lgp, w3, num_le w1] at z3
          exact hbad2 (fun q => by omega)
        · rw [MC_nat h.1, lgp, w3, num_le w1] at z3
          refine b_X14_atom_92 hL (MC_in h.1) (fun z4 => ?_) (fun z4 => ?_)
          · rw [MC_nat h.1] at z4
            exact hbad2 (fun q => z4 q.2)
          · rw [MC_nat h.1] at z4
            refine hgood (Or.inr ⟨h5, ?_⟩)
            rcases w4 with w | w
            · rw [w.2.2]
              have : v = 0 ∨ v = 1 := by omega
              rcases this with q | q <;> subst q
              · exact Or.inl rfl
              · exact Or.inr rfl
            · exact absurd ⟨by omega, Classical.not_not.1 z4⟩ w.2.2
    refine b_X14_atom_50 hL (fun z1 => ?_) (fun z1 => ?_)
    · rw [h.2.2.2.2.2.1] at z1
      have hm0 : ¬ md = 1 := by intro q; rw [if_pos q] at z1; exact absurd z1 (by decide)
      refine b_X14_atom_63 (b_X14_atom_64 hL (s_here hL h.1 ?_))
      have hte := TE_2 (MC_te h.1)
      refine b_X14_atom_67 (fun z2 => hgood (Or.inl ?_)) (fun z2 => hnum (fun q => z2 ?_))
      · rw [if_neg hm0]
        apply hte.1
        by_cases e : I 67 n = 2
        · exact e
        · rw [if_neg e] at z2; exact absurd rfl z2
      · rw [if_neg hm0] at q
        rw [if_pos (hte.2 q)]; decide
    · rw [h.2.2.2.2.2.1] at z1
      have hm0 : md = 1 := by
        by_cases q : md = 1
        · exact q
        · rw [if_neg q] at z1; exact absurd rfl z1
      refine b_X14_atom_59 (b_X14_atom_64 hL (s_here hL h.1 ?_))
      have hte := TE_1 (MC_te h.1)
      refine b_X14_atom_67 (fun z2 => hgood (Or.inl ?_)) (fun z2 => hnum (fun q => z2 ?_))
      · rw [if_pos hm0]
        apply hte.1
        by_cases e : I 67 n = 1
        · exact e
        · rw [if_neg e] at z2; exact absurd rfl z2
      · rw [if_pos hm0] at q
        rw [if_pos (hte.2 q)]; decide
  · have hk : kd n = 40 := by
      apply hsg.1
      by_cases e : I 67 n = 40
      · exact e
      · rw [if_neg e] at z; exact absurd rfl z
    have hn : n < m := MC_lt h.1 (by rw [hk]; decide)
    refine b_X14_atom_9 (fun z2 => ?_) (fun z2 => ?_)
    · have hd : 10 ≤ dp := (ii_le (n := 10) (by omega) (by omega)).1 z2
      refine b_X14_atom_20 (b_X14_atom_21 hL (s_check hL h.1 (fun _ => ?_) (fun q => absurd rfl q)))
      refine kT _ J n ⟨fF, fr_refl _ _, hnm, u2_e _ _ _ _, fun w _ => ?_⟩
      rw [sy_o hnm, if_pos (Or.inr hk), if_pos hd]; exact ⟨rfl, rfl⟩
    · have hd : ¬ 10 ≤ dp := fun q => z2 ((ii_le (n := 10) (by omega) (by omega)).2 q)
      refine b_X14_atom_16 (b_X14_atom_21 hL (s_check hL h.1 (fun q => absurd q (by decide)) (fun _ => ?_)))
      refine b_X14_atom_24 hL ?_
      rw [h.1.1, ii_add1, ii_add1]
      have b5 := MSt_adv (pd' := pd) hP h hn (by omega)
      have hop : ∀ w, sy1 kd (lfM md kd key) m true n w dp l g = sy1 kd (lfM md kd key) m true (n + 1) (40 :: w) (dp + 1) l g := fun w => by
        rw [sy_o hnm, if_pos (Or.inr hk), if_neg hd, hk]
      have fA : fr (aMp md T C) I (u2 I 65 7 (ii (n + 1))) := fr_u _ (fr_refl _ _) (by unfold aMp; omega)
      rw [show d + 5 * (10 - dp) + 11 = d + 5 * (10 - (dp + 1)) + 16 by omega]
      refine ho d (dp + 1) (n + 1) pd l g _ J _ (by omega) (by omega) trivial b5 (fun I2 J2 p q => ?_) (fun I2 J2 n2 l2 g2 q => ?_)
      · exact kT I2 J2 p ⟨fr_trans fA q.1, q.2.1, q.2.2.1, q.2.2.2.1, fun w hw => by rw [hop w]; exact q.2.2.2.2 _ wkl_40⟩
      · obtain ⟨q1, q2, q3, q4, q5, q6, q7, q8, q9, q10⟩ := q
        have hsg2 := TE_sg (MC_te q3.1) (c := 41) (by decide)
        refine b_X14_atom_41 hL (s_take hL q3.1 (fun z5 => ?_) (fun z5 => ?_))
        · have hk2 : ¬ kd n2 = 41 := fun e => z5 (hsg2.2 e)
          refine kT _ J2 n2 ⟨fr_u _ (fr_trans fA q1) (by unfold aMp; omega), q2, q3.1.2.1, u2_e _ _ _ _, fun w _ => ?_⟩
          rw [hop w, q9 _ wkl_40, sy_bad q3.1.2.1 hk2 q10]; exact ⟨rfl, rfl⟩
        · have hk2 : kd n2 = 41 := hsg2.1 z5
          have hn2 : n2 < m := MC_lt q3.1 (by rw [hk2]; decide)
          have hT2 : ∀ (I9 : Nat → Nat → Int32) (k : Nat) (v : Int32), u2 I9 65 k v (T + 2) = I9 (T + 2) := fun I9 k v => by funext j; rw [u2_a _ _ _ _ (by omega)]
          have hT3 : ∀ (I9 : Nat → Nat → Int32) (k : Nat) (v : Int32), u2 I9 65 k v (T + 3) = I9 (T + 3) := fun I9 k v => by funext j; rw [u2_a _ _ _ _ (by omega)]
          refine b_X14_atom_48 (kR _ J2 (n2 + 1) l2 g2 ⟨fr_u _ (fr_trans fA q1) (by unfold aMp; omega), q2, MSt_adv hP q3 hn2 (by omega), by omega, q5, fun i hi => ?_, q7, ?_, fun w _ => ?_, nop_5⟩)
          · obtain ⟨c1, c2, c3⟩ := q6 i hi
            rw [hT2] at c2 ⊢
            rw [hT3] at c3 ⊢
            exact ⟨c1, c2, c3⟩
          · rw [hT2, hT3]
            exact tre_mono _ _ _ _ (by omega) q8
          · rw [hop w, q9 _ wkl_40, sy_cl q3.1.2.1 hk2]
theorem ps_all (hP : PB md T C S R) : ∀ f, PS xs L S R c md T C kd key pl m f 134 [] 5 13 (fun _ => True) ∧ PS xs L S R c md T C kd key pl m f 131 [.null] 1 16 (fun _ => True)
  | 0 => ⟨fun d dp n pd l g I J Q _ hf _ h => by have := h.1.2.1; omega, fun d dp n pd l g I J Q _ hf _ h => by have := h.1.2.1; omega⟩
  | f + 1 => by
    have ih := ps_all hP f
    have h1 := ps_not hP (ps_atom hP ih.2) ih.1
    exact ⟨h1, ps_ors hP (ps_xors hP (ps_ands hP h1))⟩
end MATOM
