/-! ===== P2: the model's values: the clauses given, work ===== -/
section MW2
variable {xs : Nat → Int32} {L : Nat} {S : Nat → Shp} {J : Nat → Nat → Int64} {R : Nat → Nat → Nat} {c : Nat × Nat} {N T C K a t gv nv : Nat} {ns : List Nd} {l : List Int32} {cs : List Cl} {kl : List Int32} {I0 : Nat → Nat → Int32}
theorem coversE {I : Nat → Nat → Int32} {u n : Nat} {x : Cl} (hu : u < 48) (h1 : I (C + 1) u = ii x.1) (h4 : I (C + 4) u = ii x.2.2.2.2.1) (h5 : I (C + 5) u = ii x.2.2.2.2.2) (hx : x.1 < 40) (hx2 : x.2.2.2.2.1 < 12) (hx3 : x.2.2.2.2.2 < 12) (hn : n < 40) (ht : t < 12) : f_X14_covers I C (ii u) (ii n) (ii t) = bI (decide (x.1 = n ∧ x.2.2.2.2.1 ≤ t ∧ t ≤ x.2.2.2.2.2)) := by
  unfold f_X14_covers
  have i1 : ii x.1 = ii n ↔ x.1 = n := ii_inj (by omega) (by omega)
  have i2 : ii t < ii x.2.2.2.2.1 ↔ t < x.2.2.2.2.1 := ii_lt (by omega) (by omega)
  have i3 : ii x.2.2.2.2.2 < ii t ↔ x.2.2.2.2.2 < t := ii_lt (by omega) (by omega)
  rw [ii_nat (by omega), h1, h4, h5]
  simp only [i1, i2, i3]
  unfold bI
  by_cases e1 : x.1 = n
  · rw [if_neg (fun z => z e1)]
    by_cases e2 : t < x.2.2.2.2.1
    · rw [if_pos e2, if_neg (by rw [decide_eq_true_eq]; omega)]
    · rw [if_neg e2]
      by_cases e3 : x.2.2.2.2.2 < t
      · rw [if_pos e3, if_neg (by rw [decide_eq_true_eq]; omega)]
      · rw [if_neg e3, if_pos (by rw [decide_eq_true_eq]; omega)]
  · rw [if_pos e1, if_neg (by rw [decide_eq_true_eq]; omega)]
/-- the loop over the clauses given -/
theorem s_Mgiv {I1 : Nat → Nat → Int32} {n d : Nat} {y : Int32} {e0 : Bool} {Q : Option (Option Value) → MH → Prop} (hM : MJ S R N T C K) (hS : SF N T C K J ns l cs gv kl nv a I1) (ha : a < 512) (ht : t < 12) (hn : n < 40) (hg : gv ≤ 24) (hgl : gv < cs.length) (hc : cs.length ≤ gv + 24) (hcs : ∀ x ∈ cs, x.1 < 40 ∧ x.2.2.2.2.1 < 12 ∧ x.2.2.2.2.2 < 12) (hy : v3 y) (h13 : I1 113 a = bI e0) (k : ∀ I2 v5, (∀ x k, ¬ (x = 113 ∧ k = a) → I2 x k = I1 x k) → I2 113 a = bI (e0 || (gfd cs (lvA nv a) kl t n gv y).2) → X xs L (d + 312) 154 182 [.ref 65, .int (ii n), .int (ii t), .int (gfd cs (lvA nv a) kl t n gv y).1, .int (ii gv), v5] [] (S, I2, J, R, c) Q) : X xs L (d + 312) 154 78 [.ref 65, .int (ii n), .int (ii t), .int y, .null, .null] [] (S, I1, J, R, c) Q := by
  have hM' := hM
  obtain ⟨hL, hT, hYT, hN, hYN, hC, hYC, hK, hYK, hT2, hN2, hK2, hC2⟩ := hM'
  refine b_X14_work_78 ?_
  have main : ∀ (f u : Nat) (v5 : Value) (I2 : Nat → Nat → Int32), gv - u = f → u ≤ gv → (∀ x k, ¬ (x = 113 ∧ k = a) → I2 x k = I1 x k) → I2 113 a = bI (e0 || (gfd cs (lvA nv a) kl t n u y).2) → X xs L (d + 312) 154 81 [.ref 65, .int (ii n), .int (ii t), .int (gfd cs (lvA nv a) kl t n u y).1, .int (ii u), v5] [] (S, I2, J, R, c) Q := by
    intro f
    induction f with
    | zero =>
      intro u v5 I2 g1 g2 g3 g4
      have e : u = gv := by omega
      subst e
      refine b_X14_work_81 hL hC hYC (fun _ => k I2 v5 g3 g4) (fun z => ?_)
      rw [g3 _ _ (by omega), hS.2.1.1] at z; exact absurd (Int32.le_refl _) z
    | succ f ih =>
      intro u v5 I2 g1 g2 g3 g4
      have hu : u < gv := by omega
      have hx := ge_lt (show u < cs.length by omega)
      have hmix : mix gv u = u := by unfold mix; rw [if_pos hu]
      have hS2 : SF N T C K J ns l cs gv kl nv a I2 := SF_of hM hS (fun x k hxk => g3 x k (fun z => hxk (by unfold aJd; omega)))
      obtain ⟨m1, m2, m3, m4, m5, m6, m7, m8, m9⟩ := hS2.2.1.2.2.2.2.2.2.1 u _ hx
      rw [hmix] at m1 m2 m3 m4 m5
      obtain ⟨x1, x2, x3⟩ := hcs _ (List.getElem_mem (show u < cs.length by omega))
      have hb : inb (ii u) 48 = true := ii_inb (by omega) (by omega)
      have hy2 : v3 (gfd cs (lvA nv a) kl t n u y).1 := gfd_v3 hy
      refine b_X14_work_81 hL hC hYC (fun z => ?_) (fun _ => ?_)
      · rw [g3 _ _ (by omega), hS.2.1.1, ii_le (by omega) (by omega)] at z; omega
      refine b_X14_work_93 hL hC (s_X14_covers hYC hb (fun _ => hb) (fun _ _ => hb) ?_)
      rw [coversE (x := cs[u]) (by omega) m1 m4 m5 x1 x2 x3 hn ht]
      have hnext : ∀ (v5 : Value) (I3 : Nat → Nat → Int32) (r : Int32), r = (gfd cs (lvA nv a) kl t n (u + 1) y).1 → (∀ x k, ¬ (x = 113 ∧ k = a) → I3 x k = I1 x k) → I3 113 a = bI (e0 || (gfd cs (lvA nv a) kl t n (u + 1) y).2) → X xs L (d + 312) 154 176 [.ref 65, .int (ii n), .int (ii t), .int r, .int (ii u), v5] [] (S, I3, J, R, c) Q := by
        intro v5 I3 r hr z1 z2
        refine b_X14_work_176 ?_
        rw [ii_add1, hr]
        exact ih (u + 1) v5 I3 (by omega) (by omega) z1 z2
      have hst := gfd_s (lv := lvA nv a) (kl := kl) (t := t) (n := n) (y := y) hx
      by_cases hcv : cs[u].1 = n ∧ cs[u].2.2.2.2.1 ≤ t ∧ t ≤ cs[u].2.2.2.2.2
      · rw [decide_eq_true hcv]
        refine b_X14_work_104 (fun z => absurd z (by decide)) (fun _ => ?_)
        refine b_X14_work_107 hL ?_
        have happ := s_Mapp (xs := xs) (L := L) (J := J) (c := c) (d := d) (j := u) (Q := Kc xs L (d + 312) 154 113 [.ref 65, .int (ii n), .int (ii t), .int (gfd cs (lvA nv a) kl t n u y).1, .int (ii u), v5] [] Q) hL hK hYK hC hYC hS2.2.2 ha hS2.2.1 hx hg hc
        rw [hmix] at happ
        refine happ ?_
        by_cases hho : holB (lvA nv a) kl cs[u] = true
        · rw [hho]
          rw [if_pos ⟨hcv, hho⟩] at hst
          refine b_X14_work_113 (fun _ => ?_) (fun z => absurd (by decide) z)
          refine b_X14_work_119 hL hC hYC hb ?_
          rw [ii_nat (by omega)]
          have hsay := s_Msays (xs := xs) (L := L) (J := J) (c := c) (d := d + 1) (j := u) (Q := Kc xs L (d + 312) 154 133 [.ref 65, .int (ii n), .int (ii t), .int (gfd cs (lvA nv a) kl t n u y).1, .int (ii u), v5] [] Q) hL hK hYK hC hYC hS2.2.2 ha hS2.2.1 hx
          rw [hmix] at hsay
          refine hsay ?_
          have h141 : X xs L (d + 312) 154 141 [.ref 65, .int (ii n), .int (ii t), .int (gfd cs (lvA nv a) kl t n u y).1, .int (ii u), v5] [.int (bI (sayB (lvA nv a) kl cs[u]))] (S, I2, J, R, c) Q := by
            revert hst hy2 g4
            generalize gfd cs (lvA nv a) kl t n u y = st
            generalize sayB (lvA nv a) kl cs[u] = sb
            intro g4 hy2 hst
            have h164 : ∀ I3 : Nat → Nat → Int32, (∀ x k, ¬ (x = 113 ∧ k = a) → I3 x k = I1 x k) → I3 113 a = bI (e0 || (gs st sb).2) → X xs L (d + 312) 154 164 [.ref 65, .int (ii n), .int (ii t), .int st.1, .int (ii u), .int (bI sb)] [] (S, I3, J, R, c) Q := by
              intro I3 z1 z2
              refine b_X14_work_164 (fun w => b_X14_work_174 (b_X14_work_175 (hnext _ I3 _ ?_ z1 (by rw [hst]; exact z2)))) (fun w => b_X14_work_169 (b_X14_work_175 (hnext _ I3 _ ?_ z1 (by rw [hst]; exact z2))))
              · rw [hst]; unfold gs; simp only; rw [if_neg w]
              · rw [hst]; unfold gs; simp only; rw [if_pos (Classical.not_not.1 w)]
            refine b_X14_work_141 (fun w => h164 I2 g3 ?_) (fun w => b_X14_work_148 (fun w2 => h164 I2 g3 ?_) (fun w2 => ?_))
            · rw [g4]; unfold gs; simp only; rw [decide_eq_true w]; simp
            · rw [g4]; unfold gs; simp only; rw [decide_eq_true w2]; simp
            · have h29 : I2 65 29 = ii a := hS2.2.2
              refine b_X14_work_154 hL (by rw [h29]; exact ii_inb ha (by omega)) (h164 _ (fun x k hxk => ?_) ?_)
              · rw [h29, ii_nat (by omega), u2_if, if_neg (by omega)]; exact g3 x k hxk
              · rw [h29, ii_nat (by omega), u2_e, vpb1]
                unfold gs; simp only
                rw [decide_eq_false w, decide_eq_false w2]
                cases e0 <;> cases st.2 <;> rfl
          refine b_X14_work_133 (fun w => ?_) (fun w => ?_)
          · rw [bI_0] at w
            rw [w] at h141
            exact b_X14_work_140 h141
          · rw [bI_0] at w
            rw [Bool.not_eq_false] at w
            rw [w] at h141
            exact b_X14_work_136 h141
        · rw [if_neg (fun z => hho z.2)] at hst
          rw [Bool.not_eq_true] at hho
          rw [hho]
          refine b_X14_work_113 (fun z => absurd rfl z) (fun _ => b_X14_work_116 (hnext _ I2 _ (by rw [hst]) g3 (by rw [hst]; exact g4)))
      · rw [decide_eq_false hcv]
        rw [if_neg (fun z => hcv z.1)] at hst
        exact b_X14_work_104 (fun _ => hnext _ I2 _ (by rw [hst]) g3 (by rw [hst]; exact g4)) (fun z => absurd rfl z)
  have := main gv 0 .null I1 (by omega) (by omega) (fun _ _ _ => rfl) (by rw [gfd_0]; cases e0 <;> exact h13)
  rw [gfd_0] at this
  exact this
end MW2
