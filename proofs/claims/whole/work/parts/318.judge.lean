/-! ===== P2: the model judges an assignment ===== -/
/-- what a clause asks is met -/
def met (kl : List Int32) (nv : Nat) (I : Nat → Nat → Int32) (a t : Nat) (x : Cl) : Prop := holB (lvA nv a) kl x = true → vE I a t x.1 = bI (sayB (lvA nv a) kl x)
/-- the values of an assignment -/
def MVl (ns : List Nd) (l : List Int32) (cs : List Cl) (gv : Nat) (kl : List Int32) (nv : Nat) (I : Nat → Nat → Int32) (a m : Nat) : Prop := (∀ t, t < m → ∀ n, n < ns.length → vE I a t n = (gfd cs (lvA nv a) kl t n gv (own3 ns l I a t n)).1 ∧ v3 (vE I a t n)) ∧ ∃ b, I 113 a = bI b ∧ (b = true ↔ ∃ t, t < m ∧ ∃ n, n < ns.length ∧ (gfd cs (lvA nv a) kl t n gv (own3 ns l I a t n)).2 = true)
def bfr (u t u' t' : Nat) : Prop := u' < u ∨ (u' = u ∧ t' < t)
def MFl (cs : List Cl) (gv : Nat) (kl : List Int32) (nv : Nat) (I : Nat → Nat → Int32) (a : Nat) : Prop := (I 114 a = 0 ∧ ∀ u x t, gv ≤ u → cs[u]? = some x → x.2.2.2.2.1 ≤ t → t ≤ x.2.2.2.2.2 → met kl nv I a t x) ∨ (I 114 a = 1 ∧ ∃ u x t, gv ≤ u ∧ cs[u]? = some x ∧ x.2.2.2.2.1 ≤ t ∧ t ≤ x.2.2.2.2.2 ∧ ¬ met kl nv I a t x ∧ I 115 a = ii (u - gv) ∧ I 116 a = ii t ∧ ∀ u' x' t', gv ≤ u' → cs[u']? = some x' → x'.2.2.2.2.1 ≤ t' → t' ≤ x'.2.2.2.2.2 → bfr u t u' t' → met kl nv I a t' x')
/-- what a judgement leaves of an assignment -/
def MJg (ns : List Nd) (l : List Int32) (cs : List Cl) (gv : Nat) (kl : List Int32) (nv : Nat) (I : Nat → Nat → Int32) (a : Nat) : Prop := MVl ns l cs gv kl nv I a (lst cs + 1) ∧ (I 113 a = 1 → I 114 a = 0) ∧ (I 113 a = 0 → MFl cs gv kl nv I a)
def aJu (a x k : Nat) : Prop := (x = 65 ∧ k = 29) ∨ (x = 112 ∧ 480 * a ≤ k ∧ k < 480 * a + 480) ∨ ((x = 113 ∨ x = 114 ∨ x = 115 ∨ x = 116) ∧ k = a) ∨ x = 117
section MJU
variable {xs : Nat → Int32} {L d : Nat} {S : Nat → Shp} {J : Nat → Nat → Int64} {R : Nat → Nat → Nat} {c : Nat × Nat} {N T C K a gv nv : Nat} {ns : List Nd} {l : List Int32} {cs : List Cl} {kl : List Int32} {I : Nat → Nat → Int32} {Q : Option (Option Value) → MH → Prop}
theorem bI_1 {b : Bool} : bI b = 1 ↔ b = true := by cases b <;> decide
theorem s_Mjudge (hM : MJ S R N T C K) (hC1 : MCr N T I J ns l) (hC2 : QCl C K gv I cs kl nv) (hW : CW ns l) (ha : a < 512) (hg : gv ≤ 24) (hgl : gv < cs.length) (hc : cs.length ≤ gv + 24) (hcs : ∀ x ∈ cs, x.1 < ns.length ∧ x.2.2.2.2.1 ≤ x.2.2.2.2.2 ∧ x.2.2.2.2.2 < 12) (k : ∀ I', fr (aJu a) I I' → MJg ns l cs gv kl nv I' a → Q (some none) (S, I', J, R, c)) : X xs L (d + 1093) 155 0 [.ref 65, .int (ii a), .null, .null, .null] [] (S, I, J, R, c) Q := by
  have hM' := hM
  obtain ⟨hL, hT, hYT, hN, hYN, hC, hYC, hK, hYK, hT2, hN2, hK2, hC2'⟩ := hM'
  have w1 := hW.1
  have hlt : lst cs < 12 := hC2.2.2.2.2.2.1
  have hcs' : ∀ x ∈ cs, x.1 < 40 ∧ x.2.2.2.2.1 < 12 ∧ x.2.2.2.2.2 < 12 := fun x hx => by have := hcs x hx; omega
  obtain ⟨ht, hh1, hh2, hh3⟩ := hC1.2.2.2.1
  have hba : inb (ii a) 512 = true := ii_inb ha (by omega)
  have hna : (ii a).toNatClampNeg = a := ii_nat (by omega)
  have hrowI : ∀ I1, fr (aJu a) I I1 → ∀ x, ((65 < x ∧ x < 112) ∨ 117 < x) → I1 x = I x := fun I1 f x hx => fr_row f x (by intro k; unfold aJu; omega)
  have hSF : ∀ I1, fr (aJu a) I I1 → I1 65 29 = ii a → SF N T C K J ns l cs gv kl nv a I1 := fun I1 f h29 => by
    have hr := hrowI I1 f
    exact ⟨MCr_of hC1 (by rw [hr N (by omega)]) rfl (hr _ (by omega)) (hr _ (by omega)) (hr _ (by omega)) (hr _ (by omega)) (hr _ (by omega)), QCl_of hC2 (fun x h1 h2 => hr x (by omega)) (fun x h1 h2 => hr x (by omega)), h29⟩
  refine b_X14_judge_0 hL hba hba ?_
  rw [hna, vpb0]
  -- the clauses asked for
  have after : ∀ (x2 : Int32) (v3' : Value) (I1 : Nat → Nat → Int32), fr (aJu a) I I1 → I1 65 29 = ii a → I1 114 a = 0 → MVl ns l cs gv kl nv I1 a (lst cs + 1) → X xs L (d + 1093) 155 89 [.ref 65, .int (ii a), .int x2, v3', .null] [] (S, I1, J, R, c) Q := by
    intro x2 v3' I1 f1 h29 h114 hV
    have hSF1 := hSF I1 f1 h29
    refine b_X14_judge_89 hL hba (fun z => ?_) (fun z => ?_)
    · rw [hna] at z
      refine b_X14_judge_99 ?_
      -- after a failure
      have done : ∀ (x4 : Value) (v3' : Value) (u : Nat) (I2 : Nat → Nat → Int32), u ≤ cs.length → fr (aJu a) I I2 → I2 114 a = 1 → MJg ns l cs gv kl nv I2 a → X xs L (d + 1093) 155 102 [.ref 65, .int (ii a), .int (ii (24 + (u - gv))), v3', x4] [] (S, I2, J, R, c) Q := by
        intro x4 v3' u I2 hu f2 h2 hj
        refine b_X14_judge_102 hL hC hYC (fun _ => b_X14_judge_257 (k I2 f2 hj)) (fun _ => b_X14_judge_116 hL hba (fun _ => b_X14_judge_257 (k I2 f2 hj)) (fun z => absurd (by rw [hna, h2]; decide) z))
      have main : ∀ (f u : Nat) (v3' v4 : Value), cs.length - u = f → gv ≤ u → u ≤ cs.length → (∀ u' x' t', gv ≤ u' → u' < u → cs[u']? = some x' → x'.2.2.2.2.1 ≤ t' → t' ≤ x'.2.2.2.2.2 → met kl nv I1 a t' x') → X xs L (d + 1093) 155 102 [.ref 65, .int (ii a), .int (ii (24 + (u - gv))), v3', v4] [] (S, I1, J, R, c) Q := by
        intro f
        induction f with
        | zero =>
          intro u v3' v4 g1 g2 g3 g4
          have e : u = cs.length := by omega
          refine b_X14_judge_102 hL hC hYC (fun _ => b_X14_judge_257 (k I1 f1 ⟨hV, fun w => by rw [z] at w; exact absurd w (by decide), fun _ => Or.inl ⟨h114, fun u' x' t' q1 q2 q3 q4 => g4 u' x' t' q1 (by have := (List.getElem?_eq_some_iff.1 q2).1; omega) q2 q3 q4⟩⟩)) (fun w => ?_)
          rw [hSF1.2.1.2.1, show (24 : Int32) = ii 24 from rfl, ii_add, ii_le (by omega) (by omega)] at w; omega
        | succ f ih =>
          intro u v3' v4 g1 g2 g3 g4
          have hu : u < cs.length := by omega
          have hx := ge_lt hu
          have hmix : mix gv u = 24 + (u - gv) := by unfold mix; rw [if_neg (by omega)]; omega
          obtain ⟨m1, m2, m3, m4, m5, m6, m7, m8, m9⟩ := hSF1.2.1.2.2.2.2.2.2.1 u _ hx
          rw [hmix] at m1 m2 m3 m4 m5
          obtain ⟨x1, x2, x3⟩ := hcs _ (List.getElem_mem hu)
          have hb : inb (ii (24 + (u - gv))) 48 = true := ii_inb (by omega) (by omega)
          have hnb : (ii (24 + (u - gv))).toNatClampNeg = 24 + (u - gv) := ii_nat (by omega)
          refine b_X14_judge_102 hL hC hYC (fun w => ?_) (fun _ => ?_)
          · rw [hSF1.2.1.2.1, show (24 : Int32) = ii 24 from rfl, ii_add, ii_le (by omega) (by omega)] at w; omega
          refine b_X14_judge_116 hL hba (fun w => absurd (by rw [hna]; exact h114) w) (fun _ => ?_)
          refine b_X14_judge_125 hL ?_
          have happ := s_Mapp (xs := xs) (L := L) (J := J) (c := c) (d := d + 781) (j := u) (Q := Kc xs L (d + 1093) 155 130 [.ref 65, .int (ii a), .int (ii (24 + (u - gv))), v3', v4] [] Q) hL hK hYK hC hYC hSF1.2.2 ha hSF1.2.1 hx hg hc
          rw [hmix] at happ
          refine happ ?_
          have hnext : ∀ (v3' v4 : Value), (∀ t', cs[u].2.2.2.2.1 ≤ t' → t' ≤ cs[u].2.2.2.2.2 → met kl nv I1 a t' cs[u]) → X xs L (d + 1093) 155 251 [.ref 65, .int (ii a), .int (ii (24 + (u - gv))), v3', v4] [] (S, I1, J, R, c) Q := by
            intro v3' v4 hmt
            refine b_X14_judge_251 ?_
            rw [ii_add1, show 24 + (u - gv) + 1 = 24 + (u + 1 - gv) by omega]
            refine ih (u + 1) _ _ (by omega) (by omega) (by omega) (fun u' x' t' q1 q2 q3 q4 q5 => ?_)
            by_cases e : u' = u
            · subst e
              rw [hx] at q3
              cases q3
              exact hmt t' q4 q5
            · exact g4 u' x' t' q1 (by omega) q3 q4 q5
          by_cases hho : holB (lvA nv a) kl cs[u] = true
          · rw [hho]
            refine b_X14_judge_130 (fun _ => ?_) (fun w => absurd (by decide) w)
            refine b_X14_judge_136 hL hC hYC hb ?_
            rw [hnb]
            have hsay := s_Msays (xs := xs) (L := L) (J := J) (c := c) (d := d + 782) (j := u) (Q := Kc xs L (d + 1093) 155 149 [.ref 65, .int (ii a), .int (ii (24 + (u - gv))), v3', v4] [] Q) hL hK hYK hC hYC hSF1.2.2 ha hSF1.2.1 hx
            rw [hmix] at hsay
            refine hsay ?_
            have hmt : ∀ t', met kl nv I1 a t' cs[u] ↔ vE I1 a t' cs[u].1 = bI (sayB (lvA nv a) kl cs[u]) := fun t' => ⟨fun w => w hho, fun w _ => w⟩
            have inner : ∀ (f tt : Nat), cs[u].2.2.2.2.2 + 1 - tt = f → cs[u].2.2.2.2.1 ≤ tt → tt ≤ cs[u].2.2.2.2.2 + 1 → (∀ t', cs[u].2.2.2.2.1 ≤ t' → t' < tt → met kl nv I1 a t' cs[u]) → X xs L (d + 1093) 155 169 [.ref 65, .int (ii a), .int (ii (24 + (u - gv))), .int (bI (sayB (lvA nv a) kl cs[u])), .int (ii tt)] [] (S, I1, J, R, c) Q := by
              intro f
              induction f with
              | zero =>
                intro tt q1 q2 q3 q4
                refine b_X14_judge_169 hL hC hYC hb (fun _ => hnext _ _ (fun t' r1 r2 => q4 t' r1 (by omega))) (fun w => ?_)
                rw [hnb, m5, ii_lt (by omega) (by omega)] at w; omega
              | succ f ih2 =>
                intro tt q1 q2 q3 q4
                refine b_X14_judge_169 hL hC hYC hb (fun w => ?_) (fun _ => ?_)
                · rw [hnb, m5, ii_lt (by omega) (by omega)] at w; omega
                refine b_X14_judge_183 hL hba (fun w => absurd (by rw [hna]; exact h114) w) (fun _ => ?_)
                refine b_X14_judge_192 hL hC hYC hb ?_
                rw [hnb, m1]
                refine s_X14_cell ?_
                rw [cellE]
                have hcl : 480 * a + 40 * tt + cs[u].1 < 245760 := by omega
                refine b_X14_judge_212 hL (ii_inb hcl (by omega)) (fun w => ?_) (fun w => ?_)
                · rw [ii_nat (by omega)] at w
                  refine b_X14_judge_220 hL hba hba hba ?_
                  have e24 : ii (24 + (u - gv)) - 24 = ii (u - gv) := by
                    rw [show (24 : Int32) = ii 24 from rfl, ii_sub (by omega)]; congr 1; omega
                  rw [hna, vpb1, e24]
                  refine b_X14_judge_245 ?_
                  rw [ii_add1]
                  have hVE : ∀ t' n', vE (u2 (u2 (u2 I1 114 a 1) 115 a (ii (u - gv))) 116 a (ii tt)) a t' n' = vE I1 a t' n' := fun t' n' => by
                    unfold vE; rw [u2_a _ _ _ _ (by decide), u2_a _ _ _ _ (by decide), u2_a _ _ _ _ (by decide)]
                  have e113 : u2 (u2 (u2 I1 114 a 1) 115 a (ii (u - gv))) 116 a (ii tt) 113 a = I1 113 a := by rw [u2_a _ _ _ _ (by decide), u2_a _ _ _ _ (by decide), u2_a _ _ _ _ (by decide)]
                  have e114 : u2 (u2 (u2 I1 114 a 1) 115 a (ii (u - gv))) 116 a (ii tt) 114 a = 1 := by rw [u2_a _ _ _ _ (by decide), u2_a _ _ _ _ (by decide), u2_e]
                  have e115 : u2 (u2 (u2 I1 114 a 1) 115 a (ii (u - gv))) 116 a (ii tt) 115 a = ii (u - gv) := by rw [u2_a _ _ _ _ (by decide), u2_e]
                  have e116 : u2 (u2 (u2 I1 114 a 1) 115 a (ii (u - gv))) 116 a (ii tt) 116 a = ii tt := u2_e _ _ _ _
                  have F2 : fr (aJu a) I (u2 (u2 (u2 I1 114 a 1) 115 a (ii (u - gv))) 116 a (ii tt)) := fr_u _ (fr_u _ (fr_u _ f1 (by unfold aJu; omega)) (by unfold aJu; omega)) (by unfold aJu; omega)
                  have eC : ∀ x, C ≤ x → x ≤ C + 6 → u2 (u2 (u2 I1 114 a 1) 115 a (ii (u - gv))) 116 a (ii tt) x = I1 x := fun x h1 h2 => by
                    funext k; rw [u2_a _ _ _ _ (by omega), u2_a _ _ _ _ (by omega), u2_a _ _ _ _ (by omega)]
                  revert hVE e113 e114 e115 e116 F2 eC
                  generalize u2 (u2 (u2 I1 114 a 1) 115 a (ii (u - gv))) 116 a (ii tt) = I2
                  intro hVE e113 e114 e115 e116 F2 eC
                  have hown : ∀ t' n', own3 ns l I2 a t' n' = own3 ns l I1 a t' n' := fun t' n' => by
                    have : ∀ t', vE I2 a t' = vE I1 a t' := fun t' => funext (hVE t')
                    unfold own3; rw [this, this]
                  have hmet : ∀ t' x', met kl nv I2 a t' x' ↔ met kl nv I1 a t' x' := fun t' x' => by unfold met; rw [hVE]
                  have hJg : MJg ns l cs gv kl nv I2 a := by
                    refine ⟨?_, fun w => ?_, fun _ => Or.inr ⟨e114, u, cs[u], tt, g2, hx, q2, by omega, ?_, e115, e116, fun u' x' t' r1 r2 r3 r4 r5 => ?_⟩⟩
                    · obtain ⟨v1, b, v2, v3⟩ := hV
                      refine ⟨fun t' r1 n' r2 => ?_, b, by rw [e113]; exact v2, ?_⟩
                      · rw [hVE, hown]; exact v1 t' r1 n' r2
                      · rw [v3]; simp only [hown]
                    · rw [e113, z] at w; exact absurd w (by decide)
                    · rw [hmet, hmt]; exact w
                    · rw [hmet]
                      rcases r5 with r5 | ⟨r5, r6⟩
                      · exact g4 u' x' t' r1 r5 r2 r3 r4
                      · subst r5
                        rw [hx] at r2
                        cases r2
                        exact q4 t' r3 r6
                  have hend : ∀ x4 : Value, X xs L (d + 1093) 155 251 [.ref 65, .int (ii a), .int (ii (24 + (u - gv))), .int (bI (sayB (lvA nv a) kl cs[u])), x4] [] (S, I2, J, R, c) Q := by
                    intro x4
                    refine b_X14_judge_251 ?_
                    rw [ii_add1, show 24 + (u - gv) + 1 = 24 + (u + 1 - gv) by omega]
                    exact done _ _ (u + 1) I2 (by omega) F2 e114 hJg
                  exact b_X14_judge_169 hL hC hYC hb (fun _ => hend _) (fun _ => b_X14_judge_183 hL hba (fun _ => hend _) (fun y => absurd (by rw [hna, e114]; decide) y))
                · rw [ii_nat (by omega)] at w
                  refine b_X14_judge_217 (b_X14_judge_245 ?_)
                  rw [ii_add1]
                  refine ih2 (tt + 1) (by omega) (by omega) (by omega) (fun t' r1 r2 => ?_)
                  by_cases e : t' = tt
                  · rw [e, hmt]; exact Classical.not_not.1 w
                  · exact q4 t' r1 (by omega)
            have h157 : X xs L (d + 1093) 155 157 [.ref 65, .int (ii a), .int (ii (24 + (u - gv))), v3', v4] [.int (bI (sayB (lvA nv a) kl cs[u]))] (S, I1, J, R, c) Q := by
              refine b_X14_judge_157 hL hC hYC hb ?_
              rw [hnb, m4]
              exact inner _ _ rfl (Nat.le_refl _) (by omega) (fun t' r1 r2 => by omega)
            refine b_X14_judge_149 (fun w => ?_) (fun w => ?_)
            · rw [bI_0] at w
              rw [w] at h157
              exact b_X14_judge_156 h157
            · rw [bI_0] at w
              rw [Bool.not_eq_false] at w
              rw [w] at h157
              exact b_X14_judge_152 h157
          · have hho2 := hho
            rw [Bool.not_eq_true] at hho2
            rw [hho2]
            exact b_X14_judge_130 (fun w => absurd rfl w) (fun _ => b_X14_judge_133 (hnext _ _ (fun t' _ _ w => absurd w hho)))
      have := main (cs.length - gv) gv v3' .null rfl (Nat.le_refl _) (by omega) (fun u' x' t' q1 q2 => by omega)
      rw [Nat.sub_self] at this
      exact this
    · rw [hna] at z
      refine b_X14_judge_98 (k I1 f1 ⟨hV, fun _ => h114, fun w => absurd w z⟩)
  -- the times
  have times : ∀ (f t : Nat) (v3' : Value) (I1 : Nat → Nat → Int32), lst cs + 1 - t = f → t ≤ lst cs + 1 → fr (aJu a) I I1 → I1 65 29 = ii a → I1 114 a = 0 → MVl ns l cs gv kl nv I1 a t → X xs L (d + 1093) 155 21 [.ref 65, .int (ii a), .int (ii t), v3', .null] [] (S, I1, J, R, c) Q := by
    intro f
    induction f with
    | zero =>
      intro t v3' I1 g1 g2 g3 g4 g5 g6
      have e : t = lst cs + 1 := by omega
      refine b_X14_judge_21 hL hC hYC (fun _ => after _ _ I1 g3 g4 g5 (by rw [← e]; exact g6)) (fun z => ?_)
      rw [(hSF I1 g3 g4).2.1.2.2.2.2.1, ii_lt (by omega) (by omega)] at z; omega
    | succ f ih =>
      intro t v3' I1 g1 g2 g3 g4 g5 g6
      have htl : t ≤ lst cs := by omega
      refine b_X14_judge_21 hL hC hYC (fun z => ?_) (fun _ => b_X14_judge_32 ?_)
      · rw [(hSF I1 g3 g4).2.1.2.2.2.2.1, ii_lt (by omega) (by omega)] at z; omega
      -- work of all nodes
      have works : ∀ (I0 : Nat → Nat → Int32), fr (aJu a) I I0 → I0 65 29 = ii a → I0 114 a = 0 → MVl ns l cs gv kl nv I0 a t → ∀ (f2 n : Nat) (I2 : Nat → Nat → Int32), ns.length - n = f2 → n ≤ ns.length → InW a t nv gv ns l cs kl I0 I2 → (∀ m, m < n → I2 117 m = 1) → X xs L (d + 1093) 155 60 [.ref 65, .int (ii a), .int (ii t), .int (ii n), .null] [] (S, I2, J, R, c) Q := by
        intro I0 p1 p2 p3 p4 f2
        have hSF0 := hSF I0 p1 p2
        have hsz : ∀ I2, InW a t nv gv ns l cs kl I0 I2 → I2 N 4 = ii ns.length := fun I2 h => (InW_SF hM hSF0 h).1.1
        induction f2 with
        | zero =>
          intro n I2 q1 q2 q3 q4
          have e : n = ns.length := by omega
          refine b_X14_judge_60 hL hN hYN (fun _ => b_X14_judge_83 ?_) (fun z => ?_)
          · rw [ii_add1]
            have hF : fr (aJu a) I0 I2 := fr_sub q3.1 (by intro x k; unfold aWk aJu; omega)
            have hvo : ∀ t' n', t' < t → n' < ns.length → vE I2 a t' n' = vE I0 a t' n' := fun t' n' r1 r2 => vE_old q3.1 r1 (by omega)
            have hoo : ∀ t' n', t' < t → n' < ns.length → own3 ns l I2 a t' n' = own3 ns l I0 a t' n' := fun t' n' r1 r2 => own3_congr hW r2 (fun _ v hadj => hvo t' v r1 (adj_lt hadj)) (fun _ _ v hv => hvo (t' - 1) v (by omega) hv)
            refine ih (t + 1) _ I2 (by omega) (by omega) (fr_trans p1 hF) (by rw [q3.1 _ _ (by unfold aWk; omega)]; exact p2) (by rw [q3.1 _ _ (by unfold aWk; omega)]; exact p3) ⟨fun t' r1 n' r2 => ?_, ?_⟩
            · by_cases e2 : t' = t
              · subst e2
                have := q3.2.2.1 n' r2 (q4 n' (by omega))
                exact ⟨this.1, this.2.1⟩
              · rw [hvo t' n' (by omega) r2, hoo t' n' (by omega) r2]; exact p4.1 t' (by omega) n' r2
            · obtain ⟨-, -, -, b, b1, b2⟩ := q3
              obtain ⟨-, b0, c1, c2⟩ := p4
              refine ⟨b, b1, ?_⟩
              rw [b2, c1, bI_1, c2]
              constructor
              · rintro (⟨t', r1, n', r2, r3⟩ | ⟨n', r1, -, r3⟩)
                · exact ⟨t', by omega, n', r2, by rw [hoo t' n' r1 r2]; exact r3⟩
                · exact ⟨t, by omega, n', r1, r3⟩
              · rintro ⟨t', r1, n', r2, r3⟩
                by_cases e2 : t' = t
                · subst e2; exact Or.inr ⟨n', r2, q4 n' (by omega), r3⟩
                · exact Or.inl ⟨t', by omega, n', r2, by rw [← hoo t' n' (by omega) r2]; exact r3⟩
          · rw [hsz I2 q3, e] at z; exact absurd (Int32.le_refl _) z
        | succ f2 ih2 =>
          intro n I2 q1 q2 q3 q4
          refine b_X14_judge_60 hL hN hYN (fun z => ?_) (fun _ => b_X14_judge_71 hL ?_)
          · rw [hsz I2 q3, ii_le (by omega) (by omega)] at z; omega
          obtain ⟨ht', k1, k2, k3⟩ := hSF0.1.2.2.2.1
          have hdp := dpt_le (l := l) (n := n) k1 k2 w1
          rw [show d + 1092 = (d + (780 - dpt ns l ht' n)) + 312 + dpt ns l ht' n by omega]
          refine s_Mwork hM hSF0 hW ha (by omega) hg hgl hc hcs' (fun t' r1 n' r2 => (p4.1 t' r1 n' r2).2) k1 k3 _ n (by omega) (Nat.lt_succ_self _) _ _ I2 q3 (fun I3 r1 r2 r3 => ?_)
          rw [show (d + (780 - dpt ns l ht' n)) + 312 + dpt ns l ht' n + 1 = d + 1093 by omega]
          refine b_X14_judge_77 ?_
          rw [ii_add1]
          refine ih2 (n + 1) I3 (by omega) (by omega) r1 (fun m hm => ?_)
          by_cases e : m = n
          · rw [e]; exact r3
          · exact (r2.2 m (q4 m (by omega))).1
      -- clearing
      have clear : ∀ (f2 n : Nat) (I2 : Nat → Nat → Int32), ns.length - n = f2 → n ≤ ns.length → fr (fun x _ => x = 117) I1 I2 → (∀ m, m < n → I2 117 m = 0) → X xs L (d + 1093) 155 34 [.ref 65, .int (ii a), .int (ii t), .int (ii n), .null] [] (S, I2, J, R, c) Q := by
        intro f2
        induction f2 with
        | zero =>
          intro n I2 q1 q2 q3 q4
          have hvo : ∀ t', vE I2 a t' = vE I1 a t' := fun t' => by funext n'; unfold vE; exact q3 _ _ (by omega)
          have hoo : ∀ t' n', own3 ns l I2 a t' n' = own3 ns l I1 a t' n' := fun t' n' => by unfold own3; rw [hvo, hvo]
          have F : fr (aJu a) I I2 := fr_trans g3 (fr_sub q3 (by intro x k; unfold aJu; omega))
          have h29 : I2 65 29 = ii a := by rw [q3 _ _ (by omega)]; exact g4
          have hV : MVl ns l cs gv kl nv I2 a t := by
            obtain ⟨b1, b, b2, b3⟩ := g6
            refine ⟨fun t' r1 n' r2 => ?_, b, by rw [q3 _ _ (by omega)]; exact b2, ?_⟩
            · rw [hoo, hvo]; exact b1 t' r1 n' r2
            · rw [b3]; simp only [hoo]
          refine b_X14_judge_34 hL hN hYN (fun _ => b_X14_judge_58 ?_) (fun z => ?_)
          · refine works I2 F h29 (by rw [q3 _ _ (by omega)]; exact g5) hV ns.length 0 I2 (by omega) (by omega) ⟨fr_refl _ _, fun m hm => Or.inl (q4 m (by omega)), fun m hm h1 => ?_, ?_⟩ (fun m hm => by omega)
            · rw [q4 m (by omega)] at h1; exact absurd h1 (by decide)
            · obtain ⟨-, b, b2, b3⟩ := hV
              refine ⟨b, b2, ?_⟩
              rw [b2, bI_1]
              constructor
              · intro w; exact Or.inl w
              · rintro (w | ⟨m, m1, m2, -⟩)
                · exact w
                · rw [q4 m (by omega)] at m2; exact absurd m2 (by decide)
          · rw [(hSF I2 F h29).1.1, show n = ns.length by omega] at z; exact absurd (Int32.le_refl _) z
        | succ f2 ih2 =>
          intro n I2 q1 q2 q3 q4
          have F : fr (aJu a) I I2 := fr_trans g3 (fr_sub q3 (by intro x k; unfold aJu; omega))
          have h29 : I2 65 29 = ii a := by rw [q3 _ _ (by omega)]; exact g4
          refine b_X14_judge_34 hL hN hYN (fun z => ?_) (fun _ => b_X14_judge_45 hL (ii_inb (by omega) (by omega)) ?_)
          · rw [(hSF I2 F h29).1.1, ii_le (by omega) (by omega)] at z; omega
          rw [ii_nat (by omega), vpb0, ii_add1]
          refine ih2 (n + 1) _ (by omega) (by omega) (fr_u _ q3 rfl) (fun m hm => ?_)
          rw [u2_if]
          by_cases e : m = n
          · rw [if_pos ⟨rfl, e⟩]
          · rw [if_neg (fun w => e w.2)]; exact q4 m (by omega)
      exact clear ns.length 0 I1 (by omega) (by omega) (fr_refl _ _) (fun m hm => by omega)
  refine times (lst cs + 1) 0 _ _ (by omega) (by omega) (fr_u _ (fr_u _ (fr_u _ (fr_refl _ _) (by unfold aJu; omega)) (by unfold aJu; omega)) (by unfold aJu; omega)) (by rw [u2_a _ _ _ _ (by decide), u2_a _ _ _ _ (by decide), u2_e]) (u2_e _ _ _ _) ⟨fun t' r1 => by omega, false, by rw [u2_a _ _ _ _ (by decide), u2_e]; rfl, ?_⟩
  constructor
  · intro w; cases w
  · rintro ⟨t', r1, -⟩; omega
end MJU
