/-! ===== P2: Check of the class: follow, compare, run ===== -/
def rowsE (ns : List Nd) (l : List Int32) (J0 J : Nat → Nat → Int64) (w t n : Nat) : Prop := J 21 (ix w t n) = J0 21 (ix w t n) ||| (ownR ns l J w t n).1 ∧ J 22 (ix w t n) = J0 22 (ix w t n) ||| (ownR ns l J w t n).2
def bth (J : Nat → Nat → Int64) (w t n j : Nat) : Prop := tb (J 21 (ix w t n)) j = true ∧ tb (J 22 (ix w t n)) j = true
section CHK4
variable {xs : Nat → Int32} {L d : Nat} {S : Nat → Shp} {I : Nat → Nat → Int32} {J : Nat → Nat → Int64} {R : Nat → Nat → Nat} {c : Nat × Nat} {Q : Option (Option Value) → MH → Prop} {b w q gv : Nat} {ns : List Nd} {l : List Int32} {cs : List Cl} {kl : List Int32} {g : LeS}
def aFj (x _k : Nat) : Prop := x = 15 ∨ x = 16 ∨ x = 21 ∨ x = 22 ∨ x = 23
theorem s_X0_follow (hL : Lay S R) (hb0 : R 13 0 = b) (hq : R 13 1 = q) (hYb : LyCi S R b) (hY : LyCm S R q) (hb16 : 16 < b) (hbq : b + 9 < q) (hC : CCi I J b ns l) (hb36 : b < 36 ∧ 24 < b) (hW : CW ns l) (h4 : I q 4 = ii (lst cs)) (hlt : lst cs < 12) (hw : w < 8) (k : ∀ I' J', fr aSt I I' → fr aFj J J' → (∀ t n, t ≤ lst cs → n < ns.length → rowsE ns l J J' w t n) → (∀ i, ¬ (480 * w ≤ i ∧ i < 480 * w + 480) → J' 21 i = J 21 i ∧ J' 22 i = J 22 i) → (∀ i, ¬ i = w → J' 23 i = J 23 i) → (∀ j, j < 64 → (tb (J' 23 w) j = true ↔ (∃ t n, t ≤ lst cs ∧ n < ns.length ∧ bth J' w t n j) ∧ tb (J 13 4) j = true)) → Q (some none) (S, I', J', R, c)) : X xs L (d + 5) 9 0 [.ref 13, .int (ii w), .null, .null, .null, .null, .null, .null] [] (S, I, J, R, c) Q := by
  obtain ⟨hCR, hCd, hLK⟩ := hC
  have hW' := hW
  obtain ⟨w1, w2, w3, w4, w5, w6⟩ := hW'
  -- the state at time t, place i
  let St : Nat → Nat → (Nat → Nat → Int32) → (Nat → Nat → Int64) → Int64 → Prop := fun t i I' J' y => fr aSt I I' ∧ fr aJj J J' ∧ (∀ t' n', n' < ns.length → (t' < t ∨ (t' = t ∧ psn ns l n' < i)) → rowsE ns l J J' w t' n') ∧ (∀ t' n', n' < ns.length → ¬ (t' < t ∨ (t' = t ∧ psn ns l n' < i)) → J' 21 (ix w t' n') = J 21 (ix w t' n') ∧ J' 22 (ix w t' n') = J 22 (ix w t' n')) ∧ (∀ i, ¬ (480 * w ≤ i ∧ i < 480 * w + 480) → J' 21 i = J 21 i ∧ J' 22 i = J 22 i) ∧ (∀ j, j < 64 → (tb y j = true ↔ ∃ t' n', n' < ns.length ∧ (t' < t ∨ (t' = t ∧ psn ns l n' < i)) ∧ bth J' w t' n' j))
  have inner : ∀ (t : Nat), t ≤ lst cs → ∀ (f i : Nat) (v6 v7 : Value) (I' : Nat → Nat → Int32) (J' : Nat → Nat → Int64) (y : Int64), ns.length - i = f → i ≤ ns.length → St t i I' J' y → (∀ v5 v6 v7 I' J' y, St (t + 1) 0 I' J' y → X xs L (d + 5) 9 5 [.ref 13, .int (ii w), .long y, .null, .int (ii (t + 1)), v5, v6, v7] [] (S, I', J', R, c) Q) → X xs L (d + 5) 9 20 [.ref 13, .int (ii w), .long y, .null, .int (ii t), .int (ii i), v6, v7] [] (S, I', J', R, c) Q := by
    intro t ht f
    induction f with
    | zero =>
      intro i v6 v7 I' J' y g1 g2 g3 kk
      obtain ⟨s1, s2, s3, s4, s5, s6⟩ := g3
      have e : i = ns.length := by omega
      refine b_X0_follow_20 hL hb0 hYb (fun _ => b_X0_follow_88 ?_) (fun z => ?_)
      · rw [ii_add1]
        have hp : ∀ t' n', n' < ns.length → ((t' < t ∨ (t' = t ∧ psn ns l n' < i)) ↔ (t' < t + 1 ∨ (t' = t + 1 ∧ psn ns l n' < 0))) := by
          intro t' n' hn'
          have := psn_lt (l := l) hn'
          omega
        exact kk _ _ _ I' J' y ⟨s1, s2, fun t' n' hn' h => s3 t' n' hn' ((hp t' n' hn').2 h), fun t' n' hn' h => s4 t' n' hn' (fun z => h ((hp t' n' hn').1 z)), s5, fun j hj => by
          rw [s6 j hj]
          constructor
          · rintro ⟨t', n', z1, z2, z3⟩; exact ⟨t', n', z1, (hp t' n' z1).1 z2, z3⟩
          · rintro ⟨t', n', z1, z2, z3⟩; exact ⟨t', n', z1, (hp t' n' z1).2 z2, z3⟩⟩
      · rw [s1 _ _ (by unfold aSt; omega), hCR.1, e] at z; exact absurd (Int32.le_refl _) z
    | succ f ih =>
      intro i v6 v7 I' J' y g1 g2 g3 kk
      obtain ⟨s1, s2, s3, s4, s5, s6⟩ := g3
      have hi : i < ns.length := by omega
      obtain ⟨n, hn, hpn⟩ := psn_onto (l := l) hi
      refine b_X0_follow_20 hL hb0 hYb (fun z => ?_) (fun _ => ?_)
      · rw [s1 _ _ (by unfold aSt; omega), hCR.1, ii_le (by omega) (by omega)] at z; omega
      have hord : I' (b + 9) i = ii n := by
        rw [s1 _ _ (by unfold aSt; omega), ← hpn]
        exact hLK.2.2 n hn (rnk_le w6 w1 hn)
      refine b_X0_follow_32 hL hb0 hYb (ii_inb (by omega) (by omega)) ?_
      rw [ii_nat (by omega), hord]
      have hCR' : CRd I' J' b ns := ⟨by rw [s1 _ _ (by unfold aSt; omega)]; exact hCR.1, fun u x hx => by rw [s2 _ _ (by unfold aJj; omega), s1 _ _ (by unfold aSt; omega), s1 _ _ (by unfold aSt; omega), s1 _ _ (by unfold aSt; omega)]; exact hCR.2 u x hx⟩
      have hCd' : CdL I' (b + 5) l := CdL_of hCd (s1 _ _ (by unfold aSt; omega)) (fr_row s1 _ (by intro k; unfold aSt; omega))
      refine s_X0_joinOwn hL hb0 hYb hb16 hCR' hCd' hW hw (by omega) hn (fun I2 J2 f1 f2 e21 e22 => ?_)
      refine b_X0_follow_53 (s_X0_row ?_)
      rw [rowE hw (by omega)]
      have eat : ii (480 * w + 40 * t) + ii n = ii (ix w t n) := by rw [ii_add]; rfl
      have hix : ix w t n < 3840 := by unfold ix; omega
      refine b_X0_follow_59 hL (by rw [eat]; exact ii_inb hix (by omega)) (by rw [eat]; exact ii_inb hix (by omega)) ?_
      rw [eat, ii_nat (by omega), ii_add1]
      have hne : ∀ t' n', n' < ns.length → ¬ (t' = t ∧ n' = n) → ¬ ix w t' n' = ix w t n := by
        intro t' n' hn' z e
        unfold ix at e
        have : n' < 40 := by omega
        have : n < 40 := by omega
        omega
      have eo : ∀ t' n', n' < ns.length → ¬ (t' = t ∧ n' = n) → J2 21 (ix w t' n') = J' 21 (ix w t' n') ∧ J2 22 (ix w t' n') = J' 22 (ix w t' n') := fun t' n' hn' z => by
        rw [e21, e22, if_neg (hne t' n' hn' z), if_neg (hne t' n' hn' z)]; exact ⟨rfl, rfl⟩
      have hpi : ∀ n', n' < ns.length → (psn ns l n' < i + 1 ↔ (psn ns l n' < i ∨ n' = n)) := by
        intro n' hn'
        constructor
        · intro z
          by_cases e : psn ns l n' = i
          · exact Or.inr (psn_inj (l := l) hn' hn (by omega))
          · exact Or.inl (by omega)
        · rintro (z | z)
          · omega
          · rw [z]; omega
      have hown : ∀ t' n', n' < ns.length → (t' < t ∨ (t' = t ∧ psn ns l n' < i + 1)) → ownR ns l J2 w t' n' = ownR ns l J' w t' n' := by
        intro t' n' hn' hp
        refine own_congr hW hn' (fun v hk ha => eo t' v (adj_lt ha) (fun z => ?_)) (fun v hk h0 hv => eo (t' - 1) v hv (fun z => by omega))
        obtain ⟨z1, z2⟩ := z
        subst z2
        have := psn_mono (ns := ns) (l := l) (adj_lt ha) (rnk_lt w6 w1 hk ha)
        omega
      have hbn : bth J2 w t n = bth J2 w t n := rfl
      refine ih (i + 1) _ _ I2 J2 _ (by omega) (by omega) ⟨fr_trans s1 f1, fr_trans s2 f2, fun t' n' hn' hp => ?_, fun t' n' hn' hp => ?_, fun u hu => ?_, fun j hj => ?_⟩ kk
      · unfold rowsE
        rw [hown t' n' hn' hp]
        by_cases e : t' = t ∧ n' = n
        · obtain ⟨e1, e2⟩ := e
          subst e1 e2
          have h0 := s4 t' n' hn (by omega)
          rw [e21, e22, if_pos rfl, if_pos rfl, h0.1, h0.2]; exact ⟨rfl, rfl⟩
        · rw [(eo t' n' hn' e).1, (eo t' n' hn' e).2]
          refine s3 t' n' hn' ?_
          rcases hp with z | ⟨z1, z2⟩
          · exact Or.inl z
          · rcases (hpi n' hn').1 z2 with y1 | y1
            · exact Or.inr ⟨z1, y1⟩
            · exact absurd ⟨z1, y1⟩ e
      · have e : ¬ (t' = t ∧ n' = n) := fun e => hp (Or.inr ⟨e.1, (hpi n' hn').2 (Or.inr e.2)⟩)
        rw [(eo t' n' hn' e).1, (eo t' n' hn' e).2]
        refine s4 t' n' hn' (fun z => hp ?_)
        rcases z with z | ⟨z1, z2⟩
        · exact Or.inl z
        · exact Or.inr ⟨z1, by omega⟩
      · have hne2 : ¬ u = ix w t n := fun e => hu (by rw [e]; unfold ix; omega)
        rw [e21, e22, if_neg hne2, if_neg hne2]; exact s5 u hu
      · have hbo : ∀ t' n', n' < ns.length → ¬ (t' = t ∧ n' = n) → (bth J2 w t' n' j ↔ bth J' w t' n' j) := fun t' n' hn' e => by
          unfold bth; rw [(eo t' n' hn' e).1, (eo t' n' hn' e).2]
        rw [tb_or, tb_and, Bool.or_eq_true, Bool.and_eq_true, s6 j hj]
        constructor
        · rintro (⟨t', n', z1, z2, z3⟩ | z)
          · have e : ¬ (t' = t ∧ n' = n) := by
              rintro ⟨e1, e2⟩
              subst e1 e2
              omega
            refine ⟨t', n', z1, ?_, (hbo t' n' z1 e).2 z3⟩
            rcases z2 with y1 | ⟨y1, y2⟩
            · exact Or.inl y1
            · exact Or.inr ⟨y1, by omega⟩
          · exact ⟨t, n, hn, Or.inr ⟨rfl, by omega⟩, z⟩
        · rintro ⟨t', n', z1, z2, z3⟩
          by_cases e : t' = t ∧ n' = n
          · obtain ⟨e1, e2⟩ := e
            subst e1 e2
            exact Or.inr z3
          · refine Or.inl ⟨t', n', z1, ?_, (hbo t' n' z1 e).1 z3⟩
            rcases z2 with y1 | ⟨y1, y2⟩
            · exact Or.inl y1
            · rcases (hpi n' z1).1 y2 with y3 | y3
              · exact Or.inr ⟨y1, y3⟩
              · exact absurd ⟨y1, y3⟩ e
  have outer : ∀ (f t : Nat) (v5 v6 v7 : Value) (I' : Nat → Nat → Int32) (J' : Nat → Nat → Int64) (y : Int64), lst cs + 1 - t = f → t ≤ lst cs + 1 → St t 0 I' J' y → X xs L (d + 5) 9 5 [.ref 13, .int (ii w), .long y, .null, .int (ii t), v5, v6, v7] [] (S, I', J', R, c) Q := by
    intro f
    induction f with
    | zero =>
      intro t v5 v6 v7 I' J' y g1 g2 g3
      obtain ⟨s1, s2, s3, s4, s5, s6⟩ := g3
      have e : t = lst cs + 1 := by omega
      refine b_X0_follow_5 hL hq hY (fun _ => b_X0_follow_94 hL (ii_inb hw (by omega)) ?_) (fun z => ?_)
      · rw [ii_nat (by omega), s2 13 4 (by unfold aJj; omega)]
        have eo : ∀ x i, ¬ x = 23 → u2 J' 23 w (y &&& J 13 4) x i = J' x i := fun x i z => by rw [u2_a _ _ _ _ z]
        have hrl : ∀ t, rlv (u2 J' 23 w (y &&& J 13 4)) w t = rlv J' w t := fun t => by funext v; unfold rlv; rw [eo _ _ (by decide), eo _ _ (by decide)]
        have how : ∀ t n, ownR ns l (u2 J' 23 w (y &&& J 13 4)) w t n = ownR ns l J' w t n := fun t n => by unfold ownR; rw [hrl, hrl]
        refine k I' _ s1 (fr_u _ (fr_sub s2 (by intro x k; unfold aJj aFj; omega)) (by unfold aFj; omega)) (fun t' n' ht' hn' => ?_) (fun i hi => by rw [eo _ _ (by decide), eo _ _ (by decide)]; exact s5 i hi) (fun i hi => by rw [u2_k _ _ _ _ hi, s2 _ _ (by unfold aJj; omega)]) (fun j hj => ?_)
        · unfold rowsE
          rw [how, eo _ _ (by decide), eo _ _ (by decide)]
          exact s3 t' n' hn' (by omega)
        · rw [u2_e, tb_and, Bool.and_eq_true, s6 j hj]
          constructor
          · rintro ⟨⟨t', n', z1, z2, z3⟩, z4⟩
            refine ⟨⟨t', n', by omega, z1, ?_⟩, z4⟩
            unfold bth at z3 ⊢; rw [eo _ _ (by decide), eo _ _ (by decide)]; exact z3
          · rintro ⟨⟨t', n', z0, z1, z3⟩, z4⟩
            refine ⟨⟨t', n', z1, by omega, ?_⟩, z4⟩
            unfold bth at z3 ⊢; rw [eo _ _ (by decide), eo _ _ (by decide)] at z3; exact z3
      · rw [s1 _ _ (by unfold aSt; omega), h4, e, ii_lt (by omega) (by omega)] at z; omega
    | succ f ih =>
      intro t v5 v6 v7 I' J' y g1 g2 g3
      refine b_X0_follow_5 hL hq hY (fun z => ?_) (fun _ => b_X0_follow_17 ?_)
      · rw [g3.1 _ _ (by unfold aSt; omega), h4, ii_lt (by omega) (by omega)] at z; omega
      exact inner t (by omega) ns.length 0 _ _ I' J' y (by omega) (by omega) g3 (fun v5 v6 v7 I2 J2 y2 z => ih (t + 1) v5 v6 v7 I2 J2 y2 (by omega) (by omega) z)
  refine b_X0_follow_0 ?_
  refine outer (lst cs + 1) 0 _ _ _ I J 0 (by omega) (by omega) ⟨fr_refl _ _, fr_refl _ _, fun t' n' _ h => by omega, fun _ _ _ _ => ⟨rfl, rfl⟩, fun _ _ => ⟨rfl, rfl⟩, fun j _ => ?_⟩
  rw [tb_0]
  constructor
  · intro z; cases z
  · rintro ⟨t', n', z1, z2, -⟩; omega
/-- a clause is not met at a time in a lane -/
def wrg (J : Nat → Nat → Int64) (w t u : Nat) (x : Cl) (j : Nat) : Prop := tb (J 20 (48 * w + u)) j = true ∧ ¬ ((tb (J 19 (48 * w + u)) j = true ∧ tb (J 21 (ix w t x.1)) j = true) ∨ (tb (J 19 (48 * w + u)) j = false ∧ tb (J 22 (ix w t x.1)) j = true))
theorem wrongE {u t : Nat} {x : Cl} {j : Nat} (hw : w < 8) (hu : u < 48) (ht : t < 12) (hx : x.1 < 40) (h1 : I (q + 2) u = ii x.1) (hj : j < 64) : tb (f_X0_wrongLanes I J q (ii u) (ii t) (ii w)) j = true ↔ wrg J w t u x j := by
  unfold f_X0_wrongLanes wrg
  have hix : ix w t x.1 < 3840 := by unfold ix; omega
  have e1 : (f_X0_clauseRow (ii w) (ii u)).toNatClampNeg = 48 * w + u := by rw [crowE hw, ii_nat (by omega)]
  have e2 : (f_X0_row (ii w) (ii t) + I (q + 2) (ii u).toNatClampNeg).toNatClampNeg = ix w t x.1 := by
    rw [ii_nat (by omega), h1, rowE hw (by omega), ii_add, ii_nat (by unfold ix at hix; omega)]; rfl
  rw [e1, e2, tb_and, tb_not hj, tb_or, tb_and, tb_and, tb_not hj]
  cases tb (J 20 (48 * w + u)) j <;> cases tb (J 19 (48 * w + u)) j <;> cases tb (J 21 (ix w t x.1)) j <;> cases tb (J 22 (ix w t x.1)) j <;> simp
theorem s_X0_compare (hL : Lay S R) (hq : R 13 1 = q) (hY : LyCm S R q) (hK : KCl I q cs gv kl g) (hI : KI 40 cs kl g) (hw : w < 8) (k : ∀ J', fr (fun x _ => x = 24) J J' → (∀ i, ¬ i = w → J' 24 i = J 24 i) → (∀ j, j < 64 → (tb (J' 24 w) j = true ↔ (∃ u x t, gv ≤ u ∧ cs[u]? = some x ∧ x.2.2.2.2.1 ≤ t ∧ t ≤ x.2.2.2.2.2 ∧ wrg J w t u x j) ∧ tb (J 23 w) j = false ∧ tb (J 13 4) j = true)) → Q (some none) (S, I, J', R, c)) : X xs L (d + 3) 11 0 [.ref 13, .int (ii w), .null, .null, .null, .null] [] (S, I, J, R, c) Q := by
  obtain ⟨kr, kg, k4, klt, kc, kv, kv9, kg0, kg24, kgl, kcl, kl2⟩ := hK
  refine b_X0_compare_0 hL hq hY ?_
  rw [kg]
  have inner : ∀ (u : Nat) (x : Cl), u < 48 → cs[u]? = some x → (∀ v5 y, (∀ j, j < 64 → (tb y j = true ↔ ∃ u' x' t', gv ≤ u' ∧ u' < u + 1 ∧ cs[u']? = some x' ∧ x'.2.2.2.2.1 ≤ t' ∧ t' ≤ x'.2.2.2.2.2 ∧ wrg J w t' u' x' j)) → X xs L (d + 3) 11 11 [.ref 13, .int (ii w), .long y, .null, .int (ii (u + 1)), v5] [] (S, I, J, R, c) Q) → gv ≤ u → ∀ (f tt : Nat) (y : Int64), x.2.2.2.2.2 + 1 - tt = f → x.2.2.2.2.1 ≤ tt → tt ≤ x.2.2.2.2.2 + 1 → (∀ j, j < 64 → (tb y j = true ↔ ∃ u' x' t', gv ≤ u' ∧ (u' < u ∨ (u' = u ∧ t' < tt)) ∧ cs[u']? = some x' ∧ x'.2.2.2.2.1 ≤ t' ∧ t' ≤ x'.2.2.2.2.2 ∧ wrg J w t' u' x' j)) → X xs L (d + 3) 11 35 [.ref 13, .int (ii w), .long y, .null, .int (ii u), .int (ii tt)] [] (S, I, J, R, c) Q := by
    intro u x hu hx kn hgu f
    obtain ⟨a1, a2, a3, a4, a5, a6, a7, a8⟩ := kr.2 u x hx
    obtain ⟨b1, -⟩ := hI.1 x (List.mem_of_getElem? hx)
    have hb : inb (ii u) 48 = true := ii_inb (by omega) (by omega)
    induction f with
    | zero =>
      intro tt y g1 g2 g3 g4
      refine b_X0_compare_35 hL hq hY hb (fun _ => b_X0_compare_68 ?_) (fun z => ?_)
      · rw [ii_add1]
        refine kn _ y (fun j hj => ?_)
        rw [g4 j hj]
        constructor
        · rintro ⟨u', x', t', z1, z2, z3⟩; exact ⟨u', x', t', z1, by omega, z3⟩
        · rintro ⟨u', x', t', z1, z2, z3, z4, z5, z6⟩
          refine ⟨u', x', t', z1, ?_, z3, z4, z5, z6⟩
          by_cases e : u' = u
          · subst e
            rw [hx] at z3
            cases z3
            exact Or.inr ⟨rfl, by omega⟩
          · exact Or.inl (by omega)
      · rw [ii_nat (by omega), a6, ii_lt (by omega) (by omega)] at z; omega
    | succ f ih =>
      intro tt y g1 g2 g3 g4
      refine b_X0_compare_35 hL hq hY hb (fun z => ?_) (fun _ => ?_)
      · rw [ii_nat (by omega), a6, ii_lt (by omega) (by omega)] at z; omega
      have hix : ix w tt x.1 < 3840 := by unfold ix; omega
      refine b_X0_compare_50 hL (s_X0_wrongLanes hL (by rw [crowE hw]; exact ii_inb (by omega) (by omega)) hq hY hb (by rw [ii_nat (by omega), a1, rowE hw (by omega), ii_add]; exact ii_inb hix (by omega)) ?_)
      refine b_X0_compare_60 ?_
      rw [ii_add1]
      refine ih (tt + 1) _ (by omega) (by omega) (by omega) (fun j hj => ?_)
      rw [tb_or, Bool.or_eq_true, g4 j hj, wrongE hw hu (by omega) b1 a1 hj]
      constructor
      · rintro (⟨u', x', t', z1, z2, z3⟩ | z)
        · exact ⟨u', x', t', z1, by omega, z3⟩
        · exact ⟨u, x, tt, hgu, Or.inr ⟨rfl, by omega⟩, hx, g2, by omega, z⟩
      · rintro ⟨u', x', t', z1, z2, z3, z4, z5, z6⟩
        by_cases e : u' = u ∧ t' = tt
        · obtain ⟨e1, e2⟩ := e
          subst e1 e2
          rw [hx] at z3
          cases z3
          exact Or.inr z6
        · exact Or.inl ⟨u', x', t', z1, by omega, z3, z4, z5, z6⟩
  have outer : ∀ (f u : Nat) (v5 : Value) (y : Int64), cs.length - u = f → gv ≤ u → u ≤ cs.length → (∀ j, j < 64 → (tb y j = true ↔ ∃ u' x' t', gv ≤ u' ∧ u' < u ∧ cs[u']? = some x' ∧ x'.2.2.2.2.1 ≤ t' ∧ t' ≤ x'.2.2.2.2.2 ∧ wrg J w t' u' x' j)) → X xs L (d + 3) 11 11 [.ref 13, .int (ii w), .long y, .null, .int (ii u), v5] [] (S, I, J, R, c) Q := by
    intro f
    induction f with
    | zero =>
      intro u v5 y g1 g2 g3 g4
      have hb : inb (ii w) 8 = true := ii_inb hw (by omega)
      refine b_X0_compare_11 hL hq hY (fun _ => b_X0_compare_74 hL hb hb ?_) (fun z => ?_)
      · rw [ii_nat (by omega)]
        refine k _ (fr_u _ (fr_refl _ _) rfl) (fun i hi => by rw [u2_k _ _ _ _ hi]) (fun j hj => ?_)
        rw [u2_e, tb_and, tb_and, tb_not hj, Bool.and_eq_true, Bool.and_eq_true, g4 j hj]
        constructor
        · rintro ⟨⟨⟨u', x', t', z1, z2, z3⟩, z4⟩, z5⟩
          exact ⟨⟨u', x', t', z1, z3⟩, by simpa using z4, z5⟩
        · rintro ⟨⟨u', x', t', z1, z3, z3'⟩, z4, z5⟩
          exact ⟨⟨⟨u', x', t', z1, by have := (List.getElem?_eq_some_iff.1 z3).1; omega, z3, z3'⟩, by rw [z4]; rfl⟩, z5⟩
      · rw [kr.1, show u = cs.length by omega] at z; exact absurd (Int32.le_refl _) z
    | succ f ih =>
      intro u v5 y g1 g2 g3 g4
      have hu : u < cs.length := by omega
      have hx := ge_lt hu
      obtain ⟨a1, a2, a3, a4, a5, a6, a7, a8⟩ := kr.2 u _ hx
      refine b_X0_compare_11 hL hq hY (fun z => ?_) (fun _ => ?_)
      · rw [kr.1, ii_le (by omega) (by omega)] at z; omega
      refine b_X0_compare_23 hL hq hY (ii_inb (by omega) (by omega)) ?_
      rw [ii_nat (by omega), a5]
      refine inner u _ (by omega) hx (fun v5 y2 z => ih (u + 1) v5 y2 (by omega) (by omega) (by omega) z) g2 _ _ y rfl (Nat.le_refl _) (by omega) (fun j hj => ?_)
      rw [g4 j hj]
      constructor
      · rintro ⟨u', x', t', z1, z2, z3⟩; exact ⟨u', x', t', z1, Or.inl z2, z3⟩
      · rintro ⟨u', x', t', z1, z2, z3, z4, z5, z6⟩
        rcases z2 with z2 | ⟨z2, z2'⟩
        · exact ⟨u', x', t', z1, z2, z3, z4, z5, z6⟩
        · exfalso
          subst z2
          rw [hx] at z3
          cases z3
          omega
  refine outer _ gv _ 0 rfl (Nat.le_refl _) (by omega) (fun j _ => ?_)
  rw [tb_0]
  constructor
  · intro z; cases z
  · rintro ⟨u', x', t', z1, z2, -⟩; omega
end CHK4
