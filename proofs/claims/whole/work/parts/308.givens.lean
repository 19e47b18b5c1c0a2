/-! ===== P2: Check of the class: what is given ===== -/
def ix (w t n : Nat) : Nat := 480 * w + 40 * t + n
theorem rowE {w t : Nat} (hw : w < 8) (ht : t ≤ 12) : f_X0_row (ii w) (ii t) = ii (480 * w + 40 * t) := by
  have : ∀ (w : Fin 8) (t : Fin 13), f_X0_row (ii w.val) (ii t.val) = ii (480 * w.val + 40 * t.val) := by decide +kernel
  exact this ⟨w, hw⟩ ⟨t, by omega⟩
theorem crowE {w i : Nat} (hw : w < 8) : f_X0_clauseRow (ii w) (ii i) = ii (48 * w + i) := by
  unfold f_X0_clauseRow
  have : ii w * 48 = ii (48 * w) := by
    have : ∀ w : Fin 8, ii w.val * 48 = ii (48 * w.val) := by decide +kernel
    exact this ⟨w, hw⟩
  rw [this, ii_add]
/-- a clause k of the first kk, or the clause kk at a time before tt, says b for node n at time t in a lane -/
def GB (cs : List Cl) (J : Nat → Nat → Int64) (w kk tt : Nat) (b : Bool) (t n j : Nat) : Prop := ∃ u x, cs[u]? = some x ∧ (u < kk ∨ (u = kk ∧ t < tt)) ∧ x.1 = n ∧ x.2.2.2.2.1 ≤ t ∧ t ≤ x.2.2.2.2.2 ∧ tb (J 20 (48 * w + u)) j = true ∧ tb (J 19 (48 * w + u)) j = b
def aGj (x _k : Nat) : Prop := x = 21 ∨ x = 22
section CHK2
variable {xs : Nat → Int32} {L d : Nat} {S : Nat → Shp} {I : Nat → Nat → Int32} {J : Nat → Nat → Int64} {R : Nat → Nat → Nat} {c : Nat × Nat} {Q : Option (Option Value) → MH → Prop} {q w gv : Nat} {cs : List Cl} {l : List Int32} {g : LeS}
theorem s_X0_layGivens (hL : Lay S R) (hq : R 13 1 = q) (hY : LyCm S R q) (hK : KCl I q cs gv l g) (hI : KI 40 cs l g) (hw : w < 8) (k : ∀ J', fr aGj J J' → (∀ t n j, t ≤ lst cs → n < 40 → j < 64 → (tb (J' 21 (ix w t n)) j = true ↔ GB cs J w gv 0 true t n j) ∧ (tb (J' 22 (ix w t n)) j = true ↔ GB cs J w gv 0 false t n j)) → (∀ i, ¬ (480 * w ≤ i ∧ i < 480 * w + 480) → J' 21 i = J 21 i ∧ J' 22 i = J 22 i) → Q (some none) (S, I, J', R, c)) : X xs L (d + 2) 8 0 [.ref 13, .int (ii w), .null, .null, .null, .null, .null, .null, .null] [] (S, I, J, R, c) Q := by
  obtain ⟨kr, kg, k4, klt, kc, kv, kv9, kg0, kg24, kgl, kcl, kl⟩ := hK
  refine b_X0_layGivens_0 (s_X0_row ?_)
  rw [show (0 : Int32) = ii 0 from rfl, rowE hw (by omega)]
  refine b_X0_layGivens_5 ?_
  have inner : ∀ (kk : Nat) (x : Cl), kk < gv → cs[kk]? = some x → (∀ (v3 v5 v7 v8 : Value) (J' : Nat → Nat → Int64), fr aGj J J' → (∀ t n j, t ≤ lst cs → n < 40 → j < 64 → (tb (J' 21 (ix w t n)) j = true ↔ GB cs J w (kk + 1) 0 true t n j) ∧ (tb (J' 22 (ix w t n)) j = true ↔ GB cs J w (kk + 1) 0 false t n j)) → (∀ i, ¬ (480 * w ≤ i ∧ i < 480 * w + 480) → J' 21 i = J 21 i ∧ J' 22 i = J 22 i) → X xs L (d + 2) 8 45 [.ref 13, .int (ii w), .int (ii (kk + 1)), v3, .null, v5, .null, v7, v8] [] (S, I, J', R, c) Q) → ∀ (f tt : Nat) (v8 : Value) (J' : Nat → Nat → Int64), x.2.2.2.2.2 + 1 - tt = f → x.2.2.2.2.1 ≤ tt → tt ≤ x.2.2.2.2.2 + 1 → fr aGj J J' → (∀ t n j, t ≤ lst cs → n < 40 → j < 64 → (tb (J' 21 (ix w t n)) j = true ↔ GB cs J w kk tt true t n j) ∧ (tb (J' 22 (ix w t n)) j = true ↔ GB cs J w kk tt false t n j)) → (∀ i, ¬ (480 * w ≤ i ∧ i < 480 * w + 480) → J' 21 i = J 21 i ∧ J' 22 i = J 22 i) → X xs L (d + 2) 8 90 [.ref 13, .int (ii w), .int (ii kk), .long (J 19 (48 * w + kk)), .null, .long (J 20 (48 * w + kk)), .null, .int (ii tt), v8] [] (S, I, J', R, c) Q := by
    intro kk x hkk hx kn f
    obtain ⟨a1, a2, a3, a4, a5, a6, a7, a8⟩ := kr.2 kk x hx
    obtain ⟨b1, -⟩ := hI.1 x (List.mem_of_getElem? hx)
    have hb : inb (ii kk) 48 = true := ii_inb (by omega) (by omega)
    induction f with
    | zero =>
      intro tt v8 J' g1 g2 g3 g4 g5 g6
      refine b_X0_layGivens_90 hL hq hY hb (fun _ => b_X0_layGivens_160 ?_) (fun z => ?_)
      · rw [ii_add1]
        refine kn _ _ _ _ J' g4 (fun t n j ht hn hj => ?_) g6
        have hiff : ∀ b, GB cs J w kk tt b t n j ↔ GB cs J w (kk + 1) 0 b t n j := by
          intro b
          constructor
          · rintro ⟨u, y, y1, y2, y3⟩
            exact ⟨u, y, y1, Or.inl (by rcases y2 with z | z <;> omega), y3⟩
          · rintro ⟨u, y, y1, y2, y3, y4, y5, y6⟩
            refine ⟨u, y, y1, ?_, y3, y4, y5, y6⟩
            by_cases e : u = kk
            · subst e
              rw [hx] at y1
              cases y1
              exact Or.inr ⟨rfl, by omega⟩
            · exact Or.inl (by rcases y2 with z | z <;> omega)
        rw [← hiff, ← hiff]
        exact g5 t n j ht hn hj
      · rw [ii_nat (by omega), a6, ii_lt (by omega) (by omega)] at z; omega
    | succ f ih =>
      intro tt v8 J' g1 g2 g3 g4 g5 g6
      refine b_X0_layGivens_90 hL hq hY hb (fun z => ?_) (fun _ => ?_)
      · rw [ii_nat (by omega), a6, ii_lt (by omega) (by omega)] at z; omega
      have ht12 : tt < 12 := by omega
      have htl : tt ≤ lst cs ∨ True := Or.inr trivial
      refine b_X0_layGivens_104 (s_X0_row ?_)
      rw [rowE hw (by omega)]
      have eat : ii (480 * w + 40 * tt) + I (q + 2) kk = ii (ix w tt x.1) := by rw [a1, ii_add]; rfl
      have hix : ix w tt x.1 < 3840 := by unfold ix; omega
      have hb4 : inb (ii (480 * w + 40 * tt) + I (q + 2) (ii kk).toNatClampNeg) 3840 = true := by rw [ii_nat (by omega), eat]; exact ii_inb hix (by omega)
      refine b_X0_layGivens_110 hL hq hY hb hb4 hb4 hb4 hb4 ?_
      rw [ii_nat (show kk < 2147483648 by omega), eat, ii_nat (by omega), ii_add1]
      refine ih (tt + 1) _ _ (by omega) (by omega) (by omega) (fr_u _ (fr_u _ g4 (Or.inl rfl)) (Or.inr rfl)) (fun t n j ht hn hj => ?_) (fun i hi => ?_)
      · have hstep : ∀ b, GB cs J w kk (tt + 1) b t n j ↔ GB cs J w kk tt b t n j ∨ (t = tt ∧ n = x.1 ∧ tb (J 20 (48 * w + kk)) j = true ∧ tb (J 19 (48 * w + kk)) j = b) := by
          intro b
          constructor
          · rintro ⟨u, y, y1, y2, y3, y4, y5, y6, y7⟩
            rcases y2 with z | ⟨z1, z2⟩
            · exact Or.inl ⟨u, y, y1, Or.inl z, y3, y4, y5, y6, y7⟩
            · by_cases e : t = tt
              · subst z1
                rw [hx] at y1
                cases y1
                exact Or.inr ⟨e, y3.symm, y6, y7⟩
              · exact Or.inl ⟨u, y, y1, Or.inr ⟨z1, by omega⟩, y3, y4, y5, y6, y7⟩
          · rintro (⟨u, y, y1, y2, y3⟩ | ⟨z1, z2, z3, z4⟩)
            · exact ⟨u, y, y1, by rcases y2 with z | z <;> omega, y3⟩
            · exact ⟨kk, x, hx, Or.inr ⟨rfl, by omega⟩, z2.symm, by omega, by omega, z3, z4⟩
        rw [hstep, hstep]
        obtain ⟨p1, p2⟩ := g5 t n j ht hn hj
        have hinj : ix w t n = ix w tt x.1 ↔ (t = tt ∧ n = x.1) := by unfold ix; omega
        rw [u2_a _ _ _ _ (by decide), u2_if, u2_if, u2_a _ _ _ _ (by decide)]
        by_cases e : ix w t n = ix w tt x.1
        · rw [if_pos ⟨rfl, e⟩, if_pos ⟨rfl, e⟩, ← e, tb_or, tb_or, tb_and, tb_and, tb_not hj, Bool.or_eq_true, Bool.or_eq_true, Bool.and_eq_true, Bool.and_eq_true, p1, p2]
          have he := hinj.1 e
          refine ⟨?_, ?_⟩
          · constructor
            · rintro (z | ⟨z1, z2⟩)
              · exact Or.inl z
              · exact Or.inr ⟨he.1, he.2, z1, z2⟩
            · rintro (z | ⟨-, -, z1, z2⟩)
              · exact Or.inl z
              · exact Or.inr ⟨z1, z2⟩
          · constructor
            · rintro (z | ⟨z1, z2⟩)
              · exact Or.inl z
              · exact Or.inr ⟨he.1, he.2, z1, by simpa using z2⟩
            · rintro (z | ⟨-, -, z1, z2⟩)
              · exact Or.inl z
              · exact Or.inr ⟨z1, by rw [z2]; rfl⟩
        · rw [if_neg (fun z => e z.2), if_neg (fun z => e z.2), p1, p2]
          have he : ¬ (t = tt ∧ n = x.1) := fun z => e (hinj.2 z)
          exact ⟨⟨Or.inl, fun z => z.elim id (fun z => absurd ⟨z.1, z.2.1⟩ he)⟩, ⟨Or.inl, fun z => z.elim id (fun z => absurd ⟨z.1, z.2.1⟩ he)⟩⟩
      · have hne : ¬ i = ix w tt x.1 := fun e => hi (by rw [e]; unfold ix; omega)
        rw [u2_a _ _ _ _ (by decide), u2_k _ _ _ _ hne, u2_k _ _ _ _ hne, u2_a _ _ _ _ (by decide)]
        exact g6 i hi
  have outer : ∀ (f kk : Nat) (v3 v5 v7 v8 : Value) (J' : Nat → Nat → Int64), gv - kk = f → kk ≤ gv → fr aGj J J' → (∀ t n j, t ≤ lst cs → n < 40 → j < 64 → (tb (J' 21 (ix w t n)) j = true ↔ GB cs J w kk 0 true t n j) ∧ (tb (J' 22 (ix w t n)) j = true ↔ GB cs J w kk 0 false t n j)) → (∀ i, ¬ (480 * w ≤ i ∧ i < 480 * w + 480) → J' 21 i = J 21 i ∧ J' 22 i = J 22 i) → X xs L (d + 2) 8 45 [.ref 13, .int (ii w), .int (ii kk), v3, .null, v5, .null, v7, v8] [] (S, I, J', R, c) Q := by
    intro f
    induction f with
    | zero =>
      intro kk v3 v5 v7 v8 J' g1 g2 g3 g4 g5
      have e : kk = gv := by omega
      subst e
      refine b_X0_layGivens_45 hL hq hY (fun _ => b_X0_layGivens_166 (k J' g3 g4 g5)) (fun z => ?_)
      rw [kg] at z; exact absurd (Int32.le_refl _) z
    | succ f ih =>
      intro kk v3 v5 v7 v8 J' g1 g2 g3 g4 g5
      have hkk : kk < cs.length := by omega
      have hx := ge_lt hkk
      obtain ⟨a1, a2, a3, a4, a5, a6, a7, a8⟩ := kr.2 kk _ hx
      refine b_X0_layGivens_45 hL hq hY (fun z => ?_) (fun _ => ?_)
      · rw [kg, ii_le (by omega) (by omega)] at z; omega
      refine b_X0_layGivens_56 hL (s_X0_clauseRow ?_)
      rw [crowE hw]
      refine b_X0_layGivens_65 hL (ii_inb (by omega) (by omega)) (s_X0_clauseRow ?_)
      rw [crowE hw]
      refine b_X0_layGivens_76 hL (ii_inb (by omega) (by omega)) hq hY (ii_inb (by omega) (by omega)) ?_
      rw [ii_nat (by omega), ii_nat (by omega), a5, g3 _ _ (by unfold aGj; omega), g3 _ _ (by unfold aGj; omega)]
      refine inner kk _ (by omega) hx (fun v3 v5 v7 v8 J2 q1 q2 q3 => ih (kk + 1) v3 v5 v7 v8 J2 (by omega) (by omega) q1 q2 q3) _ _ _ J' rfl (Nat.le_refl _) (by omega) g3 (fun t n j ht hn hj => ?_) g5
      have hiff : ∀ b, GB cs J w kk 0 b t n j ↔ GB cs J w kk cs[kk].2.2.2.2.1 b t n j := by
        intro b
        constructor
        · rintro ⟨u, y, y1, y2, y3⟩
          exact ⟨u, y, y1, by rcases y2 with z | z <;> omega, y3⟩
        · rintro ⟨u, y, y1, y2, y3, y4, y5, y6⟩
          rcases y2 with z | ⟨z1, z2⟩
          · exact ⟨u, y, y1, Or.inl z, y3, y4, y5, y6⟩
          · exfalso
            subst z1
            rw [hx] at y1
            cases y1
            omega
      rw [← hiff, ← hiff]
      exact g4 t n j ht hn hj
  have clear0 : ∀ (f a : Nat) (J' : Nat → Nat → Int64), 40 * (lst cs + 1) - a = f → a ≤ 40 * (lst cs + 1) → fr aGj J J' → (∀ i, i < a → J' 21 (480 * w + i) = 0 ∧ J' 22 (480 * w + i) = 0) → (∀ i, ¬ (480 * w ≤ i ∧ i < 480 * w + 480) → J' 21 i = J 21 i ∧ J' 22 i = J 22 i) → X xs L (d + 2) 8 6 [.ref 13, .int (ii w), .int (ii (480 * w + a)), .null, .null, .null, .null, .null, .null] [] (S, I, J', R, c) Q := by
    intro f
    induction f with
    | zero =>
      intro a J' g1 g2 g3 g4 g5
      refine b_X0_layGivens_6 hL hq hY (s_X0_row ?_)
      rw [k4, ii_add1, rowE hw (by omega)]
      refine b_X0_layGivens_20 (fun _ => b_X0_layGivens_43 ?_) (fun z => ?_)
      · refine outer gv 0 _ _ _ _ J' (by omega) (by omega) g3 (fun t n j ht hn hj => ?_) g5
        have hz := g4 (40 * t + n) (by omega)
        have hno : ∀ b, ¬ GB cs J w 0 0 b t n j := by
          rintro b ⟨u, y, y1, y2, -⟩
          rcases y2 with z | z <;> omega
        have e : ix w t n = 480 * w + (40 * t + n) := by unfold ix; omega
        rw [e, hz.1, hz.2, tb_0]
        exact ⟨⟨fun z => (by cases z), fun z => absurd z (hno _)⟩, ⟨fun z => (by cases z), fun z => absurd z (hno _)⟩⟩
      · rw [show a = 40 * (lst cs + 1) by omega] at z
        exact absurd (Int32.le_refl _) z
    | succ f ih =>
      intro a J' g1 g2 g3 g4 g5
      refine b_X0_layGivens_6 hL hq hY (s_X0_row ?_)
      rw [k4, ii_add1, rowE hw (by omega)]
      refine b_X0_layGivens_20 (fun z => ?_) (fun _ => ?_)
      · rw [ii_le (by omega) (by omega)] at z; omega
      have hb : inb (ii (480 * w + a)) 3840 = true := ii_inb (by omega) (by omega)
      refine b_X0_layGivens_23 hL hb hb ?_
      rw [ii_nat (by omega), ii_add1]
      refine ih (a + 1) _ (by omega) (by omega) (fr_u _ (fr_u _ g3 (Or.inl rfl)) (Or.inr rfl)) (fun i hi => ?_) (fun i hi => ?_)
      · rw [u2_a _ _ _ _ (by decide), u2_if, u2_if, u2_a _ _ _ _ (by decide)]
        by_cases e : i = a
        · rw [if_pos ⟨rfl, by omega⟩, if_pos ⟨rfl, by omega⟩]; exact ⟨rfl, rfl⟩
        · rw [if_neg (by omega), if_neg (by omega)]; exact g4 i (by omega)
      · rw [u2_a _ _ _ _ (by decide), u2_if, u2_if, u2_a _ _ _ _ (by decide), if_neg (by omega), if_neg (by omega)]
        exact g5 i hi
  exact clear0 (40 * (lst cs + 1)) 0 J (by omega) (by omega) (fr_refl _ _) (fun i hi => by omega) (fun i _ => ⟨rfl, rfl⟩)
end CHK2
