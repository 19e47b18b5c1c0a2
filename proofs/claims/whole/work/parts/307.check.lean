/-! ===== P2: Check of the class: variables, clauses ===== -/
def hdR (st : List Rl) : Rl := match st with
  | a :: _ => a
  | [] => (0, 0)
theorem ones_g {I : Nat → Nat → Int32} {J : Nat → Nat → Int64} {st : List Rl} (h : StkL I J st) (hl : st.length < 100000) : f_X7_ones I J = (hdR st).1 ∧ f_X7_zeros I J = (hdR st).2 := by
  unfold f_X7_ones f_X7_zeros
  match st, h, hl with
  | [], h, _ =>
    have h1 : I 14 2 = 0 := h.1
    rw [h1, if_pos (by decide), if_pos (by decide)]; exact ⟨rfl, rfl⟩
  | a :: t, h, hl =>
    have h1 : I 14 2 = ii (t.length + 1) := h.1
    have ht := StkL_top h
    rw [List.length_cons] at hl
    have hn : ¬ ii (t.length + 1) ≤ 0 := by rw [ii_zero, ii_le (by omega) (by omega)]; omega
    rw [h1, if_neg hn, if_neg hn, ii_one, ii_sub (by omega), Nat.add_sub_cancel, ii_nat (by omega)]
    exact ht
theorem s_ones {xs : Nat → Int32} {L d : Nat} {S : Nat → Shp} {I : Nat → Nat → Int32} {J : Nat → Nat → Int64} {R : Nat → Nat → Nat} {c : Nat × Nat} {Q : Option (Option Value) → MH → Prop} {st : List Rl} (hL : Lay S R) (h : StkL I J st) (hl : st.length ≤ 64) (k : Q (some (some (.long (hdR st).1))) (S, I, J, R, c)) : X xs L d 73 0 [.ref 14] [] (S, I, J, R, c) Q := by
  refine s_X7_ones hL (fun z => ?_) (by rw [(ones_g h (by omega)).1]; exact k)
  have h0 : ¬ st.length = 0 := fun e => z (by rw [h.1, e]; decide)
  rw [h.1, ii_one, ii_sub (by omega)]; exact ii_inb (by omega) (by omega)
theorem s_zeros {xs : Nat → Int32} {L d : Nat} {S : Nat → Shp} {I : Nat → Nat → Int32} {J : Nat → Nat → Int64} {R : Nat → Nat → Nat} {c : Nat × Nat} {Q : Option (Option Value) → MH → Prop} {st : List Rl} (hL : Lay S R) (h : StkL I J st) (hl : st.length ≤ 64) (k : Q (some (some (.long (hdR st).2))) (S, I, J, R, c)) : X xs L d 74 0 [.ref 14] [] (S, I, J, R, c) Q := by
  refine s_X7_zeros hL (fun z => ?_) (by rw [(ones_g h (by omega)).2]; exact k)
  have h0 : ¬ st.length = 0 := fun e => z (by rw [h.1, e]; decide)
  rw [h.1, ii_one, ii_sub (by omega)]; exact ii_inb (by omega) (by omega)
theorem fold_congr {α : Type} {zz oo : α} {ng : α → α} {jo : Int32 → α → α → α} {lv lv' : Nat → α} : ∀ (cds : List Int32) (st : List α), (∀ x ∈ cds, ¬ x < 0 → lv x.toNatClampNeg = lv' x.toNatClampNeg) → cds.foldl (stg zz oo ng jo lv) st = cds.foldl (stg zz oo ng jo lv') st
  | [], _, _ => rfl
  | x :: cds, st, h => by
    show cds.foldl (stg zz oo ng jo lv) (stg zz oo ng jo lv st x) = cds.foldl (stg zz oo ng jo lv') (stg zz oo ng jo lv' st x)
    have e : stg zz oo ng jo lv st x = stg zz oo ng jo lv' st x := by
      unfold stg
      by_cases q : x < 0
      · rw [if_pos q, if_pos q]
      · rw [if_neg q, if_neg q, h x (List.mem_cons_self ..) q]
    rw [e]
    exact fold_congr cds _ (fun y hy => h y (List.mem_cons_of_mem _ hy))
/-- a formula on rails -/
def foR (lv : Nat → Rl) (cds : List Int32) : Rl := hdR (cds.foldl (stg rz ro rng rjo lv) [])
def sayR (lv : Nat → Rl) (l : List Int32) (x : Cl) : Int64 := (foR lv (seg l x.2.1 x.2.2.1)).1
def holR (lv : Nat → Rl) (l : List Int32) (x : Cl) : Int64 := if x.2.2.1 < x.2.2.2.1 then (foR lv (seg l x.2.2.1 x.2.2.2.1)).1 else -1
section CHK1
variable {xs : Nat → Int32} {L d : Nat} {S : Nat → Shp} {I : Nat → Nat → Int32} {J : Nat → Nat → Int64} {R : Nat → Nat → Nat} {c : Nat × Nat} {Q : Option (Option Value) → MH → Prop} {q V w : Nat} {cs : List Cl} {l : List Int32}
theorem s_X0_setVariables (hL : Lay S R) (hq : R 13 1 = q) (hY : LyCm S R q) (hV : I q 0 = ii V) (hV9 : V ≤ 9) (k : ∀ J', fr (fun x _ => x = 17 ∨ x = 18) J J' → (∀ v, v < V → J' 17 v = f_X0_lanesWith (ii (V - 1 - v)) (ii w) ∧ J' 18 v = J' 17 v ^^^ (-1)) → Q (some none) (S, I, J', R, c)) : X xs L (d + 1) 6 0 [.ref 13, .int (ii w), .null] [] (S, I, J, R, c) Q := by
  refine b_X0_setVariables_0 ?_
  have main : ∀ (f v : Nat) (J' : Nat → Nat → Int64), V - v = f → v ≤ V → fr (fun x _ => x = 17 ∨ x = 18) J J' → (∀ u, u < v → J' 17 u = f_X0_lanesWith (ii (V - 1 - u)) (ii w) ∧ J' 18 u = J' 17 u ^^^ (-1)) → X xs L (d + 1) 6 2 [.ref 13, .int (ii w), .int (ii v)] [] (S, I, J', R, c) Q := by
    intro f
    induction f with
    | zero =>
      intro v J' g1 g2 g3 g4
      refine b_X0_setVariables_2 hL hq hY (fun _ => b_X0_setVariables_50 (k J' g3 (fun u hu => g4 u (by omega)))) (fun z => ?_)
      rw [hV, show v = V by omega] at z; exact absurd (Int32.le_refl _) z
    | succ f ih =>
      intro v J' g1 g2 g3 g4
      refine b_X0_setVariables_2 hL hq hY (fun z => ?_) (fun _ => ?_)
      · rw [hV, ii_le (by omega) (by omega)] at z; omega
      refine b_X0_setVariables_13 hL (s_X0_bitOf hL hq hY ?_)
      have eb : f_X0_bitOf I q (ii v) = ii (V - 1 - v) := by
        unfold f_X0_bitOf; rw [hV, ii_one, ii_sub (by omega), ii_sub (by omega)]
      rw [eb]
      refine b_X0_setVariables_23 (s_X0_lanesWith ?_ ?_)
      · intro z
        rw [show (jTab 1).length = 6 from rfl]
        refine ii_inb ?_ (by omega)
        rcases Nat.lt_or_ge (V - 1 - v) 6 with y | y
        · exact y
        · exact absurd ((ii_le (n := 6) (by omega) (by omega)).2 y) z
      · have hb : inb (ii v) 9 = true := ii_inb (by omega) (by omega)
        refine b_X0_setVariables_27 hL hb hb hb ?_
        rw [ii_nat (by omega), ii_add1]
        refine ih (v + 1) _ (by omega) (by omega) (fr_u _ (fr_u _ g3 (Or.inl rfl)) (Or.inr rfl)) (fun u hu => ?_)
        by_cases e : u = v
        · subst e
          refine ⟨by rw [u2_a _ _ _ _ (by decide), u2_e], ?_⟩
          rw [u2_e, u2_a (u2 J' 17 u _) _ _ _ (by decide)]
        · have := g4 u (by omega)
          rw [u2_a _ _ _ _ (by decide), u2_k _ _ _ _ e, u2_k _ _ _ _ e, u2_a _ _ _ _ (by decide)]
          exact this
  exact main V 0 J (by omega) (by omega) (fr_refl _ _) (fun u hu => by omega)
def aWj (x _k : Nat) : Prop := x = 15 ∨ x = 16 ∨ x = 19 ∨ x = 20
theorem s_X0_workOut {gv : Nat} {g : LeS} (hL : Lay S R) (hq : R 13 1 = q) (hq44 : 44 < q) (hY : LyCm S R q) (hK : KCl I q cs gv l g) (hI : KI 40 cs l g) (hw : w < 8) (k : ∀ I' J', fr aSt I I' → fr aWj J J' → (∀ i x, cs[i]? = some x → J' 19 (48 * w + i) = sayR (fun v => (J 17 v, J 18 v)) l x ∧ J' 20 (48 * w + i) = holR (fun v => (J 17 v, J 18 v)) l x) → (∀ i, ¬ (48 * w ≤ i ∧ i < 48 * w + 48) → J' 19 i = J 19 i ∧ J' 20 i = J 20 i) → Q (some none) (S, I', J', R, c)) : X xs L (d + 4) 7 0 [.ref 13, .int (ii w), .null, .null, .null, .null, .null] [] (S, I, J, R, c) Q := by
  have hcd := LyCd_cm hY
  obtain ⟨kr, kg, k4, klt, kc, kv, kv9, kg0, kg24, kgl, kcl, kl⟩ := hK
  have hlen : cs.length ≤ 48 := by omega
  refine b_X0_workOutClauses_0 ?_
  have main : ∀ (f i : Nat) (v3 v4 v5 v6 : Value) (I' : Nat → Nat → Int32) (J' : Nat → Nat → Int64), cs.length - i = f → i ≤ cs.length → fr aSt I I' → fr aWj J J' → (∀ u x, u < i → cs[u]? = some x → J' 19 (48 * w + u) = sayR (fun v => (J 17 v, J 18 v)) l x ∧ J' 20 (48 * w + u) = holR (fun v => (J 17 v, J 18 v)) l x) → (∀ i, ¬ (48 * w ≤ i ∧ i < 48 * w + 48) → J' 19 i = J 19 i ∧ J' 20 i = J 20 i) → X xs L (d + 4) 7 2 [.ref 13, .int (ii w), .int (ii i), v3, v4, v5, v6] [] (S, I', J', R, c) Q := by
    intro f
    induction f with
    | zero =>
      intro i v3 v4 v5 v6 I' J' g1 g2 g3 g4 g5 g6
      refine b_X0_workOutClauses_2 hL hq hY (fun _ => b_X0_workOutClauses_152 (k I' J' g3 g4 (fun u x hx => g5 u x (by have := (List.getElem?_eq_some_iff.1 hx).1; omega) hx) g6)) (fun z => ?_)
      rw [g3 _ _ (by unfold aSt; omega), kr.1, show i = cs.length by omega] at z; exact absurd (Int32.le_refl _) z
    | succ f ih =>
      intro i v3 v4 v5 v6 I' J' g1 g2 g3 g4 g5 g6
      have hi : i < cs.length := by omega
      have hx := ge_lt hi
      obtain ⟨a1, a2, a3, a4, a5, a6, a7, a8⟩ := kr.2 i _ hx
      obtain ⟨b1, b2, b3, b4, b5, b6⟩ := hI.1 _ (List.getElem_mem hi)
      have hb : inb (ii i) 48 = true := ii_inb (by omega) (by omega)
      refine b_X0_workOutClauses_2 hL hq hY (fun z => ?_) (fun _ => ?_)
      · rw [g3 _ _ (by unfold aSt; omega), kr.1, ii_le (by omega) (by omega)] at z; omega
      refine b_X0_workOutClauses_13 hL hq hY hb hb hb ?_
      rw [ii_nat (by omega), g3 _ _ (by unfold aSt; omega), g3 _ _ (by unfold aSt; omega), g3 _ _ (by unfold aSt; omega), a2, a3, a4]
      refine s_X0_clauseRow ?_
      have erow : f_X0_clauseRow (ii w) (ii i) = ii (48 * w + i) := by
        unfold f_X0_clauseRow
        have : ii w * 48 = ii (48 * w) := by
          have : ∀ w : Fin 8, ii w.val * 48 = ii (48 * w.val) := by decide +kernel
          exact this ⟨w, hw⟩
        rw [this, ii_add]
      rw [erow]
      have kc' : ∀ I2 : Nat → Nat → Int32, fr aSt I I2 → CdL I2 (q + 8) l := fun I2 f2 => CdL_of kc (f2 _ _ (by unfold aSt; omega)) (fr_row f2 _ (by intro k; unfold aSt; omega))
      have hlv9 : ∀ y ∈ l, lvP 9 y := fun y hy => by
        rcases hI.2.1 y hy with z | ⟨v, z1, z2⟩
        · exact Or.inl z
        · exact Or.inr ⟨v, by have := hI.2.2; omega, z2⟩
      have ej : ∀ J2 : Nat → Nat → Int64, fr aWj J J2 → (fun v => (J2 17 (0 + v), J2 18 (0 + v))) = (fun v => (J 17 v, J 18 v)) := fun J2 f2 => by
        funext v; rw [f2 _ _ (by unfold aWj; omega), f2 _ _ (by unfold aWj; omega), Nat.zero_add]
      have hrow : 48 * w + i < 384 := by omega
      refine b_X0_workOutClauses_50 hL hq hY ?_
      refine s_X7_run (base := 0) (nl := 9) (n4 := 9) (n5 := 9) hL hcd (by omega) (kc' I' g3) kl b2 (by omega) (ls_17 hL) (ls_18 hL) (by omega) (by omega) (by omega) (by omega) (by omega) (by omega) hlv9 b5 (fun I2 J2 f1 f2 q1 q2 => ?_)
      rw [ej J' g4] at q1 q2
      have F2 : fr aSt I I2 := fr_trans g3 f1
      have G2 : fr aWj J J2 := fr_trans g4 (fr_sub f2 (by intro x k; unfold aStj aWj; omega))
      refine b_X0_workOutClauses_78 hL (s_ones hL q1 q2 ?_)
      refine b_X0_workOutClauses_91 hL (ii_inb hrow (by omega)) hq hY ?_
      rw [ii_nat (by omega)]
      have es : (hdR ((seg l cs[i].2.1 cs[i].2.2.1).foldl (stg rz ro rng rjo (fun v => (J 17 v, J 18 v))) [])).1 = sayR (fun v => (J 17 v, J 18 v)) l cs[i] := rfl
      rw [es]
      have G3 : fr aWj J (u2 J2 19 (48 * w + i) (sayR (fun v => (J 17 v, J 18 v)) l cs[i])) := fr_u _ G2 (by unfold aWj; omega)
      refine s_X7_run (base := 0) (nl := 9) (n4 := 9) (n5 := 9) hL hcd (by omega) (kc' I2 F2) kl b3 (by omega) (ls_17 hL) (ls_18 hL) (by omega) (by omega) (by omega) (by omega) (by omega) (by omega) hlv9 b6 (fun I4 J4 f3 f4 q3 q4 => ?_)
      rw [ej _ G3] at q3 q4
      have F4 : fr aSt I I4 := fr_trans F2 f3
      have G4 : fr aWj J J4 := fr_trans G3 (fr_sub f4 (by intro x k; unfold aStj aWj; omega))
      have e19 : ∀ u, J4 19 u = if u = 48 * w + i then sayR (fun v => (J 17 v, J 18 v)) l cs[i] else J' 19 u := fun u => by
        rw [f4 _ _ (by unfold aStj; omega), u2_if]
        by_cases e : u = 48 * w + i
        · rw [if_pos ⟨rfl, e⟩, if_pos e]
        · rw [if_neg (by omega), if_neg e, f2 _ _ (by unfold aStj; omega)]
      have e20 : ∀ u, J4 20 u = J' 20 u := fun u => by
        rw [f4 _ _ (by unfold aStj; omega), u2_a _ _ _ _ (by decide), f2 _ _ (by unfold aStj; omega)]
      have hlast : ∀ (v : Int64), v = holR (fun v => (J 17 v, J 18 v)) l cs[i] → X xs L (d + 4) 7 145 [.ref 13, .int (ii w), .int (ii i), .int (ii cs[i].2.1), .int (ii cs[i].2.2.1), .int (ii cs[i].2.2.2.1), .int (ii (48 * w + i))] [.long v, .int (ii (48 * w + i)), .ref 20] (S, I4, J4, R, c) Q := by
        intro v hv
        refine b_X0_workOutClauses_145 hL (ii_inb hrow (by omega)) ?_
        rw [ii_nat (by omega), ii_add1]
        refine ih (i + 1) _ _ _ _ I4 _ (by omega) (by omega) F4 (fr_u _ G4 (by unfold aWj; omega)) (fun u x hu hux => ?_) (fun u hu => ?_)
        · rw [u2_a _ _ _ _ (by decide), e19, u2_if, e20]
          by_cases e : u = i
          · subst e
            rw [hx] at hux
            cases hux
            rw [if_pos rfl, if_pos ⟨rfl, rfl⟩]
            exact ⟨rfl, hv⟩
          · rw [if_neg (by omega), if_neg (by omega)]
            exact g5 u x (by omega) hux
        · rw [u2_a _ _ _ _ (by decide), e19, u2_if, e20, if_neg (by omega), if_neg (by omega)]
          exact g6 u hu
      refine b_X0_workOutClauses_119 hL (fun z => ?_) (fun z => ?_)
      · rw [ii_le (by omega) (by omega)] at z
        refine b_X0_workOutClauses_142 (hlast _ ?_)
        unfold holR; rw [if_neg (by omega)]
      · rw [ii_le (by omega) (by omega)] at z
        refine b_X0_workOutClauses_132 hL (s_ones hL q3 q4 ?_)
        refine b_X0_workOutClauses_139 (hlast _ ?_)
        unfold holR; rw [if_pos (by omega)]; rfl
  exact main cs.length 0 _ _ _ _ I J (by omega) (by omega) (fr_refl _ _) (fr_refl _ _) (fun u x hu => by omega) (fun i _ => ⟨rfl, rfl⟩)
end CHK1
