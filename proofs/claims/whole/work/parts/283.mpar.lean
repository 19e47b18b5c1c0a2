/-! ===== P2: the model's parser against the pure machine (by wip/whole/gen/gen283.py); md: 1 a circuit, 0 a claim ===== -/
def lfM (md : Nat) (kd : Nat → Int32) (key : Nat → Int64) : Nat → LeS → Option (Int32 × LeS) := if md = 1 then lfC kd key else lfK kd key
def opc (md : Nat) (x : Int32) : Int32 := if x = -48 then 0 else if x = -49 then 1 else if x < 0 then -x else if md = 1 then 78 else 86
theorem opc_ii {md n : Nat} (h : n < 2147483648) : opc md (ii n) = if md = 1 then 78 else 86 := by
  unfold opc
  have h0 := ii_nn h
  rw [if_neg (fun q => by rw [q] at h0; exact h0 (by decide)), if_neg (fun q => by rw [q] at h0; exact h0 (by decide)), if_neg h0]
def TL (md T : Nat) (kd : Nat → Int32) (key : Nat → Int64) (pl : Nat → Nat) (m : Nat) (I : Nat → Nat → Int32) (J : Nat → Nat → Int64) (l : List Int32) (g : LeS) : Prop := ∀ i x, l[i]? = some x → I (T + 1) i = opc md x ∧ (0 ≤ x → (md = 1 → ∃ k, x = ii k ∧ k < m ∧ kd k = 2 ∧ J (T + 4) i = key k ∧ I (T + 5) i = ii (pl k)) ∧ (md = 0 → ∃ v, x = ii v ∧ v < g.2.length ∧ I (T + 2) i = ii v))
theorem TL_snoc {md T : Nat} {kd : Nat → Int32} {key : Nat → Int64} {pl : Nat → Nat} {m : Nat} {I I2 : Nat → Nat → Int32} {J J2 : Nat → Nat → Int64} {l : List Int32} {g g2 : LeS} {x : Int32} (h : TL md T kd key pl m I J l g) (hg : g.2.length ≤ g2.2.length) (e : ∀ i, i < l.length → I2 (T + 1) i = I (T + 1) i ∧ I2 (T + 2) i = I (T + 2) i ∧ I2 (T + 5) i = I (T + 5) i ∧ J2 (T + 4) i = J (T + 4) i) (h1 : I2 (T + 1) l.length = opc md x) (h2 : 0 ≤ x → (md = 1 → ∃ k, x = ii k ∧ k < m ∧ kd k = 2 ∧ J2 (T + 4) l.length = key k ∧ I2 (T + 5) l.length = ii (pl k)) ∧ (md = 0 → ∃ v, x = ii v ∧ v < g2.2.length ∧ I2 (T + 2) l.length = ii v)) : TL md T kd key pl m I2 J2 (l ++ [x]) g2 := by
  intro i y hy
  rw [List.getElem?_append] at hy
  split at hy
  · rename_i hi
    have h3 := h i y hy
    obtain ⟨e1, e2, e3, e4⟩ := e i hi
    rw [e1, e2, e3, e4]
    refine ⟨h3.1, fun q => ⟨(h3.2 q).1, fun q2 => ?_⟩⟩
    obtain ⟨v, a1, a2, a3⟩ := (h3.2 q).2 q2
    exact ⟨v, a1, by omega, a3⟩
  · rename_i hi
    have h4 : i - l.length = 0 := by
      by_cases q : i - l.length = 0
      · exact q
      · rw [List.getElem?_cons, if_neg q] at hy; simp at hy
    have h5 : i = l.length := by omega
    rw [h4] at hy
    have : x = y := by simpa using hy
    rw [h5, ← this]
    exact ⟨h1, h2⟩
def MSt (md T C : Nat) (kd : Nat → Int32) (key : Nat → Int64) (pl : Nat → Nat) (m : Nat) (I : Nat → Nat → Int32) (J : Nat → Nat → Int64) (n pd : Nat) (l : List Int32) (g : LeS) : Prop := MC kd key pl m I J n ∧ I T 5 = ii l.length ∧ l.length + pd < n ∧ I 65 21 = ii g.1 ∧ g.1 ≤ 300 ∧ I 65 20 = (if md = 1 then 1 else 0) ∧ TL md T kd key pl m I J l g ∧ (md = 0 → I C 8 = ii g.2.length ∧ NL J (C + 6) g.2 ∧ g.2.length ≤ 9)
def aMp (md T C : Nat) (a k : Nat) : Prop := (a = 65 ∧ (k = 7 ∨ k = 8 ∨ k = 21)) ∨ a = T + 1 ∨ a = T + 2 ∨ a = T + 3 ∨ a = T + 5 ∨ (a = T ∧ k = 5) ∨ (md = 0 ∧ a = C ∧ k = 8)
def aMpj (md T C : Nat) (a _k : Nat) : Prop := a = T + 4 ∨ (md = 0 ∧ a = C + 6)
/-- what the parser rests on -/
def PB (md T C : Nat) (S : Nat → Shp) (R : Nat → Nat → Nat) : Prop := Lay S R ∧ R 65 17 = T ∧ LyTr S R T ∧ 70 < T ∧ 70 < C ∧ (T + 5 < C ∨ C + 6 < T) ∧ md ≤ 1 ∧ (md = 0 → R 65 19 = C ∧ LyCs S R C)
section MPAR
variable (xs : Nat → Int32) (L : Nat) (S : Nat → Shp) (R : Nat → Nat → Nat) (c : Nat × Nat) (md T C : Nat) (kd : Nat → Int32) (key : Nat → Int64) (pl : Nat → Nat) (m : Nat)
def PTh (I : Nat → Nat → Int32) (J : Nat → Nat → Int64) (n dp : Nat) (l : List Int32) (g : LeS) (lev : Nat) (I' : Nat → Nat → Int32) (J' : Nat → Nat → Int64) (p : Nat) : Prop := fr (aMp md T C) I I' ∧ fr (aMpj md T C) J J' ∧ p ≤ m ∧ I' 65 8 = ii (pl p) ∧ ∀ w, wkl lev w → (sy1 kd (lfM md kd key) m true n w dp l g).1 = false ∧ (sy1 kd (lfM md kd key) m true n w dp l g).2.1 = p
def PRt (I : Nat → Nat → Int32) (J : Nat → Nat → Int64) (n pd dp : Nat) (l : List Int32) (g : LeS) (lev : Nat) (I' : Nat → Nat → Int32) (J' : Nat → Nat → Int64) (n' : Nat) (l' : List Int32) (g' : LeS) : Prop := fr (aMp md T C) I I' ∧ fr (aMpj md T C) J J' ∧ MSt md T C kd key pl m I' J' n' pd l' g' ∧ n < n' ∧ l.length < l'.length ∧ (∀ i, i < l.length → l'[i]? = l[i]? ∧ I' (T + 2) i = I (T + 2) i ∧ I' (T + 3) i = I (T + 3) i) ∧ g.1 < g'.1 ∧ tre l' (I' (T + 2)) (I' (T + 3)) (g'.1 - g.1 + (10 - dp)) l.length (l'.length - 1) ∧ (∀ w, wkl lev w → sy1 kd (lfM md kd key) m true n w dp l g = sy1 kd (lfM md kd key) m false n' w dp l' g') ∧ nop lev (kd n')
def PS (f j : Nat) (nl : List Value) (lev B : Nat) (pre : Int32 → Prop) : Prop := ∀ (d dp n pd : Nat) (l : List Int32) (g : LeS) (I : Nat → Nat → Int32) (J : Nat → Nat → Int64) (Q : Option (Option Value) → MH → Prop), dp ≤ 10 → m < n + f → pre (kd n) → MSt md T C kd key pl m I J n pd l g → (∀ I' J' p, PTh md T C kd key pl m I J n dp l g lev I' J' p → Q none (thM (S, I', J', R, c))) → (∀ I' J' n' l' g', PRt md T C kd key pl m I J n pd dp l g lev I' J' n' l' g' → Q (some (some (.int (ii (l'.length - 1))))) (S, I', J', R, c)) → X xs L (d + 5 * (10 - dp) + B) j 0 (.ref 65 :: .int (ii dp) :: nl) [] (S, I, J, R, c) Q
end MPAR
section MPAR2
variable {xs : Nat → Int32} {L : Nat} {S : Nat → Shp} {R : Nat → Nat → Nat} {c : Nat × Nat} {md T C : Nat} {kd : Nat → Int32} {key : Nat → Int64} {pl : Nat → Nat} {m : Nat} {I I' : Nat → Nat → Int32} {J J' : Nat → Nat → Int64} {n pd dp : Nat} {l : List Int32} {g : LeS}
theorem TL_of (h : TL md T kd key pl m I J l g) (e1 : I' (T + 1) = I (T + 1)) (e2 : I' (T + 2) = I (T + 2)) (e3 : I' (T + 5) = I (T + 5)) (e4 : J' (T + 4) = J (T + 4)) : TL md T kd key pl m I' J' l g := by
  intro i x hx
  rw [e1, e2, e3, e4]; exact h i x hx
/-- the cursor goes on, a sign comes to wait -/
theorem MSt_adv {pd' : Nat} (hP : PB md T C S R) (h : MSt md T C kd key pl m I J n pd l g) (hn : n < m) (hp : pd' ≤ pd + 1) : MSt md T C kd key pl m (u2 I 65 7 (ii (n + 1))) J (n + 1) pd' l g := by
  obtain ⟨hL, hT, hY, hT1, hC1, hTC, hmd, -⟩ := hP
  obtain ⟨h1, h2, h3, h4, h5, h6, h7, h8⟩ := h
  refine ⟨MC_of h1 (u2_e _ _ _ _) hn ?_ ?_ ?_ rfl, ?_, by omega, ?_, h5, ?_, TL_of h7 ?_ ?_ ?_ rfl, fun q => ⟨?_, (h8 q).2⟩⟩
  · funext j; rw [u2_a _ _ _ _ (by decide)]
  · funext j; rw [u2_a _ _ _ _ (by decide)]
  · funext j; rw [u2_a _ _ _ _ (by decide)]
  · rw [u2_a _ _ _ _ (by omega)]; exact h2
  · rw [u2_k _ _ _ _ (by decide)]; exact h4
  · rw [u2_k _ _ _ _ (by decide)]; exact h6
  · funext j; rw [u2_a _ _ _ _ (by omega)]
  · funext j; rw [u2_a _ _ _ _ (by omega)]
  · funext j; rw [u2_a _ _ _ _ (by omega)]
  · rw [u2_a _ _ _ _ (by omega)]; exact (h8 q).1
abbrev emI (I : Nat → Nat → Int32) (T a : Nat) (x1 x2 x3 : Int32) : Nat → Nat → Int32 := u2 (u2 (u2 (u2 I (T + 1) a x1) (T + 2) a x2) (T + 3) a x3) T 5 (ii (a + 1))
theorem em_1 {a : Nat} {x1 x2 x3 : Int32} (j : Nat) : emI I T a x1 x2 x3 (T + 1) j = if j = a then x1 else I (T + 1) j := by
  unfold emI
  rw [u2_a _ _ _ _ (by omega), u2_a _ _ _ _ (by omega), u2_a _ _ _ _ (by omega), u2_if]; simp
theorem em_2 {a : Nat} {x1 x2 x3 : Int32} (j : Nat) : emI I T a x1 x2 x3 (T + 2) j = if j = a then x2 else I (T + 2) j := by
  unfold emI
  rw [u2_a _ _ _ _ (by omega), u2_a _ _ _ _ (by omega), u2_if, u2_a _ _ _ _ (by omega)]; simp
theorem em_3 {a : Nat} {x1 x2 x3 : Int32} (j : Nat) : emI I T a x1 x2 x3 (T + 3) j = if j = a then x3 else I (T + 3) j := by
  unfold emI
  rw [u2_a _ _ _ _ (by omega), u2_if, u2_a _ _ _ _ (by omega), u2_a _ _ _ _ (by omega)]; simp
theorem em_o {a : Nat} {x1 x2 x3 : Int32} {b j : Nat} (h : ¬ b = T + 1) (h2 : ¬ b = T + 2) (h3 : ¬ b = T + 3) (h4 : ¬ b = T) : emI I T a x1 x2 x3 b j = I b j := by
  unfold emI
  rw [u2_a _ _ _ _ h4, u2_a _ _ _ _ h3, u2_a _ _ _ _ h2, u2_a _ _ _ _ h]
theorem em_fr {I0 : Nat → Nat → Int32} {a : Nat} {x1 x2 x3 : Int32} (h : fr (aMp md T C) I0 I) : fr (aMp md T C) I0 (emI I T a x1 x2 x3) :=
  fr_u _ (fr_u _ (fr_u _ (fr_u _ h (by unfold aMp; omega)) (by unfold aMp; omega)) (by unfold aMp; omega)) (by unfold aMp; omega)
/-- a tree comes -/
theorem MSt_em {x x1 x2 x3 : Int32} (hP : PB md T C S R) (h : MSt md T C kd key pl m I J n (pd + 1) l g) (h1 : x1 = opc md x) (hx : ¬ 0 ≤ x) : MSt md T C kd key pl m (emI I T l.length x1 x2 x3) J n pd (l ++ [x]) g := by
  obtain ⟨hL, hT, hY, hT1, hC1, hTC, hmd, -⟩ := hP
  obtain ⟨g1, g2, g3, g4, g5, g6, g7, g8⟩ := h
  refine ⟨MC_of g1 ?_ g1.2.1 ?_ ?_ ?_ rfl, ?_, by rw [List.length_append, List.length_singleton]; omega, ?_, g5, ?_, TL_snoc g7 (Nat.le_refl _) ?_ ?_ (fun q => absurd q hx), fun q => ⟨?_, (g8 q).2⟩⟩
  · rw [em_o (by omega) (by omega) (by omega) (by omega)]; exact g1.1
  · funext j; rw [em_o (by omega) (by omega) (by omega) (by omega)]
  · funext j; rw [em_o (by omega) (by omega) (by omega) (by omega)]
  · funext j; rw [em_o (by omega) (by omega) (by omega) (by omega)]
  · unfold emI
    rw [u2_e, List.length_append, List.length_singleton]
  · rw [em_o (by omega) (by omega) (by omega) (by omega)]; exact g4
  · rw [em_o (by omega) (by omega) (by omega) (by omega)]; exact g6
  · intro i hi
    rw [em_1, em_2, if_neg (by omega), if_neg (by omega), em_o (b := T + 5) (by omega) (by omega) (by omega) (by omega)]
    exact ⟨rfl, rfl, rfl, rfl⟩
  · rw [em_1, if_pos rfl, h1]
  · rw [em_o (by omega) (by omega) (by omega) (by omega)]; exact (g8 q).1
theorem ge_app {α : Type} {l : List α} {x : α} {i : Nat} (h : i < l.length) : (l ++ [x])[i]? = l[i]? := by rw [List.getElem?_append, if_pos h]
theorem ge_len {α : Type} {l : List α} {x : α} : (l ++ [x])[l.length]? = some x := by rw [List.getElem?_append, if_neg (by omega)]; simp
theorem ps_ands {f B : Nat} (hP : PB md T C S R) (hc : PS xs L S R c md T C kd key pl m f 134 [] 5 B (fun _ => True)) : PS xs L S R c md T C kd key pl m f 133 [.null] 3 (B + 1) (fun _ => True) := by
  intro d dp n pd l g I J Q hdp hf _ h kT kR
  have hL := hP.1
  refine b_X14_ands_0 hL ?_
  refine hc d dp n pd l g I J _ hdp hf trivial h (fun I' J' p q => kT I' J' p ⟨q.1, q.2.1, q.2.2.1, q.2.2.2.1, fun w hw => q.2.2.2.2 w (wkl_mono hw (by omega))⟩) (fun I' J' n' l' g' q => ?_)
  refine b_X14_ands_5 ?_
  have q' : PRt md T C kd key pl m I J n pd dp l g 3 I' J' n' l' g' ∨ True := Or.inr trivial
  clear q'
  have main : ∀ (f2 : Nat) (I' : Nat → Nat → Int32) (J' : Nat → Nat → Int64) (n' : Nat) (l' : List Int32) (g' : LeS), m < n' + f2 → n < n' → fr (aMp md T C) I I' → fr (aMpj md T C) J J' → MSt md T C kd key pl m I' J' n' pd l' g' → l.length < l'.length → (∀ i, i < l.length → l'[i]? = l[i]? ∧ I' (T + 2) i = I (T + 2) i ∧ I' (T + 3) i = I (T + 3) i) → g.1 < g'.1 → tre l' (I' (T + 2)) (I' (T + 3)) (g'.1 - g.1 + (10 - dp)) l.length (l'.length - 1) → (∀ w, wkl 3 w → sy1 kd (lfM md kd key) m true n w dp l g = sy1 kd (lfM md kd key) m false n' w dp l' g') → nop 5 (kd n') → X xs L (d + 5 * (10 - dp) + B + 1) 133 6 [.ref 65, .int (ii dp), .int (ii (l'.length - 1))] [] (S, I', J', R, c) Q := by
    intro f2
    induction f2 with
    | zero => intro I' J' n' l' g' a1 a2 a3 a4 a5; have := a5.1.2.1; omega
    | succ f2 ih =>
      intro I' J' n' l' g' a1 a2 a3 a4 a5 a6 a7 a8 a9 a10 a11
      have hsg := TE_sg (MC_te a5.1) (c := 38) (by decide)
      refine b_X14_ands_6 hL (s_here hL a5.1 ?_)
      refine b_X14_ands_12 (fun z => ?_) (fun z => ?_)
      · have hk : ¬ kd n' = 38 := by intro e; rw [if_pos (hsg.2 e)] at z; exact absurd z (by decide)
        refine b_X14_ands_41 (kR I' J' n' l' g' ⟨a3, a4, a5, a2, a6, a7, a8, a9, a10, ?_⟩)
        intro ho
        have h1 := a11 ho
        rcases isOp_iff.1 ho with e | e | e <;> rw [e] at h1 hk ⊢ <;> first | exact absurd rfl hk | exact absurd h1 (by decide) | decide
      · have hk : kd n' = 38 := by
          apply hsg.1
          by_cases e : I' 67 n' = 38
          · exact e
          · rw [if_neg e] at z; exact absurd rfl z
        have hn : n' < m := MC_lt a5.1 (by rw [hk]; decide)
        have hm := a5.1.2.2.1
        refine b_X14_ands_15 hL ?_
        rw [a5.1.1, ii_add1]
        have b5 := MSt_adv (pd' := pd + 1) hP a5 hn (Nat.le_refl _)
        have fA : fr (aMp md T C) I (u2 I' 65 7 (ii (n' + 1))) := fr_u _ a3 (by unfold aMp; omega)
        have hT2 : ∀ i, u2 I' 65 7 (ii (n' + 1)) (T + 2) i = I' (T + 2) i := fun i => by rw [u2_a _ _ _ _ (by have := hP.2.2.2.1; omega)]
        have hT3 : ∀ i, u2 I' 65 7 (ii (n' + 1)) (T + 3) i = I' (T + 3) i := fun i => by rw [u2_a _ _ _ _ (by have := hP.2.2.2.1; omega)]
        have hop : ∀ w, wkl 3 w → sy1 kd (lfM md kd key) m true n w dp l g = sy1 kd (lfM md kd key) m true (n' + 1) (38 :: w) dp l' g' := fun w hw => by
          rw [a10 w hw, sy_oop a5.1.2.1 (by decide) hk hw]
        refine hc d dp (n' + 1) (pd + 1) l' g' _ J' _ hdp (by omega) trivial b5 (fun I2 J2 p q => ?_) (fun I2 J2 n2 l2 g2 q => ?_)
        · exact kT I2 J2 p ⟨fr_trans fA q.1, fr_trans a4 q.2.1, q.2.2.1, q.2.2.2.1, fun w hw => by rw [hop w hw]; exact q.2.2.2.2 _ (wkl_c (by decide))⟩
        · obtain ⟨q1, q2, q3, q4, q5, q6, q7, q8, q9, q10⟩ := q
          have hl2 : l2.length < 2000 := by have := q3.2.2.1; have := q3.1.2.1; omega
          refine b_X14_ands_34 hL (s_tree hL hP.2.1 hP.2.2.1 q3.2.1 hl2 ?_)
          refine b_X14_ands_37 ?_
          have hlen : (l2 ++ [-38]).length - 1 = l2.length := by rw [List.length_append, List.length_singleton]; omega
          have hln' : l'.length - 1 < l2.length := by omega
          have := ih (emI I2 T l2.length 38 (ii (l'.length - 1)) (ii (l2.length - 1))) J2 n2 (l2 ++ [-38]) g2 (by omega) (by omega) (em_fr (fr_trans fA q1)) (fr_trans a4 q2) (MSt_em hP q3 (by unfold opc; rw [if_neg (by decide), if_neg (by decide), if_pos (by decide)]; rfl) (by decide)) (by rw [List.length_append]; omega) ?_ (by omega) ?_ ?_ q10
          · rw [hlen] at this; exact this
          · intro i hi
            have hi2 : ¬ i = l2.length := by omega
            rw [em_2, em_3, if_neg hi2, if_neg hi2, ge_app (by omega)]
            obtain ⟨c1, c2, c3⟩ := q6 i (by omega)
            obtain ⟨d1, d2, d3⟩ := a7 i hi
            rw [c1, c2, c3, hT2, hT3]
            exact ⟨d1, d2, d3⟩
          · rw [hlen]
            have hge : ∀ (y : Int32) (i : Nat), i < l2.length → (l2 ++ [y])[i]? = l2[i]? := fun y i hi => ge_app hi
            have t1 : tre (l2 ++ [-38]) (emI I2 T l2.length 38 (ii (l'.length - 1)) (ii (l2.length - 1)) (T + 2)) (emI I2 T l2.length 38 (ii (l'.length - 1)) (ii (l2.length - 1)) (T + 3)) (g'.1 - g.1 + (10 - dp)) l.length (l'.length - 1) := by
              refine tre_ext _ _ _ (fun i hi => ?_) (fun i hi => ?_) a9
              · rw [hge _ i (by omega)]; exact (q6 i (by omega)).1
              · rw [em_2, em_3, if_neg (by omega), if_neg (by omega), (q6 i (by omega)).2.1, (q6 i (by omega)).2.2, hT2, hT3]; exact ⟨rfl, rfl⟩
            have t2 : tre (l2 ++ [-38]) (emI I2 T l2.length 38 (ii (l'.length - 1)) (ii (l2.length - 1)) (T + 2)) (emI I2 T l2.length 38 (ii (l'.length - 1)) (ii (l2.length - 1)) (T + 3)) (g2.1 - g'.1 + (10 - dp)) l'.length (l2.length - 1) := by
              refine tre_ext _ _ _ (fun i hi => ?_) (fun i hi => ?_) q8
              · rw [hge _ i (by omega)]
              · rw [em_2, em_3, if_neg (by omega), if_neg (by omega)]; exact ⟨rfl, rfl⟩
            obtain ⟨f3, hf3⟩ : ∃ f3, g2.1 - g.1 + (10 - dp) = f3 + 1 := ⟨g2.1 - g.1 + (10 - dp) - 1, by omega⟩
            rw [hf3]
            refine ⟨-38, ge_len, Or.inr (Or.inr ⟨Or.inl rfl, l2.length - 1, l'.length - 1, by omega, ?_, ?_, tre_mono _ _ _ _ (by omega) t1, ?_⟩)⟩
            · rw [em_2, if_pos rfl]
            · rw [em_3, if_pos rfl]
            · rw [show l'.length - 1 + 1 = l'.length by omega]
              exact tre_mono _ _ _ _ (by omega) t2
          · intro w hw
            rw [hop w hw, q9 _ (wkl_c (by decide)), sy_fop q3.1.2.1 (by decide) (fun ho => ?_)]
            have h1 := q10 ho
            rcases isOp_iff.1 ho with e | e | e <;> rw [e] at h1 ⊢ <;> first | exact absurd h1 (by decide) | decide
  obtain ⟨q1, q2, q3, q4, q5, q6, q7, q8, q9, q10⟩ := q
  exact main (m + 1) I' J' n' l' g' (by omega) q4 q1 q2 q3 q5 q6 q7 q8 (fun w hw => q9 w (wkl_mono hw (by omega))) q10
theorem ps_xors {f B : Nat} (hP : PB md T C S R) (hc : PS xs L S R c md T C kd key pl m f 133 [.null] 3 B (fun _ => True)) : PS xs L S R c md T C kd key pl m f 132 [.null] 2 (B + 1) (fun _ => True) := by
  intro d dp n pd l g I J Q hdp hf _ h kT kR
  have hL := hP.1
  refine b_X14_xors_0 hL ?_
  refine hc d dp n pd l g I J _ hdp hf trivial h (fun I' J' p q => kT I' J' p ⟨q.1, q.2.1, q.2.2.1, q.2.2.2.1, fun w hw => q.2.2.2.2 w (wkl_mono hw (by omega))⟩) (fun I' J' n' l' g' q => ?_)
  refine b_X14_xors_5 ?_
  have q' : PRt md T C kd key pl m I J n pd dp l g 2 I' J' n' l' g' ∨ True := Or.inr trivial
  clear q'
  have main : ∀ (f2 : Nat) (I' : Nat → Nat → Int32) (J' : Nat → Nat → Int64) (n' : Nat) (l' : List Int32) (g' : LeS), m < n' + f2 → n < n' → fr (aMp md T C) I I' → fr (aMpj md T C) J J' → MSt md T C kd key pl m I' J' n' pd l' g' → l.length < l'.length → (∀ i, i < l.length → l'[i]? = l[i]? ∧ I' (T + 2) i = I (T + 2) i ∧ I' (T + 3) i = I (T + 3) i) → g.1 < g'.1 → tre l' (I' (T + 2)) (I' (T + 3)) (g'.1 - g.1 + (10 - dp)) l.length (l'.length - 1) → (∀ w, wkl 2 w → sy1 kd (lfM md kd key) m true n w dp l g = sy1 kd (lfM md kd key) m false n' w dp l' g') → nop 3 (kd n') → X xs L (d + 5 * (10 - dp) + B + 1) 132 6 [.ref 65, .int (ii dp), .int (ii (l'.length - 1))] [] (S, I', J', R, c) Q := by
    intro f2
    induction f2 with
    | zero => intro I' J' n' l' g' a1 a2 a3 a4 a5; have := a5.1.2.1; omega
    | succ f2 ih =>
      intro I' J' n' l' g' a1 a2 a3 a4 a5 a6 a7 a8 a9 a10 a11
      have hsg := TE_sg (MC_te a5.1) (c := 94) (by decide)
      refine b_X14_xors_6 hL (s_here hL a5.1 ?_)
      refine b_X14_xors_12 (fun z => ?_) (fun z => ?_)
      · have hk : ¬ kd n' = 94 := by intro e; rw [if_pos (hsg.2 e)] at z; exact absurd z (by decide)
        refine b_X14_xors_41 (kR I' J' n' l' g' ⟨a3, a4, a5, a2, a6, a7, a8, a9, a10, ?_⟩)
        intro ho
        have h1 := a11 ho
        rcases isOp_iff.1 ho with e | e | e <;> rw [e] at h1 hk ⊢ <;> first | exact absurd rfl hk | exact absurd h1 (by decide) | decide
      · have hk : kd n' = 94 := by
          apply hsg.1
          by_cases e : I' 67 n' = 94
          · exact e
          · rw [if_neg e] at z; exact absurd rfl z
        have hn : n' < m := MC_lt a5.1 (by rw [hk]; decide)
        have hm := a5.1.2.2.1
        refine b_X14_xors_15 hL ?_
        rw [a5.1.1, ii_add1]
        have b5 := MSt_adv (pd' := pd + 1) hP a5 hn (Nat.le_refl _)
        have fA : fr (aMp md T C) I (u2 I' 65 7 (ii (n' + 1))) := fr_u _ a3 (by unfold aMp; omega)
        have hT2 : ∀ i, u2 I' 65 7 (ii (n' + 1)) (T + 2) i = I' (T + 2) i := fun i => by rw [u2_a _ _ _ _ (by have := hP.2.2.2.1; omega)]
        have hT3 : ∀ i, u2 I' 65 7 (ii (n' + 1)) (T + 3) i = I' (T + 3) i := fun i => by rw [u2_a _ _ _ _ (by have := hP.2.2.2.1; omega)]
        have hop : ∀ w, wkl 2 w → sy1 kd (lfM md kd key) m true n w dp l g = sy1 kd (lfM md kd key) m true (n' + 1) (94 :: w) dp l' g' := fun w hw => by
          rw [a10 w hw, sy_oop a5.1.2.1 (by decide) hk hw]
        refine hc d dp (n' + 1) (pd + 1) l' g' _ J' _ hdp (by omega) trivial b5 (fun I2 J2 p q => ?_) (fun I2 J2 n2 l2 g2 q => ?_)
        · exact kT I2 J2 p ⟨fr_trans fA q.1, fr_trans a4 q.2.1, q.2.2.1, q.2.2.2.1, fun w hw => by rw [hop w hw]; exact q.2.2.2.2 _ (wkl_c (by decide))⟩
        · obtain ⟨q1, q2, q3, q4, q5, q6, q7, q8, q9, q10⟩ := q
          have hl2 : l2.length < 2000 := by have := q3.2.2.1; have := q3.1.2.1; omega
          refine b_X14_xors_34 hL (s_tree hL hP.2.1 hP.2.2.1 q3.2.1 hl2 ?_)
          refine b_X14_xors_37 ?_
          have hlen : (l2 ++ [-94]).length - 1 = l2.length := by rw [List.length_append, List.length_singleton]; omega
          have hln' : l'.length - 1 < l2.length := by omega
          have := ih (emI I2 T l2.length 94 (ii (l'.length - 1)) (ii (l2.length - 1))) J2 n2 (l2 ++ [-94]) g2 (by omega) (by omega) (em_fr (fr_trans fA q1)) (fr_trans a4 q2) (MSt_em hP q3 (by unfold opc; rw [if_neg (by decide), if_neg (by decide), if_pos (by decide)]; rfl) (by decide)) (by rw [List.length_append]; omega) ?_ (by omega) ?_ ?_ q10
          · rw [hlen] at this; exact this
          · intro i hi
            have hi2 : ¬ i = l2.length := by omega
            rw [em_2, em_3, if_neg hi2, if_neg hi2, ge_app (by omega)]
            obtain ⟨c1, c2, c3⟩ := q6 i (by omega)
            obtain ⟨d1, d2, d3⟩ := a7 i hi
            rw [c1, c2, c3, hT2, hT3]
            exact ⟨d1, d2, d3⟩
          · rw [hlen]
            have hge : ∀ (y : Int32) (i : Nat), i < l2.length → (l2 ++ [y])[i]? = l2[i]? := fun y i hi => ge_app hi
            have t1 : tre (l2 ++ [-94]) (emI I2 T l2.length 94 (ii (l'.length - 1)) (ii (l2.length - 1)) (T + 2)) (emI I2 T l2.length 94 (ii (l'.length - 1)) (ii (l2.length - 1)) (T + 3)) (g'.1 - g.1 + (10 - dp)) l.length (l'.length - 1) := by
              refine tre_ext _ _ _ (fun i hi => ?_) (fun i hi => ?_) a9
              · rw [hge _ i (by omega)]; exact (q6 i (by omega)).1
              · rw [em_2, em_3, if_neg (by omega), if_neg (by omega), (q6 i (by omega)).2.1, (q6 i (by omega)).2.2, hT2, hT3]; exact ⟨rfl, rfl⟩
            have t2 : tre (l2 ++ [-94]) (emI I2 T l2.length 94 (ii (l'.length - 1)) (ii (l2.length - 1)) (T + 2)) (emI I2 T l2.length 94 (ii (l'.length - 1)) (ii (l2.length - 1)) (T + 3)) (g2.1 - g'.1 + (10 - dp)) l'.length (l2.length - 1) := by
              refine tre_ext _ _ _ (fun i hi => ?_) (fun i hi => ?_) q8
              · rw [hge _ i (by omega)]
              · rw [em_2, em_3, if_neg (by omega), if_neg (by omega)]; exact ⟨rfl, rfl⟩
            obtain ⟨f3, hf3⟩ : ∃ f3, g2.1 - g.1 + (10 - dp) = f3 + 1 := ⟨g2.1 - g.1 + (10 - dp) - 1, by omega⟩
            rw [hf3]
            refine ⟨-94, ge_len, Or.inr (Or.inr ⟨Or.inr (Or.inl rfl), l2.length - 1, l'.length - 1, by omega, ?_, ?_, tre_mono _ _ _ _ (by omega) t1, ?_⟩)⟩
            · rw [em_2, if_pos rfl]
            · rw [em_3, if_pos rfl]
            · rw [show l'.length - 1 + 1 = l'.length by omega]
              exact tre_mono _ _ _ _ (by omega) t2
          · intro w hw
            rw [hop w hw, q9 _ (wkl_c (by decide)), sy_fop q3.1.2.1 (by decide) (fun ho => ?_)]
            have h1 := q10 ho
            rcases isOp_iff.1 ho with e | e | e <;> rw [e] at h1 ⊢ <;> first | exact absurd h1 (by decide) | decide
  obtain ⟨q1, q2, q3, q4, q5, q6, q7, q8, q9, q10⟩ := q
  exact main (m + 1) I' J' n' l' g' (by omega) q4 q1 q2 q3 q5 q6 q7 q8 (fun w hw => q9 w (wkl_mono hw (by omega))) q10
theorem ps_ors {f B : Nat} (hP : PB md T C S R) (hc : PS xs L S R c md T C kd key pl m f 132 [.null] 2 B (fun _ => True)) : PS xs L S R c md T C kd key pl m f 131 [.null] 1 (B + 1) (fun _ => True) := by
  intro d dp n pd l g I J Q hdp hf _ h kT kR
  have hL := hP.1
  refine b_X14_ors_0 hL ?_
  refine hc d dp n pd l g I J _ hdp hf trivial h (fun I' J' p q => kT I' J' p ⟨q.1, q.2.1, q.2.2.1, q.2.2.2.1, fun w hw => q.2.2.2.2 w (wkl_mono hw (by omega))⟩) (fun I' J' n' l' g' q => ?_)
  refine b_X14_ors_5 ?_
  have q' : PRt md T C kd key pl m I J n pd dp l g 1 I' J' n' l' g' ∨ True := Or.inr trivial
  clear q'
  have main : ∀ (f2 : Nat) (I' : Nat → Nat → Int32) (J' : Nat → Nat → Int64) (n' : Nat) (l' : List Int32) (g' : LeS), m < n' + f2 → n < n' → fr (aMp md T C) I I' → fr (aMpj md T C) J J' → MSt md T C kd key pl m I' J' n' pd l' g' → l.length < l'.length → (∀ i, i < l.length → l'[i]? = l[i]? ∧ I' (T + 2) i = I (T + 2) i ∧ I' (T + 3) i = I (T + 3) i) → g.1 < g'.1 → tre l' (I' (T + 2)) (I' (T + 3)) (g'.1 - g.1 + (10 - dp)) l.length (l'.length - 1) → (∀ w, wkl 1 w → sy1 kd (lfM md kd key) m true n w dp l g = sy1 kd (lfM md kd key) m false n' w dp l' g') → nop 2 (kd n') → X xs L (d + 5 * (10 - dp) + B + 1) 131 6 [.ref 65, .int (ii dp), .int (ii (l'.length - 1))] [] (S, I', J', R, c) Q := by
    intro f2
    induction f2 with
    | zero => intro I' J' n' l' g' a1 a2 a3 a4 a5; have := a5.1.2.1; omega
    | succ f2 ih =>
      intro I' J' n' l' g' a1 a2 a3 a4 a5 a6 a7 a8 a9 a10 a11
      have hsg := TE_sg (MC_te a5.1) (c := 124) (by decide)
      refine b_X14_ors_6 hL (s_here hL a5.1 ?_)
      refine b_X14_ors_12 (fun z => ?_) (fun z => ?_)
      · have hk : ¬ kd n' = 124 := by intro e; rw [if_pos (hsg.2 e)] at z; exact absurd z (by decide)
        refine b_X14_ors_41 (kR I' J' n' l' g' ⟨a3, a4, a5, a2, a6, a7, a8, a9, a10, ?_⟩)
        intro ho
        have h1 := a11 ho
        rcases isOp_iff.1 ho with e | e | e <;> rw [e] at h1 hk ⊢ <;> first | exact absurd rfl hk | exact absurd h1 (by decide) | decide
      · have hk : kd n' = 124 := by
          apply hsg.1
          by_cases e : I' 67 n' = 124
          · exact e
          · rw [if_neg e] at z; exact absurd rfl z
        have hn : n' < m := MC_lt a5.1 (by rw [hk]; decide)
        have hm := a5.1.2.2.1
        refine b_X14_ors_15 hL ?_
        rw [a5.1.1, ii_add1]
        have b5 := MSt_adv (pd' := pd + 1) hP a5 hn (Nat.le_refl _)
        have fA : fr (aMp md T C) I (u2 I' 65 7 (ii (n' + 1))) := fr_u _ a3 (by unfold aMp; omega)
        have hT2 : ∀ i, u2 I' 65 7 (ii (n' + 1)) (T + 2) i = I' (T + 2) i := fun i => by rw [u2_a _ _ _ _ (by have := hP.2.2.2.1; omega)]
        have hT3 : ∀ i, u2 I' 65 7 (ii (n' + 1)) (T + 3) i = I' (T + 3) i := fun i => by rw [u2_a _ _ _ _ (by have := hP.2.2.2.1; omega)]
        have hop : ∀ w, wkl 1 w → sy1 kd (lfM md kd key) m true n w dp l g = sy1 kd (lfM md kd key) m true (n' + 1) (124 :: w) dp l' g' := fun w hw => by
          rw [a10 w hw, sy_oop a5.1.2.1 (by decide) hk hw]
        refine hc d dp (n' + 1) (pd + 1) l' g' _ J' _ hdp (by omega) trivial b5 (fun I2 J2 p q => ?_) (fun I2 J2 n2 l2 g2 q => ?_)
        · exact kT I2 J2 p ⟨fr_trans fA q.1, fr_trans a4 q.2.1, q.2.2.1, q.2.2.2.1, fun w hw => by rw [hop w hw]; exact q.2.2.2.2 _ (wkl_c (by decide))⟩
        · obtain ⟨q1, q2, q3, q4, q5, q6, q7, q8, q9, q10⟩ := q
          have hl2 : l2.length < 2000 := by have := q3.2.2.1; have := q3.1.2.1; omega
          refine b_X14_ors_34 hL (s_tree hL hP.2.1 hP.2.2.1 q3.2.1 hl2 ?_)
          refine b_X14_ors_37 ?_
          have hlen : (l2 ++ [-124]).length - 1 = l2.length := by rw [List.length_append, List.length_singleton]; omega
          have hln' : l'.length - 1 < l2.length := by omega
          have := ih (emI I2 T l2.length 124 (ii (l'.length - 1)) (ii (l2.length - 1))) J2 n2 (l2 ++ [-124]) g2 (by omega) (by omega) (em_fr (fr_trans fA q1)) (fr_trans a4 q2) (MSt_em hP q3 (by unfold opc; rw [if_neg (by decide), if_neg (by decide), if_pos (by decide)]; rfl) (by decide)) (by rw [List.length_append]; omega) ?_ (by omega) ?_ ?_ q10
          · rw [hlen] at this; exact this
          · intro i hi
            have hi2 : ¬ i = l2.length := by omega
            rw [em_2, em_3, if_neg hi2, if_neg hi2, ge_app (by omega)]
            obtain ⟨c1, c2, c3⟩ := q6 i (by omega)
            obtain ⟨d1, d2, d3⟩ := a7 i hi
            rw [c1, c2, c3, hT2, hT3]
            exact ⟨d1, d2, d3⟩
          · rw [hlen]
            have hge : ∀ (y : Int32) (i : Nat), i < l2.length → (l2 ++ [y])[i]? = l2[i]? := fun y i hi => ge_app hi
            have t1 : tre (l2 ++ [-124]) (emI I2 T l2.length 124 (ii (l'.length - 1)) (ii (l2.length - 1)) (T + 2)) (emI I2 T l2.length 124 (ii (l'.length - 1)) (ii (l2.length - 1)) (T + 3)) (g'.1 - g.1 + (10 - dp)) l.length (l'.length - 1) := by
              refine tre_ext _ _ _ (fun i hi => ?_) (fun i hi => ?_) a9
              · rw [hge _ i (by omega)]; exact (q6 i (by omega)).1
              · rw [em_2, em_3, if_neg (by omega), if_neg (by omega), (q6 i (by omega)).2.1, (q6 i (by omega)).2.2, hT2, hT3]; exact ⟨rfl, rfl⟩
            have t2 : tre (l2 ++ [-124]) (emI I2 T l2.length 124 (ii (l'.length - 1)) (ii (l2.length - 1)) (T + 2)) (emI I2 T l2.length 124 (ii (l'.length - 1)) (ii (l2.length - 1)) (T + 3)) (g2.1 - g'.1 + (10 - dp)) l'.length (l2.length - 1) := by
              refine tre_ext _ _ _ (fun i hi => ?_) (fun i hi => ?_) q8
              · rw [hge _ i (by omega)]
              · rw [em_2, em_3, if_neg (by omega), if_neg (by omega)]; exact ⟨rfl, rfl⟩
            obtain ⟨f3, hf3⟩ : ∃ f3, g2.1 - g.1 + (10 - dp) = f3 + 1 := ⟨g2.1 - g.1 + (10 - dp) - 1, by omega⟩
            rw [hf3]
            refine ⟨-124, ge_len, Or.inr (Or.inr ⟨Or.inr (Or.inr rfl), l2.length - 1, l'.length - 1, by omega, ?_, ?_, tre_mono _ _ _ _ (by omega) t1, ?_⟩)⟩
            · rw [em_2, if_pos rfl]
            · rw [em_3, if_pos rfl]
            · rw [show l'.length - 1 + 1 = l'.length by omega]
              exact tre_mono _ _ _ _ (by omega) t2
          · intro w hw
            rw [hop w hw, q9 _ (wkl_c (by decide)), sy_fop q3.1.2.1 (by decide) (fun ho => ?_)]
            have h1 := q10 ho
            rcases isOp_iff.1 ho with e | e | e <;> rw [e] at h1 ⊢ <;> first | exact absurd h1 (by decide) | decide
  obtain ⟨q1, q2, q3, q4, q5, q6, q7, q8, q9, q10⟩ := q
  exact main (m + 1) I' J' n' l' g' (by omega) q4 q1 q2 q3 q5 q6 q7 q8 (fun w hw => q9 w (wkl_mono hw (by omega))) q10
theorem ps_not {f : Nat} (hP : PB md T C S R) (ha : PS xs L S R c md T C kd key pl m (f + 1) 135 [.null] 5 12 (fun x => ¬ x = 33)) (hn0 : PS xs L S R c md T C kd key pl m f 134 [] 5 13 (fun _ => True)) : PS xs L S R c md T C kd key pl m (f + 1) 134 [] 5 13 (fun _ => True) := by
  intro d dp n pd l g I J Q hdp hf _ h kT kR
  have hL := hP.1
  have hsg := TE_sg (MC_te h.1) (c := 33) (by decide)
  refine b_X14_not_0 hL (s_here hL h.1 ?_)
  refine b_X14_not_6 (fun z => ?_) (fun z => ?_)
  · have hk : kd n = 33 := by
      apply hsg.1
      by_cases e : I 67 n = 33
      · exact e
      · rw [if_neg e] at z; exact absurd rfl z
    have hn : n < m := MC_lt h.1 (by rw [hk]; decide)
    refine b_X14_not_15 (fun z2 => ?_) (fun z2 => ?_)
    · have hd : 10 ≤ dp := (ii_le (n := 10) (by omega) (by omega)).1 z2
      refine b_X14_not_26 (b_X14_not_27 hL (s_check hL h.1 (fun _ => ?_) (fun q => absurd rfl q)))
      refine kT _ J n ⟨fr_u _ (fr_refl _ _) (by unfold aMp; omega), fr_refl _ _, h.1.2.1, u2_e _ _ _ _, fun w _ => ?_⟩
      rw [sy_o h.1.2.1, if_pos (Or.inl hk), if_pos hd]; exact ⟨rfl, rfl⟩
    · have hd : ¬ 10 ≤ dp := fun q => z2 ((ii_le (n := 10) (by omega) (by omega)).2 q)
      refine b_X14_not_22 (b_X14_not_27 hL (s_check hL h.1 (fun q => absurd q (by decide)) (fun _ => ?_)))
      refine b_X14_not_30 hL ?_
      rw [h.1.1, ii_add1, ii_add1]
      have b5 := MSt_adv (pd' := pd + 1) hP h hn (Nat.le_refl _)
      have hop : ∀ w, sy1 kd (lfM md kd key) m true n w dp l g = sy1 kd (lfM md kd key) m true (n + 1) (33 :: w) (dp + 1) l g := fun w => by
        rw [sy_o h.1.2.1, if_pos (Or.inl hk), if_neg hd, hk]
      have fA : fr (aMp md T C) I (u2 I 65 7 (ii (n + 1))) := fr_u _ (fr_refl _ _) (by unfold aMp; omega)
      rw [show d + 5 * (10 - dp) + 12 = (d + 4) + 5 * (10 - (dp + 1)) + 13 by omega]
      refine hn0 (d + 4) (dp + 1) (n + 1) (pd + 1) l g _ J _ (by omega) (by omega) trivial b5 (fun I2 J2 p q => ?_) (fun I2 J2 n2 l2 g2 q => ?_)
      · exact kT I2 J2 p ⟨fr_trans fA q.1, q.2.1, q.2.2.1, q.2.2.2.1, fun w hw => by rw [hop w]; exact q.2.2.2.2 _ wkl_5⟩
      · obtain ⟨q1, q2, q3, q4, q5, q6, q7, q8, q9, q10⟩ := q
        have hl2 : l2.length < 2000 := by have := q3.2.2.1; have := q3.1.2.1; have := h.1.2.2.1; omega
        refine b_X14_not_50 hL (s_tree hL hP.2.1 hP.2.2.1 q3.2.1 hl2 ?_)
        refine b_X14_not_54 ?_
        have hlen : (l2 ++ [-33]).length - 1 = l2.length := by rw [List.length_append, List.length_singleton]; omega
        have hT2 : ∀ i, u2 I 65 7 (ii (n + 1)) (T + 2) i = I (T + 2) i := fun i => by rw [u2_a _ _ _ _ (by have := hP.2.2.2.1; omega)]
        have hT3 : ∀ i, u2 I 65 7 (ii (n + 1)) (T + 3) i = I (T + 3) i := fun i => by rw [u2_a _ _ _ _ (by have := hP.2.2.2.1; omega)]
        have := kR (emI I2 T l2.length 33 (ii (l2.length - 1)) (-1)) J2 n2 (l2 ++ [-33]) g2 ⟨em_fr (fr_trans fA q1), q2, MSt_em hP q3 (by unfold opc; rw [if_neg (by decide), if_neg (by decide), if_pos (by decide)]; rfl) (by decide), by omega, by rw [List.length_append]; omega, ?_, by omega, ?_, ?_, nop_5⟩
        · rw [hlen] at this; exact this
        · intro i hi
          have hi2 : ¬ i = l2.length := by omega
          rw [em_2, em_3, if_neg hi2, if_neg hi2, ge_app (by omega)]
          obtain ⟨c1, c2, c3⟩ := q6 i (by omega)
          rw [c1, c2, c3, hT2, hT3]
          exact ⟨rfl, rfl, rfl⟩
        · rw [hlen]
          obtain ⟨f3, hf3⟩ : ∃ f3, g2.1 - g.1 + (10 - dp) = f3 + 1 := ⟨g2.1 - g.1 + (10 - dp) - 1, by omega⟩
          rw [hf3]
          refine ⟨-33, ge_len, Or.inr (Or.inl ⟨rfl, l2.length - 1, by omega, by rw [em_2, if_pos rfl], ?_⟩)⟩
          refine tre_mono _ _ _ _ (by omega) (tre_ext _ _ _ (fun i hi => ?_) (fun i hi => ?_) q8)
          · rw [ge_app (by omega)]
          · rw [em_2, em_3, if_neg (by omega), if_neg (by omega)]; exact ⟨rfl, rfl⟩
        · intro w hw
          rw [hop w, q9 _ wkl_5, sy_not q3.1.2.1]
  · have hk : ¬ kd n = 33 := by intro e; rw [if_pos (hsg.2 e)] at z; exact z (by decide)
    refine b_X14_not_9 hL ?_
    exact ha d dp n pd l g I J _ hdp hf hk h (fun I' J' p q => kT I' J' p q) (fun I' J' n' l' g' q => b_X14_not_14 (kR I' J' n' l' g' q))
end MPAR2
