/-! ===== P2: the stack of the class ===== -/
abbrev Rl : Type := Int64 × Int64
def rz : Rl := (0, -1)
def ro : Rl := (-1, 0)
def rng (p : Rl) : Rl := (p.2, p.1)
def rjo (x : Int32) (a b : Rl) : Rl := if x = -38 then (a.1 &&& b.1, a.2 ||| b.2) else if x = -124 then (a.1 ||| b.1, a.2 &&& b.2) else ((a.1 &&& b.2) ||| (a.2 &&& b.1), (a.1 &&& b.1) ||| (a.2 &&& b.2))
def StkL (I : Nat → Nat → Int32) (J : Nat → Nat → Int64) (st : List Rl) : Prop := I 14 2 = ii st.length ∧ ∀ i v, st.reverse[i]? = some v → J 15 i = v.1 ∧ J 16 i = v.2
theorem StkL_top {I : Nat → Nat → Int32} {J : Nat → Nat → Int64} {a : Rl} {t : List Rl} (h : StkL I J (a :: t)) : J 15 t.length = a.1 ∧ J 16 t.length = a.2 := by
  refine h.2 t.length a ?_
  rw [List.reverse_cons, List.getElem?_append, if_neg (by rw [List.length_reverse]; omega), List.length_reverse]; simp
theorem StkL_push {J J' : Nat → Nat → Int64} {I' : Nat → Nat → Int32} {t : List Rl} {a : Rl} (h : ∀ i v, t.reverse[i]? = some v → J 15 i = v.1 ∧ J 16 i = v.2) (e0 : I' 14 2 = ii (t.length + 1)) (e15 : J' 15 t.length = a.1) (e16 : J' 16 t.length = a.2) (eo : ∀ i, i < t.length → J' 15 i = J 15 i ∧ J' 16 i = J 16 i) : StkL I' J' (a :: t) := by
  refine ⟨by rw [e0]; rfl, fun i v hv => ?_⟩
  rw [List.reverse_cons, List.getElem?_append] at hv
  split at hv
  · rename_i hi
    rw [List.length_reverse] at hi
    rw [(eo i hi).1, (eo i hi).2]; exact h i v hv
  · rename_i hi
    rw [List.length_reverse] at hi hv
    have h2 : i - t.length = 0 := by
      by_cases q : i - t.length = 0
      · exact q
      · rw [List.getElem?_cons, if_neg q] at hv; simp at hv
    rw [h2] at hv
    have e : a = v := by simpa using hv
    rw [show i = t.length by omega, ← e]; exact ⟨e15, e16⟩
theorem StkL_tl {I : Nat → Nat → Int32} {J : Nat → Nat → Int64} {a : Rl} {t : List Rl} (h : StkL I J (a :: t)) : ∀ i v, t.reverse[i]? = some v → J 15 i = v.1 ∧ J 16 i = v.2 := by
  intro i v hv
  refine h.2 i v ?_
  have hi := (List.getElem?_eq_some_iff.1 hv).1
  rw [List.reverse_cons, List.getElem?_append, if_pos hi]; exact hv
def aSt (x k : Nat) : Prop := x = 14 ∧ k = 2
def aStj (x _k : Nat) : Prop := x = 15 ∨ x = 16
section SRUN
variable {xs : Nat → Int32} {L d : Nat} {S : Nat → Shp} {I : Nat → Nat → Int32} {J : Nat → Nat → Int64} {R : Nat → Nat → Nat} {c : Nat × Nat} {Q : Option (Option Value) → MH → Prop}
theorem s_X7_push {y1 y3 : Int64} {st : List Rl} (hL : Lay S R) (h : StkL I J st) (hs : st.length < 64) (k : ∀ I' J', fr aSt I I' → fr aStj J J' → StkL I' J' ((y1, y3) :: st) → Q (some none) (S, I', J', R, c)) : X xs L d 75 0 [.ref 14, .long y1, .null, .long y3, .null] [] (S, I, J, R, c) Q := by
  have hb : inb (I 14 2) 64 = true := by rw [h.1]; exact ii_inb hs (by omega)
  refine b_X7_push_0 hL (fun z => ?_) (fun _ => b_X7_push_9 hL hb hb (b_X7_push_39 ?_))
  · rw [h.1] at z
    have := (ii_le (n := 64) (by omega) (by omega)).1 z; omega
  rw [h.1, ii_nat (by omega), ii_add1]
  refine k _ _ (fr_u _ (fr_refl _ _) ⟨rfl, rfl⟩) (fr_u _ (fr_u _ (fr_refl _ _) (Or.inl rfl)) (Or.inr rfl)) (StkL_push h.2 (u2_e _ _ _ _) (by rw [u2_a _ _ _ _ (by decide), u2_e]) (u2_e _ _ _ _) (fun i hi => ⟨by rw [u2_a _ _ _ _ (by decide), u2_k _ _ _ _ (by omega)], by rw [u2_k _ _ _ _ (by omega), u2_a _ _ _ _ (by decide)]⟩))
theorem s_X7_apply {x : Int32} {lv : Nat → Rl} {st : List Rl} (hL : Lay S R) (h : StkL I J st) (hx : cop x) (hok : if isB x = true then 2 ≤ st.length else if x = -33 then 1 ≤ st.length else st.length < 64) (hs64 : st.length ≤ 64) (k : ∀ I' J', fr aSt I I' → fr aStj J J' → StkL I' J' (stg rz ro rng rjo lv st x) → Q (some none) (S, I', J', R, c)) : X xs L (d + 1) 76 0 [.ref 14, .int (-x)] [] (S, I, J, R, c) Q := by
  have hneg := cop_neg hx
  unfold stg at k
  rw [if_pos hneg] at k
  refine b_X7_apply_0 (fun z1 => ?_) (fun z1 => ?_)
  · have n48 : ¬ x = -48 := fun e => z1 (by rw [e]; rfl)
    rw [if_neg n48] at k
    refine b_X7_apply_17 (fun z2 => ?_) (fun z2 => ?_)
    · have n49 : ¬ x = -49 := fun e => z2 (by rw [e]; rfl)
      rw [if_neg n49] at k
      refine b_X7_apply_34 (fun z3 => ?_) (fun z3 => ?_)
      · have n33 : ¬ x = -33 := fun e => z3 (by rw [e]; rfl)
        rw [if_neg n33] at k
        have hb : isB x = true := by
          rcases hx with e | e | e | e | e | e
          · exact absurd e n33
          · subst e; decide
          · subst e; decide
          · subst e; decide
          · exact absurd e n48
          · exact absurd e n49
        rw [if_pos hb] at hok
        match st, h, hok, hs64, k with
        | bq :: aq :: t, h, hok, hs64, k =>
          simp only at k
          have hlen : I 14 2 = ii (t.length + 2) := h.1
          have e1 : I 14 2 - 1 = ii (t.length + 1) := by rw [hlen, ii_one, ii_sub (by omega)]; rfl
          have e2 : I 14 2 - 1 - 1 = ii t.length := by rw [e1, ii_one, ii_sub (by omega)]; rfl
          have hb1 : inb (ii (t.length + 1)) 64 = true := ii_inb (by simp at hs64; omega) (by omega)
          have hb2 : inb (ii t.length) 64 = true := ii_inb (by simp at hs64; omega) (by omega)
          have ht1 := StkL_top h
          have ht2 := StkL_top (I := u2 I 14 2 (ii (t.length + 1))) ⟨u2_e _ _ _ _, StkL_tl h⟩
          have hlt : t.length + 1 < 100 := by simp at hs64; omega
          have hfin : ∀ (a1 a2 : Int64), (a1, a2) = rjo x aq bq → ∀ I' : Nat → Nat → Int32, fr aSt I I' → I' 14 2 = ii (t.length + 1) → Q (some none) (S, I', u2 (u2 J 15 t.length a1) 16 t.length a2, R, c) := by
            intro a1 a2 ea I' f1 e0
            refine k I' _ f1 (fr_u _ (fr_u _ (fr_refl _ _) (Or.inl rfl)) (Or.inr rfl)) ?_
            rw [← ea]
            exact StkL_push (J := J) (fun i v hv => StkL_tl (I := u2 I 14 2 (ii (t.length + 1))) ⟨u2_e _ _ _ _, StkL_tl h⟩ i v hv) e0 (by rw [u2_a _ _ _ _ (by decide), u2_e]) (u2_e _ _ _ _) (fun i hi => ⟨by rw [u2_a _ _ _ _ (by decide), u2_k _ _ _ _ (by omega)], by rw [u2_k _ _ _ _ (by omega), u2_a _ _ _ _ (by decide)]⟩)
          refine b_X7_apply_47 hL ?_
          refine b_X7_join_0 hL (fun _ => ?_) (fun z => ?_)
          · refine b_X7_join_9 hL (by rw [e2]; exact hb2) (by rw [e2]; exact hb2) (by rw [e1]; exact hb1) (by rw [e1]; exact hb1) (fun z4 => ?_) (fun z4 => ?_)
            · rw [e2, e1, ii_nat (by omega), ii_nat (by omega), ht2.1, ht2.2]
              have ht1' : J 15 (t.length + 1) = bq.1 ∧ J 16 (t.length + 1) = bq.2 := ht1
              rw [ht1'.1, ht1'.2]
              have n38 : ¬ x = -38 := fun e => z4 (by rw [e]; rfl)
              have e0 : u2 I 14 2 (ii (t.length + 1)) 14 2 = ii (t.length + 1) := u2_e _ _ _ _
              have e3 : u2 I 14 2 (ii (t.length + 1)) 14 2 - 1 = ii t.length := by rw [e0, ii_one, ii_sub (by omega)]; rfl
              refine b_X7_join_106 (fun z5 => ?_) (fun z5 => ?_)
              · refine b_X7_join_146 hL (by rw [e3]; exact hb2) (by rw [e3]; exact hb2) ?_
                rw [e3, ii_nat (by omega)]
                refine b_X7_join_188 (b_X7_apply_52 (hfin _ _ ?_ _ (fr_u _ (fr_refl _ _) ⟨rfl, rfl⟩) e0))
                unfold rjo; rw [if_neg n38, if_neg (fun e => z5 (by rw [e]; rfl))]
              · refine b_X7_join_112 hL (by rw [e3]; exact hb2) (by rw [e3]; exact hb2) ?_
                rw [e3, ii_nat (by omega)]
                refine b_X7_join_188 (b_X7_apply_52 (hfin _ _ ?_ _ (fr_u _ (fr_refl _ _) ⟨rfl, rfl⟩) e0))
                have e124 : x = -124 := by
                  have := Classical.not_not.1 z5
                  rcases hx with e | e | e | e | e | e <;> subst e <;> first | rfl | exact absurd this (by decide)
                unfold rjo; rw [if_neg n38, if_pos e124]
            · rw [e2, e1, ii_nat (by omega), ii_nat (by omega), ht2.1, ht2.2]
              have ht1' : J 15 (t.length + 1) = bq.1 ∧ J 16 (t.length + 1) = bq.2 := ht1
              rw [ht1'.1, ht1'.2]
              have e0 : u2 I 14 2 (ii (t.length + 1)) 14 2 = ii (t.length + 1) := u2_e _ _ _ _
              have e3 : u2 I 14 2 (ii (t.length + 1)) 14 2 - 1 = ii t.length := by rw [e0, ii_one, ii_sub (by omega)]; rfl
              refine b_X7_join_72 hL (by rw [e3]; exact hb2) (by rw [e3]; exact hb2) ?_
              rw [e3, ii_nat (by omega)]
              refine b_X7_join_188 (b_X7_apply_52 (hfin _ _ ?_ _ (fr_u _ (fr_refl _ _) ⟨rfl, rfl⟩) e0))
              have e38 : x = -38 := by
                have := Classical.not_not.1 z4
                rcases hx with e | e | e | e | e | e <;> subst e <;> first | rfl | exact absurd this (by decide)
              unfold rjo; rw [if_pos e38]
          · rw [hlen] at z
            exact absurd ((ii_le (n := 2) (m := t.length + 2) (by omega) (by omega)).2 (by omega)) z
        | [], h, hok, hs64, k => simp at hok
        | [_], h, hok, hs64, k => simp at hok
      · have e33 : x = -33 := by
          have := Classical.not_not.1 z3
          rcases hx with e | e | e | e | e | e <;> subst e <;> first | rfl | exact absurd this (by decide)
        rw [if_pos e33] at k
        subst e33
        rw [if_neg (by decide), if_pos rfl] at hok
        match st, h, hok, hs64, k with
        | aq :: t, h, hok, hs64, k =>
          simp only at k
          have hlen : I 14 2 = ii (t.length + 1) := h.1
          have e1 : I 14 2 - 1 = ii t.length := by rw [hlen, ii_one, ii_sub (by omega)]; rfl
          have hb2 : inb (I 14 2 - 1) 64 = true := by rw [e1]; exact ii_inb (by simp at hs64; omega) (by omega)
          have hlt : t.length + 1 < 100 := by simp at hs64; omega
          have ht := StkL_top h
          refine b_X7_apply_40 hL ?_
          refine b_X7_invert_0 hL (fun _ => b_X7_invert_9 hL hb2 hb2 hb2 hb2 ?_) (fun z => ?_)
          · rw [e1, ii_nat (by omega), ht.1, ht.2]
            refine b_X7_apply_44 (b_X7_apply_52 (k I _ (fr_refl _ _) (fr_u _ (fr_u _ (fr_refl _ _) (Or.inl rfl)) (Or.inr rfl)) ?_))
            exact StkL_push (J := J) (StkL_tl h) hlen (by rw [u2_a _ _ _ _ (by decide), u2_e]; rfl) (by rw [u2_e]; rfl) (fun i hi => ⟨by rw [u2_a _ _ _ _ (by decide), u2_k _ _ _ _ (by omega)], by rw [u2_k _ _ _ _ (by omega), u2_a _ _ _ _ (by decide)]⟩)
          · rw [hlen] at z
            exact absurd ((ii_le (n := 1) (by omega) (by omega)).2 (by omega)) z
        | [], h, hok, hs64, k => simp at hok
    · have e49 : x = -49 := by
        have := Classical.not_not.1 z2
        rcases hx with e | e | e | e | e | e <;> subst e <;> first | rfl | exact absurd this (by decide)
      rw [if_pos e49] at k
      subst e49
      rw [if_neg (by decide), if_neg (by decide)] at hok
      exact b_X7_apply_23 hL (s_X7_push hL h hok (fun I' J' f1 f2 q => b_X7_apply_31 (b_X7_apply_52 (k I' J' f1 f2 q))))
  · have e48 : x = -48 := by
      have := Classical.not_not.1 z1
      rcases hx with e | e | e | e | e | e <;> subst e <;> first | rfl | exact absurd this (by decide)
    rw [if_pos e48] at k
    subst e48
    rw [if_neg (by decide), if_neg (by decide)] at hok
    exact b_X7_apply_6 hL (s_X7_push hL h hok (fun I' J' f1 f2 q => b_X7_apply_14 (b_X7_apply_52 (k I' J' f1 f2 q))))
theorem s_X7_run {r s e r4 r5 n4 n5 base nl : Nat} {l : List Int32} (hL : Lay S R) (hcd : LyCd S R r) (hr : 16 < r) (hl : CdL I r l) (hl2 : l.length ≤ 2000) (hse : s ≤ e) (he : e ≤ l.length) (h4 : S r4 = .inr (.long, n4)) (h5 : S r5 = .inr (.long, n5)) (hr4 : 16 < r4) (hr5 : 16 < r5) (hb4 : base + nl ≤ n4) (hb5 : base + nl ≤ n5) (hn4 : n4 < 10000) (hn5 : n5 < 10000) (hlv : ∀ y ∈ l, lvP nl y) (hok : OKc 64 0 (seg l s e)) (k : ∀ I' J', fr aSt I I' → fr aStj J J' → StkL I' J' ((seg l s e).foldl (stg rz ro rng rjo (fun v => (J r4 (base + v), J r5 (base + v)))) []) → ((seg l s e).foldl (stg rz ro rng rjo (fun v => (J r4 (base + v), J r5 (base + v)))) []).length ≤ 64 → Q (some none) (S, I', J', R, c)) : X xs L (d + 3) 72 0 [.ref 14, .ref r, .int (ii s), .int (ii e), .ref r4, .ref r5, .int (ii base), .null, .null] [] (S, I, J, R, c) Q := by
  refine b_X7_run_0 hL ?_
  have main : ∀ (f i : Nat) (v8 : Value) (st : List Rl) (I' : Nat → Nat → Int32) (J' : Nat → Nat → Int64), e - i = f → s ≤ i → i ≤ e → fr aSt I I' → fr aStj J J' → StkL I' J' st → st.length ≤ 64 → OKc 64 st.length (seg l i e) → (seg l i e).foldl (stg rz ro rng rjo (fun v => (J r4 (base + v), J r5 (base + v)))) st = (seg l s e).foldl (stg rz ro rng rjo (fun v => (J r4 (base + v), J r5 (base + v)))) [] → X xs L (d + 3) 72 8 [.ref 14, .ref r, .int (ii s), .int (ii e), .ref r4, .ref r5, .int (ii base), .int (ii i), v8] [] (S, I', J', R, c) Q := by
    intro f
    induction f with
    | zero =>
      intro i v8 st I' J' g1 g2 g3 g4 g5 g6 g7 g8 g9
      have ei : i = e := by omega
      subst ei
      rw [seg_nil] at g9
      have g9 : st = _ := g9
      refine b_X7_run_8 (fun _ => b_X7_run_63 (k I' J' g4 g5 ?_ ?_)) (fun z => absurd (Int32.le_refl _) z)
      · rw [← g9]; exact g6
      · rw [← g9]; exact g7
    | succ f ih =>
      intro i v8 st I' J' g1 g2 g3 g4 g5 g6 g7 g8 g9
      have hi : i < l.length := by omega
      have hx := ge_lt hi
      refine b_X7_run_8 (fun z => ?_) (fun _ => ?_)
      · rw [ii_le (by omega) (by omega)] at z; omega
      have hsp : seg l i e = l[i] :: seg l (i + 1) e := by
        rw [seg_split (q := i + 1) (by omega) (by omega), seg_snoc (Nat.le_refl _) hx, seg_nil]; rfl
      rw [hsp] at g8 g9
      obtain ⟨o1, o2⟩ := g8
      refine b_X7_run_14 hcd (s_X5_at hcd (ii_inb (by omega) (by omega)) ?_)
      have hat : f_X5_at I' r (ii i) = l[i] := by
        unfold f_X5_at; rw [ii_nat (by omega), g4 _ _ (by unfold aSt; omega)]; exact hl.2 i _ hx
      rw [hat]
      have hlvi := hlv l[i] (List.getElem_mem hi)
      have hstlen : (stg rz ro rng rjo (fun v => (J r4 (base + v), J r5 (base + v))) st l[i]).length = hst st.length l[i] := by
        unfold stg hst
        rcases hlvi with q | ⟨v, q1, q2⟩
        · have hneg := cop_neg q
          rw [if_pos hneg]
          rcases q with q | q | q | q | q | q <;> rw [q] at o1 ⊢
          · match st, o1 with
            | a :: t, _ => rfl
            | [], o1 => exact absurd o1 (by decide)
          · match st, o1 with
            | b :: a :: t, _ => rfl
            | [_], o1 => exact absurd o1 (by simp [isB])
            | [], o1 => exact absurd o1 (by simp [isB])
          · match st, o1 with
            | b :: a :: t, _ => rfl
            | [_], o1 => exact absurd o1 (by simp [isB])
            | [], o1 => exact absurd o1 (by simp [isB])
          · match st, o1 with
            | b :: a :: t, _ => rfl
            | [_], o1 => exact absurd o1 (by simp [isB])
            | [], o1 => exact absurd o1 (by simp [isB])
          · rfl
          · rfl
        · have hl9 := lfx_H (show lfx l[i] from Or.inl (by rw [q2, ii_zero, ii_le (by omega) (by omega)]; omega))
          have hnn : ¬ l[i] < 0 := by rw [q2]; exact ii_nn (by omega)
          rw [if_neg hnn, if_neg (by rw [hl9.1]; decide), if_neg hl9.2]; rfl
      have hnext : ∀ (I2 : Nat → Nat → Int32) (J2 : Nat → Nat → Int64), fr aSt I' I2 → fr aStj J' J2 → StkL I2 J2 (stg rz ro rng rjo (fun v => (J r4 (base + v), J r5 (base + v))) st l[i]) → X xs L (d + 3) 72 57 [.ref 14, .ref r, .int (ii s), .int (ii e), .ref r4, .ref r5, .int (ii base), .int (ii i), .int l[i]] [] (S, I2, J2, R, c) Q := by
        intro I2 J2 f1 f2 q
        refine b_X7_run_57 ?_
        rw [ii_add1]
        refine ih (i + 1) _ _ I2 J2 (by omega) (by omega) (by omega) (fr_trans g4 f1) (fr_trans g5 f2) q ?_ (by rw [hstlen]; exact o2) g9
        rw [hstlen]
        unfold hst
        split
        · omega
        · rename_i z1
          split
          · omega
          · rename_i z2
            rw [if_neg z1, if_neg z2] at o1; omega
      refine b_X7_run_20 (fun z => ?_) (fun z => ?_)
      · have hcop : cop l[i] := by
          rcases hlvi with q | ⟨v, q1, q2⟩
          · exact q
          · rw [q2] at z; exact absurd z (ii_nn (by omega))
        exact b_X7_run_50 hL (s_X7_apply hL g6 hcop o1 g7 (fun I2 J2 f1 f2 q => hnext I2 J2 f1 f2 q))
      · obtain ⟨v, q1, q2⟩ : ∃ v, v < nl ∧ l[i] = ii v := by
          rcases hlvi with q | q
          · exact absurd (cop_neg q) z
          · exact q
        have hl9 := lfx_H (show lfx l[i] from Or.inl (by rw [q2, ii_zero, ii_le (by omega) (by omega)]; omega))
        rw [if_neg (by rw [hl9.1]; decide), if_neg hl9.2] at o1
        have eb : ii base + l[i] = ii (base + v) := by rw [q2, ii_add]
        refine b_X7_run_27 hL h4 (by rw [eb]; exact ii_inb (by omega) (by omega)) h5 (by rw [eb]; exact ii_inb (by omega) (by omega)) ?_
        rw [eb, ii_nat (by omega), g5 _ _ (by unfold aStj; omega), g5 _ _ (by unfold aStj; omega)]
        refine s_X7_push hL g6 o1 (fun I2 J2 f1 f2 q => b_X7_run_47 (hnext I2 J2 f1 f2 ?_))
        have : stg rz ro rng rjo (fun v => (J r4 (base + v), J r5 (base + v))) st l[i] = (J r4 (base + v), J r5 (base + v)) :: st := by
          unfold stg
          rw [if_neg z, q2, ii_nat (by omega)]
        rw [this]; exact q
  exact main (e - s) s _ [] _ J rfl (Nat.le_refl _) hse (fr_u _ (fr_refl _ _) ⟨rfl, rfl⟩) (fr_refl _ _) ⟨by rw [u2_e]; rfl, fun i v hv => by simp at hv⟩ (by simp) hok rfl
/-- what the stack answers when one value is on it -/
theorem ones_1 {a : Rl} (h : StkL I J [a]) : f_X7_ones I J = a.1 ∧ f_X7_zeros I J = a.2 := by
  have h1 : I 14 2 = 1 := h.1
  have ht : J 15 0 = a.1 ∧ J 16 0 = a.2 := StkL_top h
  unfold f_X7_ones f_X7_zeros
  rw [h1, if_neg (by decide), if_neg (by decide)]
  exact ht
end SRUN
