/-! ===== P3: the clauses of an assertion: a clause is its node, where its is starts, its if starts, it stops, its times ===== -/
abbrev Cl : Type := Nat × Nat × Nat × Nat × Nat × Nat
abbrev KR : Type := Bool × Nat × List Cl × List Int32 × LeS
def tim (kd : Nat → Int32) (key : Nat → Int64) (least n : Nat) : Option Nat := if kd n = 5 ∧ ¬ f_X9_number (key n) < ii least ∧ f_X9_number (key n) < 12 then some (f_X9_number (key n)).toNatClampNeg else none
def tms (kd : Nat → Int32) (key : Nat → Int64) (n : Nat) : Bool × Nat × Nat × Nat := if kd n = 3 ∧ key n = 24948 then (match tim kd key 0 (n + 1) with
    | none => (false, n + 1, 0, 0)
    | some a => if kd (n + 2) = 3 ∧ key (n + 2) = 29807 then (match tim kd key a (n + 3) with
      | none => (false, n + 3, 0, 0)
      | some b => (true, n + 4, a, b)) else (true, n + 2, a, a)) else (true, n, 0, 0)
/-- behind the formulas of a clause -/
def clz (kd : Nat → Int32) (key : Nat → Int64) (n v s1 s2 s3 : Nat) (cs : List Cl) (l : List Int32) (g : LeS) : KR := ((tms kd key n).1, (tms kd key n).2.1, cs ++ [(v, s1, s2, s3, (tms kd key n).2.2.1, (tms kd key n).2.2.2)], l, g)
def cla (kd : Nat → Int32) (key : Nat → Int64) (m : Nat) (vs : List Int64) (n : Nat) (cs : List Cl) (l : List Int32) (g : LeS) : KR := if kd n = 2 then (match ixl (key n) vs with
    | none => (false, n, cs, l, g)
    | some v => if kd (n + 1) = 3 ∧ key (n + 1) = 26995 then
        (if (sy1 kd (lfK kd key) m true (n + 2) [] 0 l g).1 = true then
          (if kd (sy1 kd (lfK kd key) m true (n + 2) [] 0 l g).2.1 = 3 ∧ key (sy1 kd (lfK kd key) m true (n + 2) [] 0 l g).2.1 = 26982 then
            (if (sy1 kd (lfK kd key) m true ((sy1 kd (lfK kd key) m true (n + 2) [] 0 l g).2.1 + 1) [] 0 (sy1 kd (lfK kd key) m true (n + 2) [] 0 l g).2.2.1 (sy1 kd (lfK kd key) m true (n + 2) [] 0 l g).2.2.2).1 = true then
              clz kd key (sy1 kd (lfK kd key) m true ((sy1 kd (lfK kd key) m true (n + 2) [] 0 l g).2.1 + 1) [] 0 (sy1 kd (lfK kd key) m true (n + 2) [] 0 l g).2.2.1 (sy1 kd (lfK kd key) m true (n + 2) [] 0 l g).2.2.2).2.1 v l.length (sy1 kd (lfK kd key) m true (n + 2) [] 0 l g).2.2.1.length (sy1 kd (lfK kd key) m true ((sy1 kd (lfK kd key) m true (n + 2) [] 0 l g).2.1 + 1) [] 0 (sy1 kd (lfK kd key) m true (n + 2) [] 0 l g).2.2.1 (sy1 kd (lfK kd key) m true (n + 2) [] 0 l g).2.2.2).2.2.1.length cs (sy1 kd (lfK kd key) m true ((sy1 kd (lfK kd key) m true (n + 2) [] 0 l g).2.1 + 1) [] 0 (sy1 kd (lfK kd key) m true (n + 2) [] 0 l g).2.2.1 (sy1 kd (lfK kd key) m true (n + 2) [] 0 l g).2.2.2).2.2.1 (sy1 kd (lfK kd key) m true ((sy1 kd (lfK kd key) m true (n + 2) [] 0 l g).2.1 + 1) [] 0 (sy1 kd (lfK kd key) m true (n + 2) [] 0 l g).2.2.1 (sy1 kd (lfK kd key) m true (n + 2) [] 0 l g).2.2.2).2.2.2
            else (false, (sy1 kd (lfK kd key) m true ((sy1 kd (lfK kd key) m true (n + 2) [] 0 l g).2.1 + 1) [] 0 (sy1 kd (lfK kd key) m true (n + 2) [] 0 l g).2.2.1 (sy1 kd (lfK kd key) m true (n + 2) [] 0 l g).2.2.2).2.1, cs, l, g))
          else clz kd key (sy1 kd (lfK kd key) m true (n + 2) [] 0 l g).2.1 v l.length (sy1 kd (lfK kd key) m true (n + 2) [] 0 l g).2.2.1.length (sy1 kd (lfK kd key) m true (n + 2) [] 0 l g).2.2.1.length cs (sy1 kd (lfK kd key) m true (n + 2) [] 0 l g).2.2.1 (sy1 kd (lfK kd key) m true (n + 2) [] 0 l g).2.2.2)
        else (false, (sy1 kd (lfK kd key) m true (n + 2) [] 0 l g).2.1, cs, l, g))
      else (false, n + 1, cs, l, g)) else (false, n, cs, l, g)
def pts (kd : Nat → Int32) (key : Nat → Int64) (m : Nat) (vs : List Int64) : Nat → Nat → List Cl → List Int32 → LeS → KR
  | 0, n, cs, l, g => (false, n, cs, l, g)
  | f + 1, n, cs, l, g => if (cla kd key m vs n cs l g).1 = true then (if kd (cla kd key m vs n cs l g).2.1 = 44 then pts kd key m vs f ((cla kd key m vs n cs l g).2.1 + 1) (cla kd key m vs n cs l g).2.2.1 (cla kd key m vs n cs l g).2.2.2.1 (cla kd key m vs n cs l g).2.2.2.2 else cla kd key m vs n cs l g) else cla kd key m vs n cs l g
def lst (cs : List Cl) : Nat := cs.foldl (fun a x => max a x.2.2.2.2.2) 0
theorem lst_snoc (cs : List Cl) (x : Cl) : lst (cs ++ [x]) = max (lst cs) x.2.2.2.2.2 := by unfold lst; rw [List.foldl_append]; rfl
/-! ===== P2: an assertion of the class while it is read ===== -/
def KRd (I : Nat → Nat → Int32) (q : Nat) (cs : List Cl) : Prop := I q 3 = ii cs.length ∧ ∀ i x, cs[i]? = some x → I (q + 2) i = ii x.1 ∧ I (q + 5) i = ii x.2.1 ∧ I (q + 6) i = ii x.2.2.1 ∧ I (q + 7) i = ii x.2.2.2.1 ∧ I (q + 3) i = ii x.2.2.2.2.1 ∧ I (q + 4) i = ii x.2.2.2.2.2 ∧ x.2.2.2.2.1 ≤ x.2.2.2.2.2 ∧ x.2.2.2.2.2 < 12
def KSt (q : Nat) (kd : Nat → Int32) (key : Nat → Int64) (pl : Nat → Nat) (m : Nat) (I : Nat → Nat → Int32) (J : Nat → Nat → Int64) (n : Nat) (cs : List Cl) (l : List Int32) (g : LeS) : Prop := CTk kd key pl m I J n ∧ KRd I q cs ∧ I q 4 = ii (lst cs) ∧ lst cs < 12 ∧ CdL I (q + 8) l ∧ I 11 2 = ii g.1 ∧ g.1 ≤ 300 ∧ I q 0 = ii g.2.length ∧ NL J (q + 1) g.2 ∧ g.2.length ≤ 9 ∧ l.length ≤ n
def aKr (q : Nat) (x k : Nat) : Prop := (x = 4 ∧ k = 5) ∨ x = 12 ∨ (x = 11 ∧ (k = 2 ∨ k = 4 ∨ k = 5)) ∨ (q ≤ x ∧ x ≤ q + 9 ∧ ¬ (x = q ∧ k = 2))
def KB (q b : Nat) (S : Nat → Shp) (R : Nat → Nat → Nat) : Prop := Lay S R ∧ LyCm S R q ∧ R 11 6 = q ∧ R 11 1 = q + 8 ∧ 44 < q ∧ LyCd S R (q + 8) ∧ R 11 7 = b ∧ LyCi S R b ∧ b < 36 ∧ 12 < b
section KRD
variable {xs : Nat → Int32} {L d : Nat} {S : Nat → Shp} {I I' : Nat → Nat → Int32} {J J' : Nat → Nat → Int64} {R : Nat → Nat → Nat} {c : Nat × Nat} {Q : Option (Option Value) → MH → Prop} {kd : Nat → Int32} {key : Nat → Int64} {pl : Nat → Nat} {m n q b : Nat} {ns : List Nd} {cs : List Cl} {l : List Int32} {g : LeS}
theorem KSt_of {n' : Nat} (h : KSt q kd key pl m I J n cs l g) (hT : CTk kd key pl m I' J' n') (hn : n ≤ n') (e : ∀ x k, q ≤ x → x ≤ q + 9 → I' x k = I x k) (e8 : I' 11 2 = I 11 2) (ej : J' (q + 1) = J (q + 1)) : KSt q kd key pl m I' J' n' cs l g := by
  obtain ⟨h1, h2, h3, h4, h5, h6, h7, h8, h9, h10, h11⟩ := h
  refine ⟨hT, ⟨by rw [e _ _ (by omega) (by omega)]; exact h2.1, fun i x hx => ?_⟩, by rw [e _ _ (by omega) (by omega)]; exact h3, h4, CdL_of h5 (e _ _ (by omega) (by omega)) (by funext j; exact e _ _ (by omega) (by omega)), by rw [e8]; exact h6, h7, by rw [e _ _ (by omega) (by omega)]; exact h8, NL_of h9 ej, h10, by omega⟩
  rw [e _ _ (by omega) (by omega), e _ _ (by omega) (by omega), e _ _ (by omega) (by omega), e _ _ (by omega) (by omega), e _ _ (by omega) (by omega), e _ _ (by omega) (by omega)]
  exact h2.2 i x hx
theorem KSt_st (hq : 44 < q) (h : KSt q kd key pl m I J n cs l g) (hn : n < m) : KSt q kd key pl m (u2 I 4 5 (ii (n + 1))) J (n + 1) cs l g :=
  KSt_of h (CTk_st h.1 hn) (by omega) (fun x k q1 q2 => by rw [u2_a _ _ _ _ (by omega)]) (by rw [u2_a _ _ _ _ (by omega)]) rfl
theorem s_X4_takeTime {least : Nat} (hL : Lay S R) (h : CTk kd key pl m I J n) (hl : least < 12) (k1 : ∀ v, tim kd key least n = some v → n < m → least ≤ v → v < 12 → Q (some (some (.int (ii v)))) (S, u2 I 4 5 (ii (n + 1)), J, R, c)) (k0 : tim kd key least n = none → Q (some (some (.int (-2)))) (S, I, J, R, c)) : X xs L (d + 1) 54 0 [.ref 11, .int (ii least), .null] [] (S, I, J, R, c) Q := by
  have hm := h.1.2.2.2.1
  have hnm := h.1.2.2.1
  refine b_X4_takeTime_0 hL (s_X9_kind hL (TkC_in h.1) ?_)
  rw [CTk_kind h]
  refine b_X4_takeTime_7 (fun z => ?_) (fun z => b_X4_takeTime_11 (k0 (by unfold tim; rw [if_neg (fun q => z q.1)])))
  have hn : n < m := CTk_lt h (by rw [z]; decide)
  refine b_X4_takeTime_14 hL (s_X9_number hL h.1.1 (by omega) ?_)
  rw [h.2.2.1]
  refine b_X4_takeTime_21 (fun z1 => b_X4_takeTime_33 (k0 (by unfold tim; rw [if_neg (fun q => q.2.1 z1)]))) (fun z1 => ?_)
  refine b_X4_takeTime_27 (fun z2 => ?_) (fun z2 => b_X4_takeTime_33 (k0 (by unfold tim; rw [if_neg (fun q => z2 q.2.2)])))
  have h0 : 0 ≤ f_X9_number (key n) := by
    rw [Int32.lt_iff_toInt_lt, ii_toInt (by omega)] at z1
    rw [Int32.le_iff_toInt_le]
    have : (0 : Int32).toInt = 0 := rfl
    omega
  have he := ii_of h0
  have hb : (f_X9_number (key n)).toNatClampNeg < 2147483648 := by
    have := Int32.toInt_lt (f_X9_number (key n))
    have e : (f_X9_number (key n)).toNatClampNeg = (f_X9_number (key n)).toInt.toNat := rfl
    omega
  have hv := z2
  rw [he] at hv
  have hv12 : (f_X9_number (key n)).toNatClampNeg < 12 := (ii_lt (m := 12) hb (by omega)).1 hv
  have hvl : least ≤ (f_X9_number (key n)).toNatClampNeg := by
    rw [he, ii_lt hb (by omega)] at z1; omega
  refine b_X4_takeTime_36 hL (s_X9_step hL h.1 hn ?_)
  refine b_X4_takeTime_43 ?_
  rw [he]
  exact k1 _ (by unfold tim; rw [if_pos ⟨z, z1, z2⟩]) hn hvl hv12
theorem s_X4_takeTimes {v s1 s2 s3 : Nat} (hB : KB q b S R) (h : CTk kd key pl m I J n) (hcs : cs.length < 48) (hlst : lst cs < 12) (h3 : I q 3 = ii (cs.length + 1)) (h4 : I q 4 = ii (lst cs)) (hrd : ∀ i x, cs[i]? = some x → I (q + 2) i = ii x.1 ∧ I (q + 5) i = ii x.2.1 ∧ I (q + 6) i = ii x.2.2.1 ∧ I (q + 7) i = ii x.2.2.2.1 ∧ I (q + 3) i = ii x.2.2.2.2.1 ∧ I (q + 4) i = ii x.2.2.2.2.2 ∧ x.2.2.2.2.1 ≤ x.2.2.2.2.2 ∧ x.2.2.2.2.2 < 12) (hc : I (q + 2) cs.length = ii v ∧ I (q + 5) cs.length = ii s1 ∧ I (q + 6) cs.length = ii s2 ∧ I (q + 7) cs.length = ii s3) (hl : CdL I (q + 8) l) (hl2 : l.length ≤ n) (ha : I 11 2 = ii g.1) (ha2 : g.1 ≤ 300) (hv : I q 0 = ii g.2.length) (hv1 : NL J (q + 1) g.2) (hv2 : g.2.length ≤ 9) (k : ∀ I', fr (aKr q) I I' → CTk kd key pl m I' J (clz kd key n v s1 s2 s3 cs l g).2.1 → ((clz kd key n v s1 s2 s3 cs l g).1 = true → KSt q kd key pl m I' J (clz kd key n v s1 s2 s3 cs l g).2.1 (clz kd key n v s1 s2 s3 cs l g).2.2.1 l g) → n ≤ (clz kd key n v s1 s2 s3 cs l g).2.1 → Q (some (some (.int (if (clz kd key n v s1 s2 s3 cs l g).1 = true then 1 else 0)))) (S, I', J, R, c)) : X xs L (d + 2) 53 0 [.ref 11, .int (ii cs.length), .null, .null] [] (S, I, J, R, c) Q := by
  obtain ⟨hL, hY, hR6, hR1, hq, hcd, hR7, hYb, hb1, hb2⟩ := hB
  have hm := h.1.2.2.2.1
  unfold clz at k
  have hset : ∀ (n' : Nat) (I1 : Nat → Nat → Int32) (d' : Nat) (fr' to' : Nat) (Q' : Option (Option Value) → MH → Prop), n ≤ n' → CTk kd key pl m I1 J n' → (∀ x k, q ≤ x → x ≤ q + 9 → I1 x k = I x k) → I1 11 2 = I 11 2 → fr (aKr q) I I1 → fr' ≤ to' → to' < 12 → (∀ I2, fr (aKr q) I I2 → CTk kd key pl m I2 J n' → KSt q kd key pl m I2 J n' (cs ++ [(v, s1, s2, s3, fr', to')]) l g → Q' (some none) (S, I2, J, R, c)) → X xs L (d' + 1) 48 0 [.ref q, .int (ii cs.length), .int (ii fr'), .int (ii to')] [] (S, I1, J, R, c) Q' := by
    intro n' I1 d' fr' to' Q' hn' hT1 eq1 e112 F1 hft ht kk
    have hbb : inb (ii cs.length) 48 = true := ii_inb hcs (by omega)
    refine b_X3_setTimes_0 hY hbb hbb ?_
    rw [ii_nat (by omega)]
    have emx : (if I1 q 4 < ii to' then ii to' else I1 q 4) = ii (max (lst cs) to') := by
      rw [eq1 _ _ (by omega) (by omega), h4]
      by_cases z : lst cs < to'
      · rw [if_pos ((ii_lt (by omega) (by omega)).2 z), Nat.max_eq_right (by omega)]
      · rw [if_neg (fun w => z ((ii_lt (by omega) (by omega)).1 w)), Nat.max_eq_left (by omega)]
    rw [emx]
    have eo : ∀ x k, ¬ x = q + 3 → ¬ x = q + 4 → ¬ (x = q ∧ k = 4) → (u2 (u2 (u2 I1 (q + 3) cs.length (ii fr')) (q + 4) cs.length (ii to')) q 4 (ii (max (lst cs) to'))) x k = I1 x k := fun x k z1 z2 z3 => by
      rw [u2_if, if_neg z3, u2_a _ _ _ _ z2, u2_a _ _ _ _ z1]
    have e3 : ∀ k, (u2 (u2 (u2 I1 (q + 3) cs.length (ii fr')) (q + 4) cs.length (ii to')) q 4 (ii (max (lst cs) to'))) (q + 3) k = if k = cs.length then ii fr' else I1 (q + 3) k := fun k => by
      rw [u2_a _ _ _ _ (by omega), u2_a _ _ _ _ (by omega), u2_if]; simp
    have e4 : ∀ k, (u2 (u2 (u2 I1 (q + 3) cs.length (ii fr')) (q + 4) cs.length (ii to')) q 4 (ii (max (lst cs) to'))) (q + 4) k = if k = cs.length then ii to' else I1 (q + 4) k := fun k => by
      rw [u2_a _ _ _ _ (by omega), u2_if, u2_a _ _ _ _ (by omega)]; simp
    have e40 : (u2 (u2 (u2 I1 (q + 3) cs.length (ii fr')) (q + 4) cs.length (ii to')) q 4 (ii (max (lst cs) to'))) q 4 = ii (max (lst cs) to') := u2_e _ _ _ _
    have F2 : fr (aKr q) I (u2 (u2 (u2 I1 (q + 3) cs.length (ii fr')) (q + 4) cs.length (ii to')) q 4 (ii (max (lst cs) to'))) := fr_u _ (fr_u _ (fr_u _ F1 (by unfold aKr; omega)) (by unfold aKr; omega)) (by unfold aKr; omega)
    generalize (u2 (u2 (u2 I1 (q + 3) cs.length (ii fr')) (q + 4) cs.length (ii to')) q 4 (ii (max (lst cs) to'))) = I2 at eo e3 e4 e40 F2 ⊢
    have T2 : CTk kd key pl m I2 J n' := CTk_of hT1 (TkC_of hT1.1 (eo _ _ (by omega) (by omega) (by omega)) (eo _ _ (by omega) (by omega) (by omega)) (by funext j; exact eo _ _ (by omega) (by omega) (by omega))) (by funext j; exact eo _ _ (by omega) (by omega) (by omega)) (by funext j; exact eo _ _ (by omega) (by omega) (by omega)) rfl
    refine kk I2 F2 T2 ⟨T2, ⟨?_, fun i x hx => ?_⟩, ?_, ?_, ?_, ?_, ha2, ?_, hv1, hv2, by omega⟩
    · rw [eo _ _ (by omega) (by omega) (by omega), eq1 _ _ (by omega) (by omega), h3, List.length_append, List.length_singleton]
    · rw [eo _ _ (by omega) (by omega) (by omega), eo _ _ (by omega) (by omega) (by omega), eo _ _ (by omega) (by omega) (by omega), eo _ _ (by omega) (by omega) (by omega), e3, e4, eq1 _ _ (by omega) (by omega), eq1 _ _ (by omega) (by omega), eq1 _ _ (by omega) (by omega), eq1 _ _ (by omega) (by omega), eq1 _ _ (by omega) (by omega), eq1 _ _ (by omega) (by omega)]
      rcases Nat.lt_or_ge i cs.length with hi | hi
      · rw [ge_app hi] at hx
        rw [if_neg (by omega), if_neg (by omega)]
        exact hrd i x hx
      · have hi2 : i = cs.length := by
          have := (List.getElem?_eq_some_iff.1 hx).1
          rw [List.length_append, List.length_singleton] at this; omega
        rw [hi2, ge_len] at hx
        cases hx
        rw [hi2, if_pos rfl, if_pos rfl]
        exact ⟨hc.1, hc.2.1, hc.2.2.1, hc.2.2.2, rfl, rfl, hft, ht⟩
    · rw [e40, lst_snoc]
    · rw [lst_snoc]; exact Nat.max_lt.2 ⟨hlst, ht⟩
    · exact CdL_of hl (by rw [eo _ _ (by omega) (by omega) (by omega), eq1 _ _ (by omega) (by omega)]) (by funext j; rw [eo _ _ (by omega) (by omega) (by omega), eq1 _ _ (by omega) (by omega)])
    · rw [eo _ _ (by omega) (by omega) (by omega), e112]; exact ha
    · rw [eo _ _ (by omega) (by omega) (by omega), eq1 _ _ (by omega) (by omega)]; exact hv
  have eu : ∀ (I0 : Nat → Nat → Int32) (v : Int32) x k, q ≤ x → u2 I0 4 5 v x k = I0 x k := fun I0 v x k z => by rw [u2_a _ _ _ _ (by omega)]
  have eu2 : ∀ (I0 : Nat → Nat → Int32) (v : Int32), u2 I0 4 5 v 11 2 = I0 11 2 := fun I0 v => by rw [u2_a _ _ _ _ (by omega)]
  have F1 : ∀ v, fr (aKr q) I (u2 I 4 5 v) := fun v => fr_u _ (fr_refl _ _) (by unfold aKr; omega)
  generalize ht : tms kd key n = t at k
  unfold tms at ht
  refine b_X4_takeTimes_0 hL (s_X6k_takeWord hL h.1 (fun z1 z2 z3 => ?_) (fun z1 => ?_))
  · rw [h.2.1] at z1
    rw [h.2.2.1] at z2
    rw [if_pos ⟨z1, z2⟩] at ht
    refine b_X4_takeTimes_7 (fun _ => ?_) (fun z => absurd (by decide) z)
    have hT1 := CTk_st h z3
    refine b_X4_takeTimes_22 hL (s_X4_takeTime (least := 0) hL hT1 (by omega) (fun v1 w1 w2 w3 w4 => ?_) (fun w1 => ?_))
    · rw [w1] at ht
      simp only at ht
      refine b_X4_takeTimes_27 (fun _ => ?_) (fun z => absurd (ii_n2 (by omega)) z)
      have hT2 := CTk_st hT1 w2
      refine b_X4_takeTimes_36 hL (s_X6k_takeWord hL hT2.1 (fun y1 y2 y3 => ?_) (fun y1 => ?_))
      · rw [hT2.2.1] at y1
        rw [hT2.2.2.1] at y2
        rw [if_pos ⟨y1, y2⟩] at ht
        refine b_X4_takeTimes_43 (fun z => absurd z (by decide)) (fun _ => ?_)
        have hT3 := CTk_st hT2 y3
        refine b_X4_takeTimes_46 hL (s_X4_takeTime hL hT3 w4 (fun v2 u1' u2' u3 u4 => ?_) (fun u1' => ?_))
        · rw [u1'] at ht
          simp only at ht
          refine b_X4_takeTimes_51 (b_X4_takeTimes_55 (fun _ => ?_) (fun z => absurd (ii_n2 (by omega)) z))
          have hT4 := CTk_st hT3 u2'
          refine b_X4_takeTimes_64 hL hR6 hY (hset (n + 4) _ _ v1 v2 _ (by omega) hT4 (fun x k z _ => by rw [eu _ _ _ _ z, eu _ _ _ _ z, eu _ _ _ _ z, eu _ _ _ _ z]) (by rw [eu2, eu2, eu2, eu2]) (fr_u _ (fr_u _ (fr_u _ (F1 _) (by unfold aKr; omega)) (by unfold aKr; omega)) (by unfold aKr; omega)) u3 u4 (fun I2 p1 p2 p3 => ?_))
          refine b_X4_takeTimes_74 ?_
          subst ht
          have hk := k I2 p1 p2 (fun _ => p3) (by show n ≤ n + 4; omega)
          rw [if_pos rfl] at hk
          exact hk
        · rw [u1'] at ht
          simp only at ht
          refine b_X4_takeTimes_51 (b_X4_takeTimes_55 (fun z => absurd rfl z) (fun _ => b_X4_takeTimes_62 ?_))
          subst ht
          exact k _ (fr_u _ (fr_u _ (F1 _) (by unfold aKr; omega)) (by unfold aKr; omega)) hT3 (fun z => by cases z) (by show n ≤ n + 3; omega)
      · rw [hT2.2.1, hT2.2.2.1] at y1
        rw [if_neg y1] at ht
        refine b_X4_takeTimes_43 (fun _ => ?_) (fun z => absurd rfl z)
        refine b_X4_takeTimes_54 (b_X4_takeTimes_55 (fun _ => ?_) (fun z => absurd (ii_n2 (by omega)) z))
        refine b_X4_takeTimes_64 hL hR6 hY (hset (n + 2) _ _ v1 v1 _ (by omega) hT2 (fun x k z _ => by rw [eu _ _ _ _ z, eu _ _ _ _ z]) (by rw [eu2, eu2]) (fr_u _ (F1 _) (by unfold aKr; omega)) (Nat.le_refl _) w4 (fun I2 p1 p2 p3 => ?_))
        refine b_X4_takeTimes_74 ?_
        subst ht
        have hk := k I2 p1 p2 (fun _ => p3) (by show n ≤ n + 2; omega)
        rw [if_pos rfl] at hk
        exact hk
    · rw [w1] at ht
      simp only at ht
      refine b_X4_takeTimes_27 (fun z => absurd rfl z) (fun _ => b_X4_takeTimes_34 ?_)
      subst ht
      exact k _ (F1 _) hT1 (fun z => by cases z) (by show n ≤ n + 1; omega)
  · rw [h.2.1, h.2.2.1] at z1
    rw [if_neg z1] at ht
    refine b_X4_takeTimes_7 (fun z => absurd rfl z) (fun _ => ?_)
    refine b_X4_takeTimes_10 hL hR6 hY (hset n I _ 0 0 _ (Nat.le_refl _) h (fun x k _ _ => rfl) rfl (fr_refl _ _) (Nat.le_refl _) (by omega) (fun I2 p1 p2 p3 => ?_))
    refine b_X4_takeTimes_20 ?_
    subst ht
    have hk := k I2 p1 p2 (fun _ => p3) (Nat.le_refl _)
    rw [if_pos rfl] at hk
    exact hk
end KRD
