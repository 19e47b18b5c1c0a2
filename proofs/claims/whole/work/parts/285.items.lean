/-! ===== P3: the items of a circuit: a node is its name, its kind, its token, where its formula starts and stops ===== -/
abbrev Nd : Type := Int64 × Nat × Nat × Nat × Nat
abbrev dok (kd : Nat → Int32) (key : Nat → Int64) (n : Nat) (ns : List Nd) : Prop := kd n = 2 ∧ ns.length < 40 ∧ ixl (key n) (ns.map Prod.fst) = none
def inp (kd : Nat → Int32) (key : Nat → Int64) (cs : Nat) : Nat → Nat → List Nd → Bool × Nat × List Nd
  | 0, n, ns => (false, n, ns)
  | f + 1, n, ns => if dok kd key n ns then (if kd (n + 1) = 44 then inp kd key cs f (n + 2) (ns ++ [(key n, 0, n, cs, cs)]) else if kd (n + 1) = 59 then (true, n + 2, ns ++ [(key n, 0, n, cs, cs)]) else (false, n + 1, ns)) else (false, n, ns)
def inp1 (kd : Nat → Int32) (key : Nat → Int64) (cs n : Nat) (ns : List Nd) : Bool × Nat × List Nd := inp kd key cs (41 - ns.length) n ns
theorem inp1_eq {kd : Nat → Int32} {key : Nat → Int64} {cs n : Nat} {ns : List Nd} (h : ns.length ≤ 40) : inp1 kd key cs n ns = if dok kd key n ns then (if kd (n + 1) = 44 then inp1 kd key cs (n + 2) (ns ++ [(key n, 0, n, cs, cs)]) else if kd (n + 1) = 59 then (true, n + 2, ns ++ [(key n, 0, n, cs, cs)]) else (false, n + 1, ns)) else (false, n, ns) := by
  unfold inp1
  rw [show 41 - ns.length = (40 - ns.length) + 1 by omega, inp, List.length_append, List.length_singleton, show 41 - (ns.length + 1) = 40 - ns.length by omega]
abbrev CR : Type := Bool × Nat × List Nd × List Int32 × LeS
def mad (kd : Nat → Int32) (key : Nat → Int64) (m k n : Nat) (ns : List Nd) (l : List Int32) (g : LeS) : CR :=
  if dok kd key n ns then (if kd (n + 1) = 61 then (if (sy1 kd (lfC kd key) m true (n + 2) [] 0 l g).1 = true ∧ kd (sy1 kd (lfC kd key) m true (n + 2) [] 0 l g).2.1 = 59 then (true, (sy1 kd (lfC kd key) m true (n + 2) [] 0 l g).2.1 + 1, ns ++ [(key n, k, n, l.length, (sy1 kd (lfC kd key) m true (n + 2) [] 0 l g).2.2.1.length)], (sy1 kd (lfC kd key) m true (n + 2) [] 0 l g).2.2.1, (sy1 kd (lfC kd key) m true (n + 2) [] 0 l g).2.2.2) else (false, (sy1 kd (lfC kd key) m true (n + 2) [] 0 l g).2.1, ns, l, g)) else (false, n + 1, ns, l, g)) else (false, n, ns, l, g)
def itm (kd : Nat → Int32) (key : Nat → Int64) (m n : Nat) (ns : List Nd) (l : List Int32) (g : LeS) : CR :=
  if kd n = 3 ∧ key n = 452824429940 then ((inp1 kd key l.length (n + 1) ns).1, (inp1 kd key l.length (n + 1) ns).2.1, (inp1 kd key l.length (n + 1) ns).2.2, l, g)
  else if kd n = 3 ∧ key n = 2003399269 then mad kd key m 1 (n + 1) ns l g
  else if kd n = 3 ∧ key n = 465491485544 then mad kd key m 2 (n + 1) ns l g
  else (false, n, ns, l, g)
def its (kd : Nat → Int32) (key : Nat → Int64) (m : Nat) : Nat → Nat → List Nd → List Int32 → LeS → CR
  | 0, n, ns, l, g => (false, n, ns, l, g)
  | f + 1, n, ns, l, g => if kd n = 0 then (true, n, ns, l, g) else if (itm kd key m n ns l g).1 = true then its kd key m f (itm kd key m n ns l g).2.1 (itm kd key m n ns l g).2.2.1 (itm kd key m n ns l g).2.2.2.1 (itm kd key m n ns l g).2.2.2.2 else itm kd key m n ns l g
/-! ===== P2: a circuit of the class while it is read ===== -/
def CTk (kd : Nat → Int32) (key : Nat → Int64) (pl : Nat → Nat) (m : Nat) (I : Nat → Nat → Int32) (J : Nat → Nat → Int64) (n : Nat) : Prop := TkC I n m ∧ I 5 = kd ∧ J 7 = key ∧ ∀ i, i ≤ m → I 6 i = ii (pl i)
def CRd (I : Nat → Nat → Int32) (J : Nat → Nat → Int64) (a : Nat) (ns : List Nd) : Prop := I a 0 = ii ns.length ∧ ∀ i x, ns[i]? = some x → J (a + 1) i = x.1 ∧ I (a + 2) i = ii x.2.1 ∧ I (a + 3) i = ii x.2.2.2.1 ∧ I (a + 4) i = ii x.2.2.2.2
def CSt (a : Nat) (kd : Nat → Int32) (key : Nat → Int64) (pl : Nat → Nat) (m : Nat) (I : Nat → Nat → Int32) (J : Nat → Nat → Int64) (n : Nat) (ns : List Nd) (l : List Int32) (g : LeS) : Prop := CTk kd key pl m I J n ∧ CRd I J a ns ∧ (∀ i x, ns[i]? = some x → I 10 i = ii (pl x.2.2.1)) ∧ ns.length ≤ 40 ∧ CdL I (a + 5) l ∧ I 8 2 = ii g.1 ∧ g.1 ≤ 300 ∧ l.length ≤ n
def aRc (a : Nat) (x k : Nat) : Prop := (x = 4 ∧ k = 5) ∨ x = 9 ∨ x = 10 ∨ (x = 8 ∧ (k = 2 ∨ k = 4 ∨ k = 5)) ∨ (x = a ∧ k = 0) ∨ x = a + 2 ∨ x = a + 3 ∨ x = a + 4 ∨ (x = a + 5 ∧ k = 1) ∨ x = a + 6
def aRcj (a : Nat) (x _k : Nat) : Prop := x = a + 1
def CB (a : Nat) (S : Nat → Shp) (R : Nat → Nat → Nat) : Prop := Lay S R ∧ LyCi S R a ∧ R 8 6 = a ∧ R 8 1 = a + 5 ∧ 12 < a ∧ LyCd S R (a + 5)
section CRD
variable {xs : Nat → Int32} {L d : Nat} {S : Nat → Shp} {I I' : Nat → Nat → Int32} {J J' : Nat → Nat → Int64} {R : Nat → Nat → Nat} {c : Nat × Nat} {Q : Option (Option Value) → MH → Prop} {kd : Nat → Int32} {key : Nat → Int64} {pl : Nat → Nat} {m n a : Nat} {ns : List Nd} {l : List Int32} {g : LeS}
theorem CTk_kind (h : CTk kd key pl m I J n) : f_X9_kind I = kd n := by unfold f_X9_kind; rw [TkC_nat h.1, h.2.1]
theorem CTk_key (h : CTk kd key pl m I J n) : f_X9_key I J = key n := by unfold f_X9_key; rw [TkC_nat h.1, h.2.2.1]
theorem CTk_place (h : CTk kd key pl m I J n) : f_X9_place I = ii (pl n) := by unfold f_X9_place; rw [TkC_nat h.1, h.2.2.2 n h.1.2.2.1]
theorem CTk_lt (h : CTk kd key pl m I J n) (hk : ¬ kd n = 0) : n < m := TkC_lt h.1 (by rw [h.2.1]; exact hk)
theorem CTk_of {n' : Nat} (h : CTk kd key pl m I J n) (hT : TkC I' n' m) (e5 : I' 5 = I 5) (e6 : I' 6 = I 6) (e7 : J' 7 = J 7) : CTk kd key pl m I' J' n' := ⟨hT, by rw [e5]; exact h.2.1, by rw [e7]; exact h.2.2.1, fun i hi => by rw [e6]; exact h.2.2.2 i hi⟩
theorem CTk_st (h : CTk kd key pl m I J n) (hn : n < m) : CTk kd key pl m (u2 I 4 5 (ii (n + 1))) J (n + 1) := CTk_of h (TkC_st h.1 hn) (by funext j; rw [u2_a _ _ _ _ (by decide)]) (by funext j; rw [u2_a _ _ _ _ (by decide)]) rfl
theorem NL_nd (h : CRd I J a ns) : NL J (a + 1) (ns.map Prod.fst) := by
  intro i x hx
  rw [List.getElem?_map] at hx
  cases hq : ns[i]? with
  | none => rw [hq] at hx; cases hx
  | some y => rw [hq] at hx; cases hx; exact (h.2 i y hq).1
theorem s_X1_find {y : Int64} {vs : List Int64} (hr : LyCi S R a) (hn : I a 0 = ii vs.length) (hv : NL J (a + 1) vs) (hv2 : vs.length ≤ 40) (k1 : ∀ v, ixl y vs = some v → Q (some (some (.int (ii v)))) (S, I, J, R, c)) (k2 : ixl y vs = none → Q (some (some (.int (-2)))) (S, I, J, R, c)) : X xs L d 28 0 [.ref a, .long y, .null, .null] [] (S, I, J, R, c) Q := by
  refine b_X1_find_0 ?_
  have main : ∀ (f i : Nat), vs.length - i = f → i ≤ vs.length → ixl y vs = (ixl y (vs.drop i)).map (· + i) → X xs L d 28 2 [.ref a, .long y, .null, .int (ii i)] [] (S, I, J, R, c) Q := by
    intro f
    induction f with
    | zero =>
      intro i h1 h2 h3
      have hno : ixl y vs = none := by rw [h3, List.drop_eq_nil_of_le (by omega)]; rfl
      refine b_X1_find_2 hr (fun _ => b_X1_find_29 (k2 hno)) (fun z => ?_)
      rw [hn, ii_le (by omega) (by omega)] at z; omega
    | succ f ih =>
      intro i h1 h2 h3
      have hi : i < vs.length := by omega
      refine b_X1_find_2 hr (fun z => ?_) (fun _ => ?_)
      · rw [hn, ii_le (by omega) (by omega)] at z; omega
      have e : J (a + 1) i = vs[i] := hv i _ (List.getElem?_eq_getElem hi)
      rw [ixl_drop y vs i hi] at h3
      refine b_X1_find_10 hr (ii_inb (by omega) (by omega)) (fun z => ?_) (fun z => ?_)
      · rw [ii_nat (by omega), e, lgc] at z
        rw [if_neg z] at h3
        refine b_X1_find_23 ?_
        rw [ii_add1]
        exact ih (i + 1) (by omega) (by omega) h3
      · rw [ii_nat (by omega), e, lgc] at z
        rw [if_pos (Classical.not_not.1 z)] at h3
        exact b_X1_find_21 (k1 i h3)
  exact main vs.length 0 rfl (by omega) (by simp)
theorem s_X2_takeDeclared {k0 : Nat} (hB : CB a S R) (h : CSt a kd key pl m I J n ns l g) (h1 : dok kd key n ns → n < m → ∀ I' J', fr (aRc a) I I' → fr (aRcj a) J J' → CSt a kd key pl m I' J' (n + 1) (ns ++ [(key n, k0, n, l.length, l.length)]) l g → Q (some (some (.int 1))) (S, I', J', R, c)) (h0 : ¬ dok kd key n ns → Q (some (some (.int 0))) (S, I, J, R, c)) : X xs L (d + 2) 42 0 [.ref 8, .int (ii k0)] [] (S, I, J, R, c) Q := by
  obtain ⟨hL, hY, hR6, hR1, ha, -⟩ := hB
  obtain ⟨hT, hC, hP, hn40, hl, hg, hg2, hln⟩ := h
  refine b_X2_takeDeclared_0 hL (s_X9_kind hL (TkC_in hT.1) ?_)
  rw [CTk_kind hT]
  refine b_X2_takeDeclared_7 (fun z => b_X2_takeDeclared_29 (h0 (fun q => z q.1))) (fun z => ?_)
  have hk := Classical.not_not.1 z
  have hn : n < m := CTk_lt hT (by rw [hk]; decide)
  refine b_X2_takeDeclared_11 hL hR6 (s_X9_key hL (TkC_in hT.1) ?_)
  rw [CTk_key hT]
  refine b_X2_takeDeclared_22 hY ?_
  refine b_X1_declare_0 hY (fun z1 => b_X1_declare_19 (b_X2_takeDeclared_26 (fun q => absurd rfl q) (fun _ => b_X2_takeDeclared_29 (h0 (fun q => ?_))))) (fun z1 => ?_)
  · rw [hC.1] at z1
    have := (ii_le (n := 40) (by omega) (by omega)).1 z1
    have := q.2.1; omega
  rw [hC.1] at z1
  have hn4 : ns.length < 40 := by
    rcases Nat.lt_or_ge ns.length 40 with q | q
    · exact q
    · exact absurd ((ii_le (n := 40) (by omega) (by omega)).2 q) z1
  refine b_X1_declare_9 hY (s_X1_find (vs := ns.map Prod.fst) hY (by rw [List.length_map]; exact hC.1) (NL_nd hC) (by rw [List.length_map]; omega) (fun v q => ?_) (fun q => ?_))
  · have hv := ixl_lt _ _ _ q
    rw [List.length_map] at hv
    exact b_X1_declare_14 (fun z2 => absurd z2 (ii_n2 (by omega))) (fun _ => b_X1_declare_19 (b_X2_takeDeclared_26 (fun q2 => absurd rfl q2) (fun _ => b_X2_takeDeclared_29 (h0 (fun q2 => by rw [q2.2.2] at q; cases q)))))
  · have hb : inb (I a 0) 40 = true := by rw [hC.1]; exact ii_inb hn4 (by omega)
    refine b_X1_declare_14 (fun _ => ?_) (fun z2 => absurd rfl z2)
    refine b_X1_declare_21 hY hb hb hb hb ?_
    rw [hC.1, ii_nat (by omega), hl.1, ii_add1]
    have eo : ∀ (x k : Nat), ¬ (x = a + 2 ∨ x = a + 3 ∨ x = a + 4 ∨ (x = a ∧ k = 0)) → (u2 (u2 (u2 (u2 I (a + 2) ns.length (ii k0)) (a + 3) ns.length (ii l.length)) (a + 4) ns.length (ii l.length)) a 0 (ii (ns.length + 1))) x k = I x k := by
      intro x k q
      rw [u2_if, if_neg (by omega), u2_if, if_neg (by omega), u2_if, if_neg (by omega), u2_if, if_neg (by omega)]
    have e1 : (u2 (u2 (u2 (u2 I (a + 2) ns.length (ii k0)) (a + 3) ns.length (ii l.length)) (a + 4) ns.length (ii l.length)) a 0 (ii (ns.length + 1))) a 0 = ii (ns.length + 1) := u2_e _ _ _ _
    have e2 : ∀ k, (u2 (u2 (u2 (u2 I (a + 2) ns.length (ii k0)) (a + 3) ns.length (ii l.length)) (a + 4) ns.length (ii l.length)) a 0 (ii (ns.length + 1))) (a + 2) k = if k = ns.length then ii k0 else I (a + 2) k := by
      intro k
      rw [u2_a _ _ _ _ (by omega), u2_a _ _ _ _ (by omega), u2_a _ _ _ _ (by omega), u2_if]; simp
    have e3 : ∀ k, (u2 (u2 (u2 (u2 I (a + 2) ns.length (ii k0)) (a + 3) ns.length (ii l.length)) (a + 4) ns.length (ii l.length)) a 0 (ii (ns.length + 1))) (a + 3) k = if k = ns.length then ii l.length else I (a + 3) k := by
      intro k
      rw [u2_a _ _ _ _ (by omega), u2_a _ _ _ _ (by omega), u2_if, u2_a _ _ _ _ (by omega)]; simp
    have e4 : ∀ k, (u2 (u2 (u2 (u2 I (a + 2) ns.length (ii k0)) (a + 3) ns.length (ii l.length)) (a + 4) ns.length (ii l.length)) a 0 (ii (ns.length + 1))) (a + 4) k = if k = ns.length then ii l.length else I (a + 4) k := by
      intro k
      rw [u2_a _ _ _ _ (by omega), u2_if, u2_a _ _ _ _ (by omega), u2_a _ _ _ _ (by omega)]; simp
    generalize u2 (u2 (u2 (u2 I (a + 2) ns.length (ii k0)) (a + 3) ns.length (ii l.length)) (a + 4) ns.length (ii l.length)) a 0 (ii (ns.length + 1)) = I1 at eo e1 e2 e3 e4 ⊢
    have T1 : CTk kd key pl m I1 (u2 J (a + 1) ns.length (key n)) n := CTk_of hT (TkC_of hT.1 (eo _ _ (by omega)) (eo _ _ (by omega)) (by funext j; exact eo _ _ (by omega))) (by funext j; exact eo _ _ (by omega)) (by funext j; exact eo _ _ (by omega)) (by funext j; rw [u2_a _ _ _ _ (by omega)])
    refine b_X2_takeDeclared_26 (fun _ => ?_) (fun z2 => absurd (by decide) z2)
    refine b_X2_takeDeclared_31 hL hR6 hY (s_X9_place hL (TkC_in T1.1) ?_)
    rw [CTk_place T1, e1, ii_one, ii_sub (by omega), Nat.add_sub_cancel]
    refine b_X2_takeDeclared_51 hL (ii_inb hn4 (by omega)) ?_
    rw [ii_nat (by omega)]
    have T2 : CTk kd key pl m (u2 I1 10 ns.length (ii (pl n))) (u2 J (a + 1) ns.length (key n)) n := CTk_of T1 (TkC_of T1.1 (by rw [u2_a _ _ _ _ (by decide)]) (by rw [u2_a _ _ _ _ (by decide)]) (by funext j; rw [u2_a _ _ _ _ (by decide)])) (by funext j; rw [u2_a _ _ _ _ (by decide)]) (by funext j; rw [u2_a _ _ _ _ (by decide)]) rfl
    refine s_X9_step hL T2.1 hn ?_
    refine b_X2_takeDeclared_59 (h1 ⟨hk, hn4, q⟩ hn _ _ ?_ (fr_u _ (fr_refl _ _) rfl) ⟨CTk_st T2 hn, ⟨?_, ?_⟩, ?_, ?_, ?_, ?_, hg2, by omega⟩)
    · refine fr_u _ (fr_u _ (fun x k q2 => eo x k (fun q3 => q2 (by unfold aRc; omega))) (by unfold aRc; omega)) (by unfold aRc; omega)
    · rw [u2_a _ _ _ _ (by omega), u2_a _ _ _ _ (by omega), e1, List.length_append, List.length_singleton]
    · intro i x hx
      have eq2 : ∀ (b k : Nat), 12 < b → u2 (u2 I1 10 ns.length (ii (pl n))) 4 5 (ii (n + 1)) b k = I1 b k := fun b k hb => by rw [u2_a _ _ _ _ (by omega), u2_a _ _ _ _ (by omega)]
      rw [eq2 _ _ (by omega), eq2 _ _ (by omega), eq2 _ _ (by omega), e2, e3, e4]
      rcases Nat.lt_or_ge i ns.length with hi | hi
      · rw [ge_app hi] at hx
        have := hC.2 i x hx
        rw [if_neg (by omega), if_neg (by omega), if_neg (by omega), u2_k _ _ _ _ (by omega)]
        exact this
      · have hi2 : i = ns.length := by
          have := (List.getElem?_eq_some_iff.1 hx).1
          rw [List.length_append, List.length_singleton] at this; omega
        rw [hi2, ge_len] at hx
        cases hx
        rw [hi2, if_pos rfl, if_pos rfl, if_pos rfl, u2_e]
        exact ⟨rfl, rfl, rfl, rfl⟩
    · intro i x hx
      rw [u2_a _ _ _ _ (by decide), u2_if]
      rcases Nat.lt_or_ge i ns.length with hi | hi
      · rw [ge_app hi] at hx
        rw [if_neg (by omega), eo _ _ (by omega)]
        exact hP i x hx
      · have hi2 : i = ns.length := by
          have := (List.getElem?_eq_some_iff.1 hx).1
          rw [List.length_append, List.length_singleton] at this; omega
        rw [hi2, ge_len] at hx
        cases hx
        rw [if_pos ⟨rfl, hi2⟩]
    · rw [List.length_append, List.length_singleton]; omega
    · exact CdL_of hl (by rw [u2_a _ _ _ _ (by omega), u2_a _ _ _ _ (by omega), eo _ _ (by omega)]) (by funext j; rw [u2_a _ _ _ _ (by omega), u2_a _ _ _ _ (by omega), eo _ _ (by omega)])
    · rw [u2_a _ _ _ _ (by omega), u2_a _ _ _ _ (by omega), eo _ _ (by omega)]; exact hg
end CRD
