/-! ===== P2: the items of a circuit in the model ===== -/
def MTr (N T tn : Nat) (I : Nat → Nat → Int32) (ns : List Nd) (l : List Int32) (ga : Nat) : Prop := ∃ ht : List Nat, ht.length = tn ∧ ht.sum ≤ ga + 10 * tn ∧ ∀ i x h, i < tn → ns[i]? = some x → ht[i]? = some h → (x.2.1 = 0 → I (N + 3) i = -1 ∧ x.2.2.2.1 = x.2.2.2.2) ∧ (¬ x.2.1 = 0 → I (N + 3) i = ii (x.2.2.2.2 - 1) ∧ x.2.2.2.1 < x.2.2.2.2 ∧ tre l (I (T + 2)) (I (T + 3)) h x.2.2.2.1 (x.2.2.2.2 - 1))
def MIt (N T tn : Nat) (kd : Nat → Int32) (key : Nat → Int64) (pl : Nat → Nat) (m : Nat) (I : Nat → Nat → Int32) (J : Nat → Nat → Int64) (n : Nat) (ns : List Nd) (l : List Int32) (g : LeS) : Prop := MC kd key pl m I J n ∧ I N 4 = ii ns.length ∧ ns.length ≤ 40 ∧ (∀ i x, ns[i]? = some x → J (N + 1) i = x.1 ∧ I (N + 2) i = ii (x.2.1 + 10) ∧ I (N + 4) i = ii (pl x.2.2.1) ∧ x.2.1 ≤ 2) ∧ MTr N T tn I ns l g.1 ∧ I T 5 = ii l.length ∧ l.length ≤ n ∧ I 65 21 = ii g.1 ∧ g.1 ≤ 300 ∧ I 65 20 = 1 ∧ TL 1 T kd key pl m I J l g
def aMi (N T : Nat) (a k : Nat) : Prop := (a = 65 ∧ (k = 7 ∨ k = 8 ∨ k = 21)) ∨ a = T + 1 ∨ a = T + 2 ∨ a = T + 3 ∨ a = T + 5 ∨ (a = T ∧ k = 5) ∨ (a = N ∧ k = 4) ∨ a = N + 2 ∨ a = N + 3 ∨ a = N + 4
def aMij (N T : Nat) (a _k : Nat) : Prop := a = T + 4 ∨ a = N + 1
def NB (N T : Nat) (S : Nat → Shp) (R : Nat → Nat → Nat) : Prop := Lay S R ∧ LyNo S R N ∧ R 65 18 = N ∧ 82 < N ∧ N < 89 ∧ PB 1 T 93 S R ∧ T < 78
section MITEM
variable {xs : Nat → Int32} {L d : Nat} {S : Nat → Shp} {I I' : Nat → Nat → Int32} {J J' : Nat → Nat → Int64} {R : Nat → Nat → Nat} {c : Nat × Nat} {Q : Option (Option Value) → MH → Prop} {kd : Nat → Int32} {key : Nat → Int64} {pl : Nat → Nat} {m n N T tn : Nat} {ns : List Nd} {l : List Int32} {g : LeS}
theorem s_X14_find {y : Int64} {vs : List Int64} (hr : LyNo S R N) (hn : I N 4 = ii vs.length) (hv : NL J (N + 1) vs) (hv2 : vs.length ≤ 40) (k1 : ∀ v, ixl y vs = some v → Q (some (some (.int (ii v)))) (S, I, J, R, c)) (k2 : ixl y vs = none → Q (some (some (.int (-1)))) (S, I, J, R, c)) : X xs L d 137 0 [.ref N, .long y, .null, .null] [] (S, I, J, R, c) Q := by
  refine b_X14_find_0 ?_
  have main : ∀ (f i : Nat), vs.length - i = f → i ≤ vs.length → ixl y vs = (ixl y (vs.drop i)).map (· + i) → X xs L d 137 2 [.ref N, .long y, .null, .int (ii i)] [] (S, I, J, R, c) Q := by
    intro f
    induction f with
    | zero =>
      intro i h1 h2 h3
      have hno : ixl y vs = none := by rw [h3, List.drop_eq_nil_of_le (by omega)]; rfl
      refine b_X14_find_2 hr (fun _ => b_X14_find_29 (k2 hno)) (fun z => ?_)
      rw [hn, ii_le (by omega) (by omega)] at z; omega
    | succ f ih =>
      intro i h1 h2 h3
      have hi : i < vs.length := by omega
      refine b_X14_find_2 hr (fun z => ?_) (fun _ => ?_)
      · rw [hn, ii_le (by omega) (by omega)] at z; omega
      have e : J (N + 1) i = vs[i] := hv i _ (List.getElem?_eq_getElem hi)
      rw [ixl_drop y vs i hi] at h3
      refine b_X14_find_10 hr (ii_inb (by omega) (by omega)) (fun z => ?_) (fun z => ?_)
      · rw [ii_nat (by omega), e, lgc] at z
        rw [if_neg z] at h3
        refine b_X14_find_23 ?_
        rw [ii_add1]
        exact ih (i + 1) (by omega) (by omega) h3
      · rw [ii_nat (by omega), e, lgc] at z
        rw [if_pos (Classical.not_not.1 z)] at h3
        exact b_X14_find_21 (k1 i h3)
  exact main vs.length 0 rfl (by omega) (by simp)
theorem MIt_nl (h : MIt N T tn kd key pl m I J n ns l g) : NL J (N + 1) (ns.map Prod.fst) := by
  intro i x hx
  rw [List.getElem?_map] at hx
  cases hq : ns[i]? with
  | none => rw [hq] at hx; cases hx
  | some y => rw [hq] at hx; cases hx; exact (h.2.2.2.1 i y hq).1
theorem MTr_of (h : MTr N T tn I ns l g.1) (e3 : I' (N + 3) = I (N + 3)) (t2 : I' (T + 2) = I (T + 2)) (t3 : I' (T + 3) = I (T + 3)) : MTr N T tn I' ns l g.1 := by
  obtain ⟨ht, h1, h2, h3⟩ := h
  refine ⟨ht, h1, h2, fun i x y hi hx hy => ?_⟩
  rw [e3, t2, t3]; exact h3 i x y hi hx hy
theorem MIt_adv (hB : NB N T S R) (h : MIt N T tn kd key pl m I J n ns l g) (hn : n < m) : MIt N T tn kd key pl m (u2 I 65 7 (ii (n + 1))) J (n + 1) ns l g := by
  obtain ⟨-, -, -, hN1, hN2, hP, hT2⟩ := hB
  have hT1 := hP.2.2.2.1
  obtain ⟨h1, h2, h3, h4, h5, h6, h7, h8, h9, h10, h11⟩ := h
  have eo : ∀ a k, ¬ (a = 65 ∧ k = 7) → u2 I 65 7 (ii (n + 1)) a k = I a k := fun a k q => by rw [u2_if, if_neg q]
  refine ⟨MC_of h1 (u2_e _ _ _ _) hn (by funext j; exact eo _ _ (by omega)) (by funext j; exact eo _ _ (by omega)) (by funext j; exact eo _ _ (by omega)) rfl, by rw [eo _ _ (by omega)]; exact h2, h3, fun i x hx => ?_, MTr_of h5 (by funext j; exact eo _ _ (by omega)) (by funext j; exact eo _ _ (by omega)) (by funext j; exact eo _ _ (by omega)), by rw [eo _ _ (by omega)]; exact h6, by omega, by rw [eo _ _ (by omega)]; exact h8, h9, by rw [eo _ _ (by omega)]; exact h10, TL_of h11 (by funext j; exact eo _ _ (by omega)) (by funext j; exact eo _ _ (by omega)) (by funext j; exact eo _ _ (by omega)) rfl⟩
  rw [eo _ _ (by omega), eo _ _ (by omega)]; exact h4 i x hx
theorem sum_snoc (ht : List Nat) (h : Nat) : (ht ++ [h]).sum = ht.sum + h := by rw [List.sum_append]; simp
theorem s_Mdeclare {k0 : Nat} (hk0 : k0 ≤ 2) (hB : NB N T S R) (h : MIt N T ns.length kd key pl m I J n ns l g) (kT : ¬ dok kd key n ns → Q none (thM (S, u2 I 65 8 (ii (pl n)), J, R, c))) (k : dok kd key n ns → n < m → ∀ I' J', fr (aMi N T) I I' → fr (aMij N T) J J' → (∀ st, I' (N + 3) ns.length = -1 ∧ MIt N T ns.length kd key pl m I' J' (n + 1) (ns ++ [(key n, k0, n, l.length, st)]) l g) → Q (some none) (S, I', J', R, c)) : X xs L (d + 9) 138 0 [.ref 65, .int (ii (k0 + 10)), .null] [] (S, I, J, R, c) Q := by
  have h' := h
  have hB' := hB
  obtain ⟨hL, hY, hR, hN1, hN2, hP, hT2⟩ := hB'
  have hT1 := hP.2.2.2.1
  obtain ⟨h1, h2, h3, h4, h5, h6, h7, h8, h9, h10, h11⟩ := h'
  have hte := TE_1 (MC_te h1)
  have hbad : ¬ dok kd key n ns → X xs L (d + 9) 138 44 [.ref 65, .int (ii (k0 + 10)), .null] [.ref 65] (S, I, J, R, c) Q := fun q =>
    b_X14_declare_44 (b_X14_declare_45 hL (s_check hL h1 (fun _ => kT q) (fun q2 => absurd rfl q2)))
  refine b_X14_declare_0 hL (s_here hL h1 ?_)
  refine b_X14_declare_6 (fun z => hbad (fun q => ?_)) (fun z => ?_)
  · rw [if_pos (hte.2 q.1)] at z; exact absurd z (by decide)
  have hk : kd n = 2 := by
    apply hte.1
    by_cases e : I 67 n = 1
    · exact e
    · rw [if_neg e] at z; exact absurd rfl z
  have hn : n < m := MC_lt h1 (by rw [hk]; decide)
  have hm := h1.2.2.1
  refine b_X14_declare_9 hL hR hY (fun z1 => hbad (fun q => ?_)) (fun z1 => ?_)
  · rw [h2] at z1
    have := (ii_le (n := 40) (by omega) (by omega)).1 z1
    have := q.2.1; omega
  rw [h2] at z1
  have hn4 : ns.length < 40 := by
    rcases Nat.lt_or_ge ns.length 40 with q | q
    · exact q
    · exact absurd ((ii_le (n := 40) (by omega) (by omega)).2 q) z1
  have hw : J 68 n = key n := TE_nm (MC_te h1) (Or.inl hk)
  refine b_X14_declare_21 hL hR (MC_in h1) ?_
  rw [MC_nat h1, hw]
  refine s_X14_find (vs := ns.map Prod.fst) hY (by rw [List.length_map]; exact h2) (MIt_nl h) (by rw [List.length_map]; omega) (fun v q => ?_) (fun q => ?_)
  · have hv := ixl_lt _ _ _ q
    rw [List.length_map] at hv
    refine b_X14_declare_37 (fun _ => hbad (fun q2 => by rw [q2.2.2] at q; cases q)) (fun z2 => absurd ?_ z2)
    rw [ii_zero, ii_le (by omega) (by omega)]; omega
  · refine b_X14_declare_37 (fun z2 => absurd z2 (by decide)) (fun _ => ?_)
    refine b_X14_declare_40 (b_X14_declare_45 hL (s_check hL h1 (fun q2 => absurd q2 (by decide)) (fun _ => ?_)))
    have hb : inb (I N 4) 40 = true := by rw [h2]; exact ii_inb hn4 (by omega)
    refine b_X14_declare_48 hL hR hY (MC_in h1) hb hb hb (by omega) (by omega) (MC_in h1) (by omega) (by omega) hb (by omega) (by omega) ?_
    rw [MC_nat h1, hw, h2, ii_nat (by omega), ii_add1, h1.1, ii_add1, h1.2.2.2.2.2 n h1.2.1]
    have A0 : ∀ {I : Nat → Nat → Int32} (b k v x y), ¬ (x = b ∧ y = k) → u2 I b k v x y = I x y := fun b k v x y q => by rw [u2_if, if_neg q]
    have eo : ∀ x y, ¬ (x = 65 ∧ y = 7) → ¬ (x = N ∧ y = 4) → ¬ x = N + 2 → ¬ x = N + 3 → ¬ x = N + 4 → (u2 (u2 (u2 (u2 (u2 I (N + 2) ns.length (ii (k0 + 10))) (N + 3) ns.length (-1)) (N + 4) ns.length (ii (pl n))) N 4 (ii (ns.length + 1))) 65 7 (ii (n + 1))) x y = I x y := by
      intro x y q1 q2 q3 q4 q5
      rw [A0 _ _ _ _ _ q1, A0 _ _ _ _ _ q2, A0 _ _ _ _ _ (by omega), A0 _ _ _ _ _ (by omega), A0 _ _ _ _ _ (by omega)]
    have e0 : (u2 (u2 (u2 (u2 (u2 I (N + 2) ns.length (ii (k0 + 10))) (N + 3) ns.length (-1)) (N + 4) ns.length (ii (pl n))) N 4 (ii (ns.length + 1))) 65 7 (ii (n + 1))) 65 7 = ii (n + 1) := u2_e _ _ _ _
    have e1 : (u2 (u2 (u2 (u2 (u2 I (N + 2) ns.length (ii (k0 + 10))) (N + 3) ns.length (-1)) (N + 4) ns.length (ii (pl n))) N 4 (ii (ns.length + 1))) 65 7 (ii (n + 1))) N 4 = ii (ns.length + 1) := by rw [A0 _ _ _ _ _ (by omega), u2_e]
    have e2 : ∀ y, (u2 (u2 (u2 (u2 (u2 I (N + 2) ns.length (ii (k0 + 10))) (N + 3) ns.length (-1)) (N + 4) ns.length (ii (pl n))) N 4 (ii (ns.length + 1))) 65 7 (ii (n + 1))) (N + 2) y = if y = ns.length then ii (k0 + 10) else I (N + 2) y := by
      intro y
      rw [A0 _ _ _ _ _ (by omega), A0 _ _ _ _ _ (by omega), A0 _ _ _ _ _ (by omega), A0 _ _ _ _ _ (by omega), u2_if]; simp
    have e3 : ∀ y, (u2 (u2 (u2 (u2 (u2 I (N + 2) ns.length (ii (k0 + 10))) (N + 3) ns.length (-1)) (N + 4) ns.length (ii (pl n))) N 4 (ii (ns.length + 1))) 65 7 (ii (n + 1))) (N + 3) y = if y = ns.length then -1 else I (N + 3) y := by
      intro y
      rw [A0 _ _ _ _ _ (by omega), A0 _ _ _ _ _ (by omega), A0 _ _ _ _ _ (by omega), u2_if, A0 _ _ _ _ _ (by omega)]; simp
    have e4 : ∀ y, (u2 (u2 (u2 (u2 (u2 I (N + 2) ns.length (ii (k0 + 10))) (N + 3) ns.length (-1)) (N + 4) ns.length (ii (pl n))) N 4 (ii (ns.length + 1))) 65 7 (ii (n + 1))) (N + 4) y = if y = ns.length then ii (pl n) else I (N + 4) y := by
      intro y
      rw [A0 _ _ _ _ _ (by omega), A0 _ _ _ _ _ (by omega), u2_if, A0 _ _ _ _ _ (by omega), A0 _ _ _ _ _ (by omega)]; simp
    generalize (u2 (u2 (u2 (u2 (u2 I (N + 2) ns.length (ii (k0 + 10))) (N + 3) ns.length (-1)) (N + 4) ns.length (ii (pl n))) N 4 (ii (ns.length + 1))) 65 7 (ii (n + 1))) = I1 at eo e0 e1 e2 e3 e4 ⊢
    have eo' : ∀ x y, x < 83 → ¬ (x = 65 ∧ y = 7) → I1 x y = I x y := fun x y hx q => eo x y q (by omega) (by omega) (by omega) (by omega)
    refine k ⟨hk, hn4, q⟩ hn I1 _ (fun x y q2 => eo x y (fun q3 => q2 (by unfold aMi; omega)) (fun q3 => q2 (by unfold aMi; omega)) (fun q3 => q2 (by unfold aMi; omega)) (fun q3 => q2 (by unfold aMi; omega)) (fun q3 => q2 (by unfold aMi; omega))) (fr_u _ (fr_refl _ _) (Or.inr rfl)) (fun st => ⟨by rw [e3, if_pos rfl], ?_⟩)
    refine ⟨MC_of h1 e0 hn (by funext j; exact eo' _ _ (by omega) (by omega)) (by funext j; exact eo' _ _ (by omega) (by omega)) (by funext j; exact eo' _ _ (by omega) (by omega)) (by funext j; rw [u2_a _ _ _ _ (by omega)]), by rw [e1, List.length_append, List.length_singleton], by rw [List.length_append, List.length_singleton]; omega, fun i x hx => ?_, ?_, by rw [eo' _ _ (by omega) (by omega)]; exact h6, by omega, by rw [eo' _ _ (by omega) (by omega)]; exact h8, h9, by rw [eo' _ _ (by omega) (by omega)]; exact h10, TL_of h11 (by funext j; exact eo' _ _ (by omega) (by omega)) (by funext j; exact eo' _ _ (by omega) (by omega)) (by funext j; exact eo' _ _ (by omega) (by omega)) (by funext j; rw [u2_a _ _ _ _ (by omega)])⟩
    · rcases Nat.lt_or_ge i ns.length with hi | hi
      · rw [ge_app hi] at hx
        rw [e2, e4, if_neg (by omega), if_neg (by omega), u2_k _ _ _ _ (by omega)]
        exact h4 i x hx
      · have hi2 : i = ns.length := by
          have := (List.getElem?_eq_some_iff.1 hx).1
          rw [List.length_append, List.length_singleton] at this; omega
        rw [hi2, ge_len] at hx
        cases hx
        rw [hi2, e2, e4, if_pos rfl, if_pos rfl, u2_e]
        exact ⟨rfl, rfl, rfl, hk0⟩
    · obtain ⟨ht, t1, t2, t3⟩ := h5
      refine ⟨ht, t1, t2, fun i x y hi hx hy => ?_⟩
      rw [ge_app hi] at hx
      have := t3 i x y hi hx hy
      rw [e3, if_neg (by omega), show I1 (T + 2) = I (T + 2) from by funext j; exact eo' _ _ (by omega) (by omega), show I1 (T + 3) = I (T + 3) from by funext j; exact eo' _ _ (by omega) (by omega)]
      exact this
/-- an input has no tree -/
theorem MIt_in {x : Nd} (h : MIt N T ns.length kd key pl m I J n (ns ++ [x]) l g) (h3 : I (N + 3) ns.length = -1) (hx : x.2.1 = 0) (hs : x.2.2.2.1 = x.2.2.2.2) : MIt N T (ns ++ [x]).length kd key pl m I J n (ns ++ [x]) l g := by
  obtain ⟨h1, h2, h3', h4, ⟨ht, t1, t2, t3⟩, h6⟩ := h
  refine ⟨h1, h2, h3', h4, ⟨ht ++ [0], by rw [List.length_append, List.length_append, t1]; rfl, by rw [sum_snoc, List.length_append, List.length_singleton]; omega, fun i y z hi hy hz => ?_⟩, h6⟩
  rcases Nat.lt_or_ge i ns.length with q | q
  · rw [ge_app (by omega)] at hz
    exact t3 i y z q hy hz
  · have hi2 : i = ns.length := by rw [List.length_append, List.length_singleton] at hi; omega
    rw [hi2, ge_len] at hy
    cases hy
    rw [hi2]
    exact ⟨fun _ => ⟨h3, hs⟩, fun z => absurd hx z⟩
theorem s_Mitem {r : CR} (hB : NB N T S R) (h : MIt N T ns.length kd key pl m I J n ns l g) (hr : itm kd key m n ns l g = r) (kT : r.1 = false → ∀ I' J', fr (aMi N T) I I' → fr (aMij N T) J J' → I' 65 8 = ii (pl r.2.1) → Q none (thM (S, I', J', R, c))) (k : r.1 = true → ∀ I' J', fr (aMi N T) I I' → fr (aMij N T) J J' → n < r.2.1 → MIt N T r.2.2.1.length kd key pl m I' J' r.2.1 r.2.2.1 r.2.2.2.1 r.2.2.2.2 → Q (some none) (S, I', J', R, c)) : X xs L (d + 67) 139 0 [.ref 65, .null, .null] [] (S, I, J, R, c) Q := by
  have hB' := hB
  obtain ⟨hL, hY, hR, hN1, hN2, hP, hT2⟩ := hB'
  have hT1 := hP.2.2.2.1
  have h1 := h.1
  have hw0 := TE_w (j := 0) (MC_te h1) (by omega)
  have hw1 := TE_w (j := 1) (MC_te h1) (by omega)
  have hw2 := TE_w (j := 2) (MC_te h1) (by omega)
  rw [show (jTab 2).getD 0 0 = 452824429940 from rfl] at hw0
  rw [show (jTab 2).getD 1 0 = 2003399269 from rfl] at hw1
  rw [show (jTab 2).getD 2 0 = 465491485544 from rfl] at hw2
  have fF : ∀ {I0 : Nat → Nat → Int32} {v : Int32}, fr (aMi N T) I I0 → fr (aMi N T) I (u2 I0 65 8 v) := fun q => fr_u _ q (by unfold aMi; omega)
  have fA : fr (aMi N T) I (u2 I 65 7 (ii (n + 1))) := fr_u _ (fr_refl _ _) (by unfold aMi; omega)
  unfold itm at hr
  -- behind the word
  have hmade : ∀ k0, (k0 = 1 ∨ k0 = 2) → n < m → mad kd key m k0 (n + 1) ns l g = r → X xs L (d + 67) 139 37 [.ref 65, .int (ii (k0 + 10)), .null] [] (S, I, J, R, c) Q := by
    intro k0 hk0 hn hr
    refine b_X14_item_37 hL ?_
    rw [h1.1, ii_add1]
    have b1 := MIt_adv hB h hn
    unfold mad at hr
    refine s_Mdeclare (by omega) hB b1 (fun q => ?_) (fun q hn1 I1 J1 f1 f2 a1 => ?_)
    · rw [if_neg q] at hr
      subst hr
      exact kT rfl _ _ (fF fA) (fr_refl _ _) (u2_e _ _ _ _)
    · rw [if_pos q] at hr
      have F1 := fr_trans fA f1
      refine b_X14_item_52 (fun _ => ?_) (fun z => absurd (by rcases hk0 with e | e <;> subst e <;> decide) z)
      obtain ⟨c3, c1⟩ := a1 0
      have hsg := TE_sg (MC_te c1.1) (c := 61) (by decide)
      refine b_X14_item_85 hL hR hY ?_
      have hsz : I1 N 4 - 1 = ii ns.length := by
        rw [c1.2.1, List.length_append, List.length_singleton, ii_one, ii_sub (by omega), Nat.add_sub_cancel]
      rw [hsz]
      refine s_take hL c1.1 (fun z => ?_) (fun z => ?_)
      · rw [if_neg (fun e => z (hsg.2 e))] at hr
        subst hr
        exact kT rfl _ _ (fF F1) f2 (u2_e _ _ _ _)
      · have hk2 : kd (n + 1 + 1) = 61 := hsg.1 z
        rw [if_pos hk2] at hr
        have hn2 : n + 1 + 1 < m := MC_lt c1.1 (by rw [hk2]; decide)
        have d1 := MIt_adv hB c1 hn2
        have F2 : fr (aMi N T) I (u2 I1 65 7 (ii (n + 1 + 1 + 1))) := fr_u _ F1 (by unfold aMi; omega)
        have d3 : u2 I1 65 7 (ii (n + 1 + 1 + 1)) (N + 3) ns.length = -1 := by rw [u2_a _ _ _ _ (by omega)]; exact c3
        have d4 : ∀ st, MIt N T ns.length kd key pl m (u2 I1 65 7 (ii (n + 1 + 1 + 1))) J1 (n + 1 + 1 + 1) (ns ++ [(key (n + 1), k0, n + 1, l.length, st)]) l g := fun st => MIt_adv hB (a1 st).2 hn2
        generalize u2 I1 65 7 (ii (n + 1 + 1 + 1)) = I2 at d1 F2 d3 d4 ⊢
        refine b_X14_item_101 hL hR hY ?_
        have hms : MSt 1 T 93 kd key pl m I2 J1 (n + 1 + 1 + 1) 0 l g := by
          obtain ⟨g1, g2, g3, g4, g5, g6, g7, g8, g9, g10, g11⟩ := d1
          exact ⟨g1, g6, by have := h.2.2.2.2.2.2.1; omega, g8, g9, g10, g11, fun q => by omega⟩
        have hps := (ps_all (xs := xs) (L := L) (c := c) (kd := kd) (key := key) (pl := pl) (m := m) hP (m + 1)).2 d 0 (n + 1 + 1 + 1) 0 l g I2 J1
        refine hps _ (by omega) (by omega) trivial hms (fun I3 J3 p q3 => ?_) (fun I3 J3 n3 l3 g3 q3 => ?_)
        · obtain ⟨e1, e2, e3, e4, e5⟩ := q3
          have e6 := e5 [] wkl_nil
          rw [show lfM 1 kd key = lfC kd key from rfl] at e6
          rw [if_neg (fun q4 => by rw [e6.1] at q4; cases q4.1), e6.2] at hr
          subst hr
          exact kT rfl I3 J3 (fr_trans F2 (fr_sub e1 (by intro a k; unfold aMp aMi; omega))) (fr_trans f2 (fr_sub e2 (by intro a k; unfold aMpj aMij; omega))) e4
        · obtain ⟨q1, q2, q3, q4, q5, q6, q7, q8, q9, q10⟩ := q3
          have hsy := q9 [] wkl_nil
          rw [show lfM 1 kd key = lfC kd key from rfl, sy_end q3.1.2.1 q10] at hsy
          have hns : ns.length < 40 := q.2.1
          refine b_X14_item_114 (n_sr0 := 40) hY.1.2.2.2.1 (ii_inb hns (by omega)) ?_
          rw [ii_nat (by omega)]
          have F3 : fr (aMi N T) I (u2 I3 (N + 3) ns.length (ii (l3.length - 1))) := fr_u _ (fr_trans F2 (fr_sub q1 (by intro a k; unfold aMp aMi; omega))) (by unfold aMi; omega)
          have G3 : fr (aMij N T) J J3 := fr_trans f2 (fr_sub q2 (by intro a k; unfold aMpj aMij; omega))
          have eo : ∀ a k, ¬ a = N + 3 → u2 I3 (N + 3) ns.length (ii (l3.length - 1)) a k = I3 a k := fun a k q => by rw [u2_a _ _ _ _ q]
          have en : ∀ k, u2 I3 (N + 3) ns.length (ii (l3.length - 1)) (N + 3) k = if k = ns.length then ii (l3.length - 1) else I2 (N + 3) k := fun k => by
            rw [u2_if, q1 (N + 3) k (by unfold aMp; omega)]; simp
          have hfin : MIt N T (ns ++ [(key (n + 1), k0, n + 1, l.length, l3.length)]).length kd key pl m (u2 I3 (N + 3) ns.length (ii (l3.length - 1))) J3 n3 (ns ++ [(key (n + 1), k0, n + 1, l.length, l3.length)]) l3 g3 := by
            obtain ⟨g1, g2, g3', g4, ⟨ht, t1, t2, t3⟩, g6, g7, g8, g9, g10, g11⟩ := d4 l3.length
            obtain ⟨w1, w2, w3, w4, w5, w6, w7, w8⟩ := q3
            refine ⟨MC_of w1 (by rw [eo _ _ (by omega)]; exact w1.1) w1.2.1 (by funext j; exact eo _ _ (by omega)) (by funext j; exact eo _ _ (by omega)) (by funext j; exact eo _ _ (by omega)) rfl, by rw [eo _ _ (by omega), q1 _ _ (by unfold aMp; omega)]; exact g2, g3', fun i x hx => ?_, ⟨ht ++ [g3.1 - g.1 + 10], ?_, ?_, fun i x y hi hx hy => ?_⟩, by rw [eo _ _ (by omega)]; exact w2, by omega, by rw [eo _ _ (by omega)]; exact w4, w5, by rw [eo _ _ (by omega)]; exact w6, TL_of w7 (by funext j; exact eo _ _ (by omega)) (by funext j; exact eo _ _ (by omega)) (by funext j; exact eo _ _ (by omega)) rfl⟩
            · rw [eo _ _ (by omega), eo _ _ (by omega), q1 _ _ (by unfold aMp; omega), q1 _ _ (by unfold aMp; omega), q2 _ _ (by unfold aMpj; omega)]
              exact g4 i x hx
            · rw [List.length_append, List.length_append, t1]; rfl
            · rw [sum_snoc, List.length_append, List.length_singleton]; omega
            · rw [en, show u2 I3 (N + 3) ns.length (ii (l3.length - 1)) (T + 2) = I3 (T + 2) from by funext j; exact eo _ _ (by omega), show u2 I3 (N + 3) ns.length (ii (l3.length - 1)) (T + 3) = I3 (T + 3) from by funext j; exact eo _ _ (by omega)]
              rcases Nat.lt_or_ge i ns.length with hi2 | hi2
              · rw [ge_app (by omega)] at hy
                have := t3 i x y hi2 hx hy
                rw [if_neg (by omega)]
                refine ⟨this.1, fun z => ?_⟩
                obtain ⟨z1, z2, z3⟩ := this.2 z
                have zl := tre_lt _ _ _ z3
                exact ⟨z1, z2, tre_ext _ _ _ (fun j hj => (q6 j (by omega)).1) (fun j hj => (q6 j (by omega)).2) z3⟩
              · have hi3 : i = ns.length := by rw [List.length_append, List.length_singleton] at hi; omega
                rw [hi3, ge_len] at hx
                cases hx
                rw [hi3] at hy ⊢
                have hy2 : y = g3.1 - g.1 + 10 := by
                  rw [← t1, ge_len] at hy; cases hy; rfl
                rw [if_pos rfl]
                refine ⟨fun z => ?_, fun _ => ⟨rfl, q5, ?_⟩⟩
                · have z : k0 = 0 := z
                  omega
                · rw [hy2]; exact q8
          have hsg2 := TE_sg (MC_te hfin.1) (c := 59) (by decide)
          refine b_X14_item_115 hL (s_take hL hfin.1 (fun z5 => ?_) (fun z5 => ?_))
          · rw [if_neg (fun q4 => z5 (hsg2.2 (by rw [hsy] at q4; exact q4.2))), hsy] at hr
            subst hr
            exact kT rfl _ _ (fF F3) G3 (u2_e _ _ _ _)
          · have hk3 : kd n3 = 59 := hsg2.1 z5
            rw [if_pos (by rw [hsy]; exact ⟨rfl, hk3⟩), hsy] at hr
            have hn3 : n3 < m := MC_lt hfin.1 (by rw [hk3]; decide)
            subst hr
            refine b_X14_item_121 (k rfl _ J3 (fr_u _ F3 (by unfold aMi; omega)) G3 ?_ (MIt_adv hB hfin hn3))
            show n < n3 + 1
            omega
  have hinp : n < m → (inp1 kd key l.length (n + 1) ns) = (r.1, r.2.1, r.2.2.1) → r.2.2.2 = (l, g) → X xs L (d + 67) 139 37 [.ref 65, .int (ii (0 + 10)), .null] [] (S, I, J, R, c) Q := by
    intro hn hr1 hr2
    obtain ⟨r0, rn, rns, rl⟩ := r
    simp only at hr1 hr2 kT k
    subst hr2
    refine b_X14_item_37 hL ?_
    rw [h1.1, ii_add1]
    have b1 := MIt_adv hB h hn
    have hdec : ∀ (f : Nat) (I1 : Nat → Nat → Int32) (J1 : Nat → Nat → Int64) (n1 : Nat) (ns1 : List Nd) (pc : Nat), 41 ≤ ns1.length + f → n < n1 → fr (aMi N T) I I1 → fr (aMij N T) J J1 → MIt N T ns1.length kd key pl m I1 J1 n1 ns1 l g → inp1 kd key l.length n1 ns1 = (r0, rn, rns) → (pc = 52 ∨ pc = 82) → X xs L (d + 66) 138 0 [.ref 65, .int (ii (0 + 10)), .null] [] (S, I1, J1, R, c) (Kt xs L (d + 67) 139 pc [.ref 65, .int (ii (0 + 10)), .null] [] Q) := by
      intro f
      induction f with
      | zero => intro I1 J1 n1 ns1 pc a1 a2 a3 a4 a5; have := a5.2.2.1; omega
      | succ f ih =>
        intro I1 J1 n1 ns1 pc a1 a2 a3 a4 a5 a6 hpc
        have hn40 := a5.2.2.1
        rw [inp1_eq hn40] at a6
        refine s_Mdeclare (by omega) hB a5 (fun q => ?_) (fun q hn1 I2 J2 f1 f2 c0 => ?_)
        · rw [if_neg q] at a6
          cases a6
          exact kT rfl _ _ (fF a3) a4 (u2_e _ _ _ _)
        · rw [if_pos q] at a6
          have F1 := fr_trans a3 f1
          have F2 := fr_trans a4 f2
          have c1 := MIt_in (c0 l.length).2 (c0 l.length).1 rfl rfl
          have h58 : X xs L (d + 67) 139 58 [.ref 65, .int (ii (0 + 10)), .null] [] (S, I2, J2, R, c) Q := by
            have hsg := TE_sg (MC_te c1.1) (c := 44) (by decide)
            refine b_X14_item_58 hL (s_here hL c1.1 ?_)
            refine b_X14_item_64 (fun z => ?_) (fun z => ?_)
            · have hk : ¬ kd (n1 + 1) = 44 := by intro e; rw [if_pos (hsg.2 e)] at z; exact absurd z (by decide)
              rw [if_neg hk] at a6
              have hsg2 := TE_sg (MC_te c1.1) (c := 59) (by decide)
              refine b_X14_item_115 hL (s_take hL c1.1 (fun z5 => ?_) (fun z5 => ?_))
              · rw [if_neg (fun e => z5 (hsg2.2 e))] at a6
                cases a6
                exact kT rfl _ _ (fF F1) F2 (u2_e _ _ _ _)
              · have hk3 : kd (n1 + 1) = 59 := hsg2.1 z5
                rw [if_pos hk3] at a6
                have hn3 : n1 + 1 < m := MC_lt c1.1 (by rw [hk3]; decide)
                cases a6
                exact b_X14_item_121 (k rfl _ J2 (fr_u _ F1 (by unfold aMi; omega)) F2 (by omega) (MIt_adv hB c1 hn3))
            · have hk : kd (n1 + 1) = 44 := by
                apply hsg.1
                by_cases e : I2 67 (n1 + 1) = 44
                · exact e
                · rw [if_neg e] at z; exact absurd rfl z
              rw [if_pos hk] at a6
              have hn3 : n1 + 1 < m := MC_lt c1.1 (by rw [hk]; decide)
              refine b_X14_item_67 hL ?_
              rw [c1.1.1, ii_add1]
              exact ih _ J2 (n1 + 2) _ 82 (by rw [List.length_append, List.length_singleton]; omega) (by omega) (fr_u _ F1 (by unfold aMi; omega)) F2 (MIt_adv hB c1 hn3) a6 (Or.inr rfl)
          rcases hpc with e | e
          · subst e
            exact b_X14_item_52 (fun z => absurd rfl z) (fun _ => h58)
          · subst e
            exact b_X14_item_82 h58
    exact hdec 41 _ J (n + 1) ns 52 (by omega) (by omega) fA (fr_refl _ _) b1 hr1 (Or.inl rfl)
  have hlt : ∀ {i}, kd n = 3 ∧ key n = i → n < m := fun q => MC_lt h1 (by rw [q.1]; decide)
  have hck : ∀ {v : Int32}, X xs L (d + 67) 139 37 [.ref 65, .int v, .null] [] (S, I, J, R, c) Q → X xs L (d + 67) 139 29 [.ref 65, .int v, .null] [.ref 65] (S, I, J, R, c) Q := fun q =>
    b_X14_item_29 (b_X14_item_34 hL (s_check hL h1 (fun q2 => absurd q2 (by decide)) (fun _ => q)))
  refine b_X14_item_0 hL (MC_in h1) (fun z => ?_) (fun z => ?_)
  · rw [MC_nat h1] at z ⊢
    have q := hw0.1 z
    rw [if_pos q] at hr
    refine hck ?_
    rw [z]
    subst hr
    exact hinp (hlt q) rfl rfl
  · rw [MC_nat h1] at z ⊢
    have q0 : ¬ (kd n = 3 ∧ key n = 452824429940) := fun q => z (hw0.2 q)
    rw [if_neg q0] at hr
    refine b_X14_item_17 (fun z1 => ?_) (fun z1 => ?_)
    · have q := hw1.1 z1
      rw [if_pos q] at hr
      refine hck ?_
      rw [z1]
      exact hmade 1 (Or.inl rfl) (hlt q) hr
    · have q1 : ¬ (kd n = 3 ∧ key n = 2003399269) := fun q => z1 (hw1.2 q)
      rw [if_neg q1] at hr
      refine b_X14_item_23 (fun z2 => ?_) (fun z2 => ?_)
      · have q2 : ¬ (kd n = 3 ∧ key n = 465491485544) := fun q => z2 (hw2.2 q)
        rw [if_neg q2] at hr
        subst hr
        exact b_X14_item_33 (b_X14_item_34 hL (s_check hL h1 (fun _ => kT rfl _ _ (fF (fr_refl _ _)) (fr_refl _ _) (u2_e _ _ _ _)) (fun q => absurd rfl q)))
      · have z3 := Classical.not_not.1 z2
        have q := hw2.1 z3
        rw [if_pos q] at hr
        refine hck ?_
        rw [z3]
        exact hmade 2 (Or.inr rfl) (hlt q) hr
end MITEM
