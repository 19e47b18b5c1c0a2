/-! ===== P2: the items of a circuit in the class ===== -/
section CRD2
variable {xs : Nat → Int32} {L d : Nat} {S : Nat → Shp} {I I' : Nat → Nat → Int32} {J J' : Nat → Nat → Int64} {R : Nat → Nat → Nat} {c : Nat × Nat} {Q : Option (Option Value) → MH → Prop} {kd : Nat → Int32} {key : Nat → Int64} {pl : Nat → Nat} {m n a : Nat} {ns : List Nd} {l : List Int32} {g : LeS}
theorem CSt_of {n' : Nat} (h : CSt a kd key pl m I J n ns l g) (hT : CTk kd key pl m I' J' n') (hn : n ≤ n') (e0 : I' a 0 = I a 0) (e1 : J' (a + 1) = J (a + 1)) (e2 : I' (a + 2) = I (a + 2)) (e3 : I' (a + 3) = I (a + 3)) (e4 : I' (a + 4) = I (a + 4)) (e10 : I' 10 = I 10) (e5 : I' (a + 5) 1 = I (a + 5) 1) (e6 : I' (a + 6) = I (a + 6)) (e8 : I' 8 2 = I 8 2) : CSt a kd key pl m I' J' n' ns l g := by
  obtain ⟨h1, h2, h3, h4, h5, h6, h7, h8⟩ := h
  exact ⟨hT, ⟨by rw [e0]; exact h2.1, fun i x hx => by rw [e1, e2, e3, e4]; exact h2.2 i x hx⟩, fun i x hx => by rw [e10]; exact h3 i x hx, h4, CdL_of h5 e5 e6, by rw [e8]; exact h6, h7, by omega⟩
theorem CSt_st (ha : 12 < a) (h : CSt a kd key pl m I J n ns l g) (hn : n < m) : CSt a kd key pl m (u2 I 4 5 (ii (n + 1))) J (n + 1) ns l g := by
  refine CSt_of h (CTk_st h.1 hn) (by omega) ?_ rfl ?_ ?_ ?_ ?_ ?_ ?_ ?_
  · rw [u2_a _ _ _ _ (by omega)]
  · funext j; rw [u2_a _ _ _ _ (by omega)]
  · funext j; rw [u2_a _ _ _ _ (by omega)]
  · funext j; rw [u2_a _ _ _ _ (by omega)]
  · funext j; rw [u2_a _ _ _ _ (by omega)]
  · rw [u2_a _ _ _ _ (by omega)]
  · funext j; rw [u2_a _ _ _ _ (by omega)]
  · rw [u2_a _ _ _ _ (by omega)]
theorem s_X2_takeInputs {r : Bool × Nat × List Nd} (hB : CB a S R) (h : CSt a kd key pl m I J n ns l g) (hr : inp1 kd key l.length n ns = r) (k : ∀ I' J', fr (aRc a) I I' → fr (aRcj a) J J' → CTk kd key pl m I' J' r.2.1 → (r.1 = true → n < r.2.1 ∧ CSt a kd key pl m I' J' r.2.1 r.2.2 l g) → Q (some (some (.int (if r.1 = true then 1 else 0)))) (S, I', J', R, c)) : X xs L (d + 3) 40 0 [.ref 8, .null, .null] [] (S, I, J, R, c) Q := by
  have hL := hB.1
  have ha := hB.2.2.2.2.1
  refine b_X2_takeInputs_0 ?_
  have main : ∀ (f i : Nat) (I' : Nat → Nat → Int32) (J' : Nat → Nat → Int64) (n' : Nat) (ns' : List Nd), 41 ≤ ns'.length + f → i ≤ ns'.length → n ≤ n' → fr (aRc a) I I' → fr (aRcj a) J J' → CSt a kd key pl m I' J' n' ns' l g → inp1 kd key l.length n' ns' = r → X xs L (d + 3) 40 4 [.ref 8, .int 1, .int (ii i)] [] (S, I', J', R, c) Q := by
    intro f
    induction f with
    | zero => intro i I' J' n' ns' h1 h2 h3 h4 h5 h6; have := h6.2.2.2.1; omega
    | succ f ih =>
      intro i I' J' n' ns' h1 h2 h3 h4 h5 h6 h7
      have hn40 := h6.2.2.2.1
      have hm := h6.1.1.2.2.2.1
      rw [inp1_eq hn40] at h7
      refine b_X2_takeInputs_4 (fun z => ?_) (fun _ => ?_)
      · have := (ii_lt (n := 40) (by omega) (by omega)).1 z; omega
      refine b_X2_takeInputs_10 (fun z => absurd z (by decide)) (fun _ => ?_)
      refine b_X2_takeInputs_14 hL (s_X2_takeDeclared (k0 := 0) hB h6 (fun q hn I2 J2 f1 f2 h8 => ?_) (fun q => ?_))
      · rw [if_pos q] at h7
        refine b_X2_takeInputs_19 (fun _ => ?_) (fun z => absurd (by decide) z)
        have F1 := fr_trans h4 f1
        have F2 := fr_trans h5 f2
        have hfin : ∀ (x1 : Int32) (i : Nat), ¬ kd (n' + 1) = 44 → X xs L (d + 3) 40 37 [.ref 8, .int x1, .int (ii i)] [] (S, I2, J2, R, c) Q := by
          intro x1 i hk
          rw [if_neg hk] at h7
          refine b_X2_takeInputs_37 hL (s_X6c_takeSign hL h8.1.1 (by decide) (fun z1 z2 => ?_) (fun z1 => ?_))
          · rw [h8.1.2.1] at z1
            rw [if_pos z1] at h7
            subst h7
            refine b_X2_takeInputs_43 (Or.inr rfl) ?_
            have h9 := CSt_st ha h8 z2
            have hk := k _ _ (fr_u _ F1 (by unfold aRc; omega)) F2 h9.1 (fun _ => ⟨by show n < n' + 2; omega, h9⟩)
            rw [if_pos rfl] at hk
            exact hk
          · rw [h8.1.2.1] at z1
            rw [if_neg z1] at h7
            subst h7
            exact b_X2_takeInputs_43 (Or.inl rfl) (k _ _ F1 F2 h8.1 (fun z => by cases z))
        refine b_X2_takeInputs_24 hL (s_X6c_takeSign hL h8.1.1 (by decide) (fun z1 z2 => ?_) (fun z1 => ?_))
        · rw [h8.1.2.1] at z1
          rw [if_pos z1] at h7
          refine b_X2_takeInputs_30 ?_
          rw [ii_add1]
          exact ih (i + 1) _ _ (n' + 2) _ (by rw [List.length_append, List.length_singleton]; omega) (by rw [List.length_append, List.length_singleton]; omega) (by omega) (fr_u _ F1 (by unfold aRc; omega)) F2 (CSt_st ha h8 z2) h7
        · rw [h8.1.2.1] at z1
          refine b_X2_takeInputs_30 ?_
          rw [ii_add1]
          exact b_X2_takeInputs_4 (fun _ => hfin _ _ z1) (fun _ => b_X2_takeInputs_10 (fun _ => hfin _ _ z1) (fun z => absurd rfl z))
      · rw [if_neg q] at h7
        subst h7
        exact b_X2_takeInputs_19 (fun z => absurd rfl z) (fun _ => b_X2_takeInputs_22 (k _ _ h4 h5 h6.1 (fun z => by cases z)))
  exact main 41 0 I J n ns (by omega) (by omega) (Nat.le_refl _) (fr_refl _ _) (fr_refl _ _) h hr
theorem s_X2_takeMade {k0 : Nat} {r : CR} (hB : CB a S R) (h : CSt a kd key pl m I J n ns l g) (hr : mad kd key m k0 n ns l g = r) (k : ∀ I' J', fr (aRc a) I I' → fr (aRcj a) J J' → CTk kd key pl m I' J' r.2.1 → (r.1 = true → n < r.2.1 ∧ CSt a kd key pl m I' J' r.2.1 r.2.2.1 r.2.2.2.1 r.2.2.2.2) → Q (some (some (.int (if r.1 = true then 1 else 0)))) (S, I', J', R, c)) : X xs L (d + 5) 41 0 [.ref 8, .int (ii k0), .null] [] (S, I, J, R, c) Q := by
  have hL := hB.1
  have hB' := hB
  obtain ⟨-, hY, hR6, hR1, ha, hcd⟩ := hB'
  unfold mad at hr
  refine b_X2_takeMade_0 hL (s_X2_takeDeclared hB h (fun q hn I1 J1 f1 f2 h1 => ?_) (fun q => ?_))
  · rw [if_pos q] at hr
    refine b_X2_takeMade_5 (fun z => absurd z (by decide)) (fun _ => ?_)
    refine b_X2_takeMade_8 hL (s_X6c_takeSign hL h1.1.1 (by decide) (fun z1 z2 => ?_) (fun z1 => ?_))
    · rw [h1.1.2.1] at z1
      rw [if_pos z1] at hr
      refine b_X2_takeMade_14 (fun _ => ?_) (fun z => absurd (by decide) z)
      have h2 := CSt_st ha h1 z2
      have F1 : fr (aRc a) I (u2 I1 4 5 (ii (n + 1 + 1))) := fr_u _ f1 (by unfold aRc; omega)
      generalize u2 I1 4 5 (ii (n + 1 + 1)) = I2 at h2 F1 ⊢
      refine b_X2_takeMade_19 hL hR6 hY ?_
      have hsz : I2 a 0 - 1 = ii ns.length := by
        rw [h2.2.1.1, List.length_append, List.length_singleton, ii_one, ii_sub (by omega), Nat.add_sub_cancel]
      rw [hsz]
      have hln := h.2.2.2.2.2.2.2
      have hns := q.2.1
      refine s_X6c_takeFormula (r := a + 5) (s := sy1 kd (lfC kd key) m true (n + 2) [] 0 l g) hL hR1 hcd (by omega) h2.1.1 h2.2.2.2.2.1 (by omega) h2.2.2.2.2.2.1 h2.2.2.2.2.2.2.1 (by rw [h2.1.2.1, h2.1.2.2.1]) ?_
      generalize sy1 kd (lfC kd key) m true (n + 2) [] 0 l g = s at hr ⊢
      intro I3 q1 q2 q3 q4
      have e5 : I3 5 = I2 5 := fr_row q1 5 (by intro k; unfold aFoc; omega)
      have e6 : I3 6 = I2 6 := fr_row q1 6 (by intro k; unfold aFoc; omega)
      have T3 : CTk kd key pl m I3 J1 s.2.1 := CTk_of h2.1 q2 e5 e6 rfl
      have F3 : fr (aRc a) I I3 := fr_trans F1 (fr_sub q1 (by intro x k; unfold aFoc aRc; omega))
      by_cases hs1 : s.1 = true
      · rw [if_pos hs1]
        obtain ⟨p1, p2, p3, p4⟩ := q4 hs1
        refine b_X2_takeMade_33 (fun _ => ?_) (fun z => absurd (by decide) z)
        refine b_X2_takeMade_38 hL hR6 hY hR1 hcd (ii_inb (by omega) (by omega)) ?_
        rw [ii_nat (by omega), p1.1]
        have T4 : CTk kd key pl m (u2 I3 (a + 4) ns.length (ii s.2.2.1.length)) J1 s.2.1 := CTk_of T3 (TkC_of T3.1 (by rw [u2_a _ _ _ _ (by omega)]) (by rw [u2_a _ _ _ _ (by omega)]) (by funext j; rw [u2_a _ _ _ _ (by omega)])) (by funext j; rw [u2_a _ _ _ _ (by omega)]) (by funext j; rw [u2_a _ _ _ _ (by omega)]) rfl
        have F4 : fr (aRc a) I (u2 I3 (a + 4) ns.length (ii s.2.2.1.length)) := fr_u _ F3 (by unfold aRc; omega)
        refine s_X6c_takeSign hL T4.1 (by decide) (fun z3 z4 => ?_) (fun z3 => ?_)
        · rw [T4.2.1] at z3
          rw [if_pos ⟨hs1, z3⟩] at hr
          subst hr
          refine b_X2_takeMade_60 (Or.inr rfl) ?_
          have h5 : CSt a kd key pl m (u2 I3 (a + 4) ns.length (ii s.2.2.1.length)) J1 s.2.1 (ns ++ [(key n, k0, n, l.length, s.2.2.1.length)]) s.2.2.1 s.2.2.2 := by
            obtain ⟨-, c2, c3, c4, c5, c6, c7, c8⟩ := h2
            refine ⟨T4, ⟨?_, fun i x hx => ?_⟩, fun i x hx => ?_, by rw [List.length_append, List.length_singleton]; omega, CdL_of p1 (by rw [u2_a _ _ _ _ (by omega)]) (by funext j; rw [u2_a _ _ _ _ (by omega)]), by rw [u2_a _ _ _ _ (by omega)]; exact p2, p4, by omega⟩
            · rw [u2_a _ _ _ _ (by omega), q1 _ _ (by unfold aFoc; omega), c2.1, List.length_append, List.length_append]; rfl
            · have r2 : I3 (a + 2) i = I2 (a + 2) i := q1 _ _ (by unfold aFoc; omega)
              have r3 : I3 (a + 3) i = I2 (a + 3) i := q1 _ _ (by unfold aFoc; omega)
              have r4 : I3 (a + 4) i = I2 (a + 4) i := q1 _ _ (by unfold aFoc; omega)
              rcases Nat.lt_or_ge i ns.length with hi | hi
              · rw [ge_app hi] at hx
                have := c2.2 i x (by rw [ge_app hi]; exact hx)
                rw [u2_a _ _ _ _ (by omega), u2_a _ _ _ _ (by omega), u2_k _ _ _ _ (by omega), r2, r3, r4]
                exact this
              · have hi2 : i = ns.length := by
                  have := (List.getElem?_eq_some_iff.1 hx).1
                  rw [List.length_append, List.length_singleton] at this; omega
                rw [hi2, ge_len] at hx
                cases hx
                have := c2.2 ns.length _ ge_len
                rw [hi2] at r2 r3 ⊢
                rw [u2_a _ _ _ _ (by omega), u2_a _ _ _ _ (by omega), u2_e, r2, r3]
                exact ⟨this.1, this.2.1, this.2.2.1, rfl⟩
            · rw [u2_a _ _ _ _ (by omega), q1 _ _ (by unfold aFoc; omega)]
              rcases Nat.lt_or_ge i ns.length with hi | hi
              · rw [ge_app hi] at hx
                exact c3 i x (by rw [ge_app hi]; exact hx)
              · have hi2 : i = ns.length := by
                  have := (List.getElem?_eq_some_iff.1 hx).1
                  rw [List.length_append, List.length_singleton] at this; omega
                rw [hi2, ge_len] at hx
                cases hx
                rw [hi2]
                exact c3 ns.length (key n, k0, n, l.length, l.length) ge_len
          have h6 := CSt_st ha h5 z4
          have hk := k _ _ (fr_u _ F4 (by unfold aRc; omega)) f2 h6.1 (fun _ => ⟨by show n < s.2.1 + 1; omega, h6⟩)
          rw [if_pos rfl] at hk
          exact hk
        · rw [T4.2.1] at z3
          rw [if_neg (fun q => z3 q.2)] at hr
          subst hr
          exact b_X2_takeMade_60 (Or.inl rfl) (k _ _ F4 f2 T4 (fun z => by cases z))
      · rw [if_neg hs1]
        rw [if_neg (fun q => hs1 q.1)] at hr
        subst hr
        exact b_X2_takeMade_33 (fun z => absurd rfl z) (fun _ => b_X2_takeMade_36 (k _ _ F3 f2 T3 (fun z => by cases z)))
    · rw [h1.1.2.1] at z1
      rw [if_neg z1] at hr
      subst hr
      exact b_X2_takeMade_14 (fun z => absurd rfl z) (fun _ => b_X2_takeMade_17 (k _ _ f1 f2 h1.1 (fun z => by cases z)))
  · rw [if_neg q] at hr
    subst hr
    exact b_X2_takeMade_5 (fun _ => b_X2_takeMade_17 (k _ _ (fr_refl _ _) (fr_refl _ _) h.1 (fun z => by cases z))) (fun z => absurd rfl z)
theorem s_X2_takeItem {r : CR} (hB : CB a S R) (h : CSt a kd key pl m I J n ns l g) (hr : itm kd key m n ns l g = r) (k : ∀ I' J', fr (aRc a) I I' → fr (aRcj a) J J' → CTk kd key pl m I' J' r.2.1 → (r.1 = true → n < r.2.1 ∧ CSt a kd key pl m I' J' r.2.1 r.2.2.1 r.2.2.2.1 r.2.2.2.2) → Q (some (some (.int (if r.1 = true then 1 else 0)))) (S, I', J', R, c)) : X xs L (d + 6) 39 0 [.ref 8] [] (S, I, J, R, c) Q := by
  have hL := hB.1
  have ha := hB.2.2.2.2.1
  have hbo : ∀ b : Bool, (if b = true then (1 : Int32) else 0) = 0 ∨ (if b = true then (1 : Int32) else 0) = 1 := by intro b; cases b <;> decide
  have F : ∀ v, fr (aRc a) I (u2 I 4 5 v) := fun v => fr_u _ (fr_refl _ _) (by unfold aRc; omega)
  unfold itm at hr
  refine b_X2_takeItem_0 hL (s_X6c_takeWord hL h.1.1 (fun z1 z2 z3 => ?_) (fun z1 => ?_))
  · rw [h.1.2.1] at z1
    rw [h.1.2.2.1] at z2
    rw [if_pos ⟨z1, z2⟩] at hr
    refine b_X2_takeItem_7 (fun z => absurd z (by decide)) (fun _ => b_X2_takeItem_10 hL ?_)
    refine s_X2_takeInputs hB (CSt_st ha h z3) rfl (fun I2 J2 f1 f2 t1 t2 => ?_)
    subst hr
    exact b_X2_takeItem_14 (hbo _) (k I2 J2 (fr_trans (F _) f1) f2 t1 (fun q => ⟨Nat.lt_trans (Nat.lt_succ_self n) (t2 q).1, (t2 q).2⟩))
  rw [h.1.2.1, h.1.2.2.1] at z1
  rw [if_neg z1] at hr
  refine b_X2_takeItem_7 (fun _ => ?_) (fun z => absurd rfl z)
  refine b_X2_takeItem_15 hL (s_X6c_takeWord hL h.1.1 (fun w1 w2 w3 => ?_) (fun w1 => ?_))
  · rw [h.1.2.1] at w1
    rw [h.1.2.2.1] at w2
    rw [if_pos ⟨w1, w2⟩] at hr
    refine b_X2_takeItem_22 (fun z => absurd z (by decide)) (fun _ => b_X2_takeItem_25 hL ?_)
    refine s_X2_takeMade (k0 := 1) hB (CSt_st ha h w3) hr (fun I2 J2 f1 f2 t1 t2 => ?_)
    exact b_X2_takeItem_30 (hbo _) (k I2 J2 (fr_trans (F _) f1) f2 t1 (fun q => ⟨by have := (t2 q).1; omega, (t2 q).2⟩))
  rw [h.1.2.1, h.1.2.2.1] at w1
  rw [if_neg w1] at hr
  refine b_X2_takeItem_22 (fun _ => ?_) (fun z => absurd rfl z)
  refine b_X2_takeItem_31 hL (s_X6c_takeWord hL h.1.1 (fun v1 v2 v3 => ?_) (fun v1 => ?_))
  · rw [h.1.2.1] at v1
    rw [h.1.2.2.1] at v2
    rw [if_pos ⟨v1, v2⟩] at hr
    refine b_X2_takeItem_38 (fun z => absurd z (by decide)) (fun _ => b_X2_takeItem_41 hL ?_)
    refine s_X2_takeMade (k0 := 2) hB (CSt_st ha h v3) hr (fun I2 J2 f1 f2 t1 t2 => ?_)
    have hk := k I2 J2 (fr_trans (F _) f1) f2 t1 (fun q => ⟨by have := (t2 q).1; omega, (t2 q).2⟩)
    by_cases q : r.1 = true
    · rw [if_pos q] at hk ⊢
      exact b_X2_takeItem_46 (fun z => absurd z (by decide)) (fun _ => b_X2_takeItem_49 (b_X2_takeItem_54 (Or.inr rfl) hk))
    · rw [if_neg q] at hk ⊢
      exact b_X2_takeItem_46 (fun _ => b_X2_takeItem_53 (b_X2_takeItem_54 (Or.inl rfl) hk)) (fun z => absurd rfl z)
  rw [h.1.2.1, h.1.2.2.1] at v1
  rw [if_neg v1] at hr
  subst hr
  exact b_X2_takeItem_38 (fun _ => b_X2_takeItem_53 (b_X2_takeItem_54 (Or.inl rfl) (k I J (fr_refl _ _) (fr_refl _ _) h.1 (fun z => by cases z)))) (fun z => absurd rfl z)
theorem s_X2_items {r : CR} (hB : CB a S R) (h : CSt a kd key pl m I J 0 [] [] (0, [])) (hr : its kd key m (m + 1) 0 [] [] (0, []) = r) (k0 : r.1 = false → ∀ I' J', fr (aRc a) I I' → fr (aRcj a) J J' → CTk kd key pl m I' J' r.2.1 → Q (some (some (.int (ii (pl r.2.1))))) (S, I', J', R, c)) (k1 : r.1 = true → ∀ I' J' i, fr (aRc a) I I' → fr (aRcj a) J J' → CSt a kd key pl m I' J' r.2.1 r.2.2.1 r.2.2.2.1 r.2.2.2.2 → X xs L (d + 7) 38 64 [.ref 8, .ref a, .int (ii i), .null] [] (S, I', J', R, c) Q) : X xs L (d + 7) 38 26 [.ref 8, .ref a, .int 0, .null] [] (S, I, J, R, c) Q := by
  have hL := hB.1
  have main : ∀ (f i : Nat) (I' : Nat → Nat → Int32) (J' : Nat → Nat → Int64) (n' : Nat) (ns : List Nd) (l : List Int32) (g : LeS), m < n' + f → i ≤ n' → fr (aRc a) I I' → fr (aRcj a) J J' → CSt a kd key pl m I' J' n' ns l g → its kd key m f n' ns l g = r → X xs L (d + 7) 38 26 [.ref 8, .ref a, .int (ii i), .null] [] (S, I', J', R, c) Q := by
    intro f
    induction f with
    | zero => intro i I' J' n' ns l g h1 h2 h3 h4 h5; have := h5.1.1.2.2.1; omega
    | succ f ih =>
      intro i I' J' n' ns l g h1 h2 h3 h4 h5 h6
      have hm := h5.1.1.2.2.2.1
      have hnm := h5.1.1.2.2.1
      rw [its] at h6
      have hend : kd n' = 0 → X xs L (d + 7) 38 64 [.ref 8, .ref a, .int (ii i), .null] [] (S, I', J', R, c) Q := by
        intro hk
        rw [if_pos hk] at h6
        subst h6
        exact k1 rfl I' J' i h3 h4 h5
      refine b_X2_read_26 (fun z => hend ?_) (fun _ => ?_)
      · have := (ii_le (n := 2000) (by omega) (by omega)).1 z
        rw [show n' = m by omega, ← h5.1.2.1]; exact h5.1.1.2.2.2.2
      refine b_X2_read_33 hL (s_X9_kind hL (TkC_in h5.1.1) ?_)
      rw [CTk_kind h5.1]
      refine b_X2_read_40 (fun z => hend z) (fun z => ?_)
      rw [if_neg z] at h6
      refine b_X2_read_43 hL (s_X2_takeItem hB h5 rfl (fun I2 J2 f1 f2 t1 t2 => ?_))
      generalize itm kd key m n' ns l g = w at h6 t1 t2 ⊢
      by_cases q : w.1 = true
      · rw [if_pos q] at h6 ⊢
        obtain ⟨u1, u2'⟩ := t2 q
        refine b_X2_read_47 (fun _ => b_X2_read_58 ?_) (fun z => absurd (by decide) z)
        rw [ii_add1]
        exact ih (i + 1) I2 J2 _ _ _ _ (by omega) (by omega) (fr_trans h3 f1) (fr_trans h4 f2) u2' h6
      · rw [if_neg q] at h6 ⊢
        subst h6
        refine b_X2_read_47 (fun z => absurd rfl z) (fun _ => b_X2_read_50 hL (s_X9_place hL (TkC_in t1.1) ?_))
        rw [CTk_place t1]
        exact b_X2_read_57 (k0 (by cases h9 : w.1 with | false => rfl | true => exact absurd h9 q) I2 J2 (fr_trans h3 f1) (fr_trans h4 f2) t1)
  exact main (m + 1) 0 I J 0 [] [] (0, []) (by omega) (by omega) (fr_refl _ _) (fr_refl _ _) h hr
end CRD2
