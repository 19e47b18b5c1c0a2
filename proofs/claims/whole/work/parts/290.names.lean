/-! ===== P3: what the code of a circuit is made of ===== -/
def cop (x : Int32) : Prop := x = -33 ∨ x = -38 ∨ x = -94 ∨ x = -124 ∨ x = -48 ∨ x = -49
def cdP (kd : Nat → Int32) (m : Nat) (x : Int32) : Prop := cop x ∨ ∃ k, k < m ∧ x = ii k ∧ kd k = 2
theorem fre_out (s : Nat) : ∀ (w : List Int32) (dp : Nat) (x : Int32), x ∈ (fre s w dp).2.2 → ∃ a, a ∈ w ∧ s ≤ strg a ∧ x = -a
  | [], _, x, h => by simp [fre] at h
  | a :: w, dp, x, h => by
    rw [fre] at h
    split at h
    · rename_i q
      rcases List.mem_cons.1 h with h | h
      · exact ⟨a, List.mem_cons_self .., q, h⟩
      · obtain ⟨b, h1, h2⟩ := fre_out s w _ x h
        exact ⟨b, List.mem_cons_of_mem _ h1, h2⟩
    · simp at h
section SYP
variable {kd : Nat → Int32} {lf : Nat → LeS → Option (Int32 × LeS)} {m : Nat} {P : Int32 → Prop}
theorem sy_P (h0 : kd m = 0) (hop : ∀ a, sgw a → 1 ≤ strg a → P (-a)) (hlf : ∀ n g x g', n ≤ m → lf n g = some (x, g') → n < m ∧ P x) : ∀ (f : Nat) (b : Bool) (n : Nat) (w : List Int32) (dp : Nat) (l : List Int32) (g : LeS), n ≤ m → (∀ x ∈ w, sgw x) → (∀ x ∈ l, P x) → (∀ x ∈ (sy kd lf f b n w dp l g).2.2.1, P x) ∧ (sy kd lf f b n w dp l g).2.1 ≤ m
  | 0, _, n, w, dp, l, g, hn, hw, hl => ⟨hl, hn⟩
  | f + 1, true, n, w, dp, l, g, hn, hw, hl => by
    rw [sy]
    split
    · rename_i hk
      split
      · exact ⟨hl, hn⟩
      · refine sy_P h0 hop hlf f true (n + 1) (kd n :: w) (dp + 1) l g (lt_of_kd h0 hn (by rcases hk with q | q <;> rw [q] <;> decide)) (fun x hx => ?_) hl
        rcases List.mem_cons.1 hx with q | q
        · rw [q]; rcases hk with z | z <;> rw [z]
          · exact Or.inl rfl
          · exact Or.inr (Or.inr (Or.inl rfl))
        · exact hw x q
    · cases hq : lf n g with
      | none => exact ⟨hl, hn⟩
      | some p =>
        obtain ⟨x, g'⟩ := p
        have h1 := hlf n g x g' hn hq
        refine sy_P h0 hop hlf f false (n + 1) w dp (l ++ [x]) g' h1.1 hw (fun y hy => ?_)
        rcases List.mem_append.1 hy with q | q
        · exact hl y q
        · rw [List.mem_singleton.1 q]; exact h1.2
  | f + 1, false, n, w, dp, l, g, hn, hw, hl => by
    have hfr : ∀ s, 1 ≤ s → ∀ y ∈ l ++ (fre s w dp).2.2, P y := by
      intro s hs y hy
      rcases List.mem_append.1 hy with q | q
      · exact hl y q
      · obtain ⟨a, a1, a2, a3⟩ := fre_out s w dp y q
        rw [a3]; exact hop a (hw a a1) (by omega)
    rw [sy]
    split
    · rename_i hk
      split
      · exact ⟨hfr 1 (by omega), hn⟩
      · refine sy_P h0 hop hlf f false (n + 1) _ _ _ g (lt_of_kd h0 hn (by rw [hk]; decide)) (fun x hx => hw x (fre_mem 1 w dp x (List.mem_of_mem_tail hx))) (hfr 1 (by omega))
    · split
      · rename_i hk
        have hk2 := isOp_iff.1 hk
        refine sy_P h0 hop hlf f true (n + 1) _ _ _ g (lt_of_kd h0 hn (by rcases hk2 with q | q | q <;> rw [q] <;> decide)) (fun x hx => ?_) (hfr _ (by rcases hk2 with q | q | q <;> rw [q] <;> decide))
        rcases List.mem_cons.1 hx with q | q
        · rw [q]; rcases hk2 with z | z | z <;> rw [z]
          · exact Or.inr (Or.inr (Or.inr (Or.inr rfl)))
          · exact Or.inr (Or.inr (Or.inr (Or.inl rfl)))
          · exact Or.inr (Or.inl rfl)
        · exact hw x (fre_mem _ w dp x q)
      · exact ⟨hfr 1 (by omega), hn⟩
end SYP
theorem cop_sg {a : Int32} (h : sgw a) (h1 : 1 ≤ strg a) : cop (-a) := by
  rcases h with q | q | q | q | q <;> subst q
  · exact Or.inl rfl
  · exact Or.inr (Or.inl rfl)
  · exact absurd h1 (by decide)
  · exact Or.inr (Or.inr (Or.inl rfl))
  · exact Or.inr (Or.inr (Or.inr (Or.inl rfl)))
section ITP
variable {kd : Nat → Int32} {key : Nat → Int64} {m : Nat}
theorem lfC_P (h0 : kd m = 0) (n : Nat) (g : LeS) (x : Int32) (g' : LeS) (hn : n ≤ m) (h : lfC kd key n g = some (x, g')) : n < m ∧ cdP kd m x := by
  unfold lfC at h
  split at h
  · unfold atC at h
    split at h
    · rename_i h5
      have hlt : n < m := lt_of_kd h0 hn (by rw [h5]; decide)
      split at h
      · rename_i hk
        have hx : (-(key n)).toInt32 = x := by simpa using congrArg (fun z => z.map Prod.fst) h
        refine ⟨hlt, Or.inl ?_⟩
        rw [← hx]
        rcases hk with q | q <;> rw [q]
        · exact Or.inr (Or.inr (Or.inr (Or.inr (Or.inl rfl))))
        · exact Or.inr (Or.inr (Or.inr (Or.inr (Or.inr rfl))))
      · cases h
    · split at h
      · rename_i h2
        have hx : ii n = x := by simpa using congrArg (fun z => z.map Prod.fst) h
        have hlt : n < m := lt_of_kd h0 hn (by rw [h2]; decide)
        exact ⟨hlt, Or.inr ⟨n, hlt, hx.symm, h2⟩⟩
      · cases h
  · cases h
theorem mad_P {k n : Nat} {ns : List Nd} {l : List Int32} {g : LeS} (h0 : kd m = 0) (hn : n ≤ m) (hl : ∀ x ∈ l, cdP kd m x) (h : (mad kd key m k n ns l g).1 = true) : (∀ x ∈ (mad kd key m k n ns l g).2.2.2.1, cdP kd m x) ∧ (mad kd key m k n ns l g).2.1 ≤ m := by
  unfold mad at h ⊢
  split at h
  · rename_i hd
    rw [if_pos hd]
    split at h
    · rename_i h61
      rw [if_pos h61]
      have h1 : n < m := lt_of_kd h0 hn (by rw [hd.1]; decide)
      have h2 : n + 1 < m := lt_of_kd h0 h1 (by rw [h61]; decide)
      have hs := sy_P (P := cdP kd m) (lf := lfC kd key) h0 (fun a q1 q2 => Or.inl (cop_sg q1 q2)) (lfC_P h0) (m + 1 - (n + 2)) true (n + 2) [] 0 l g h2 (fun x hx => by simp at hx) hl
      split at h
      · rename_i hq
        rw [if_pos hq]
        exact ⟨hs.1, lt_of_kd h0 hs.2 (by show ¬ kd (sy1 kd (lfC kd key) m true (n + 2) [] 0 l g).2.1 = 0; rw [hq.2]; decide)⟩
      · cases h
    · cases h
  · cases h
theorem inp_le {cs : Nat} (h0 : kd m = 0) : ∀ (f n : Nat) (ns : List Nd), n ≤ m → (inp kd key cs f n ns).1 = true → (inp kd key cs f n ns).2.1 ≤ m
  | 0, n, ns, hn, h => by cases h
  | f + 1, n, ns, hn, h => by
    rw [inp] at h ⊢
    split at h
    · rename_i hd
      rw [if_pos hd]
      have h1 : n < m := lt_of_kd h0 hn (by rw [hd.1]; decide)
      split at h
      · rename_i h44
        rw [if_pos h44]
        exact inp_le h0 f (n + 2) _ (lt_of_kd h0 h1 (by rw [h44]; decide)) h
      · rename_i h44
        rw [if_neg h44]
        split at h
        · rename_i h59
          rw [if_pos h59]
          exact lt_of_kd h0 h1 (by rw [h59]; decide)
        · cases h
    · cases h
theorem itm_P {n : Nat} {ns : List Nd} {l : List Int32} {g : LeS} (h0 : kd m = 0) (hn : n ≤ m) (hl : ∀ x ∈ l, cdP kd m x) (h : (itm kd key m n ns l g).1 = true) : (∀ x ∈ (itm kd key m n ns l g).2.2.2.1, cdP kd m x) ∧ (itm kd key m n ns l g).2.1 ≤ m := by
  unfold itm at h ⊢
  split at h
  · rename_i q
    rw [if_pos q]
    exact ⟨hl, inp_le h0 _ _ _ (lt_of_kd h0 hn (by rw [q.1]; decide)) h⟩
  · rename_i q
    rw [if_neg q]
    split at h
    · rename_i q1
      rw [if_pos q1]
      exact mad_P h0 (lt_of_kd h0 hn (by rw [q1.1]; decide)) hl h
    · rename_i q1
      rw [if_neg q1]
      split at h
      · rename_i q2
        rw [if_pos q2]
        exact mad_P h0 (lt_of_kd h0 hn (by rw [q2.1]; decide)) hl h
      · cases h
theorem its_P (h0 : kd m = 0) : ∀ (f n : Nat) (ns : List Nd) (l : List Int32) (g : LeS), n ≤ m → (∀ x ∈ l, cdP kd m x) → (its kd key m f n ns l g).1 = true → ∀ x ∈ (its kd key m f n ns l g).2.2.2.1, cdP kd m x
  | 0, n, ns, l, g, hn, hl, h => by cases h
  | f + 1, n, ns, l, g, hn, hl, h => by
    rw [its] at h ⊢
    split at h
    · rename_i q
      rw [if_pos q]; exact hl
    · rename_i q
      rw [if_neg q]
      split at h
      · rename_i q1
        rw [if_pos q1]
        have := itm_P h0 hn hl q1
        exact its_P h0 f _ _ _ _ this.2 this.1 h
      · rename_i q1
        exact absurd h q1
end ITP
/-! ===== P2: nodes for names ===== -/
def rsl (vs : List Int64) (key : Nat → Int64) : List Int32 → Option Nat × List Int32
  | [] => (none, [])
  | x :: l => if x < 0 then ((rsl vs key l).1, x :: (rsl vs key l).2) else match ixl (key x.toNatClampNeg) vs with
    | none => (some x.toNatClampNeg, [])
    | some v => ((rsl vs key l).1, ii v :: (rsl vs key l).2)
theorem cop_neg {x : Int32} (h : cop x) : x < 0 := by
  rcases h with q | q | q | q | q | q <;> subst q <;> decide
section PNN
variable {xs : Nat → Int32} {L d : Nat} {S : Nat → Shp} {I : Nat → Nat → Int32} {J : Nat → Nat → Int64} {R : Nat → Nat → Nat} {c : Nat × Nat} {Q : Option (Option Value) → MH → Prop} {kd : Nat → Int32} {key : Nat → Int64} {pl : Nat → Nat} {m n a : Nat} {ns : List Nd} {l : List Int32} {g : LeS}
theorem CdL_get {I : Nat → Nat → Int32} {r i : Nat} {l : List Int32} {x : Int32} (h : CdL I r l) (hx : l[i]? = some x) : I (r + 1) i = x := h.2 i x hx
theorem s_X2_putNodes (hB : CB a S R) (h : CSt a kd key pl m I J n ns l g) (hl : ∀ x ∈ l, cdP kd m x) (k0 : ∀ t, (rsl (ns.map Prod.fst) key l).1 = some t → t ≤ m → ∀ I', fr (fun x _ => x = a + 6) I I' → Q (some (some (.int (ii (pl t))))) (S, I', J, R, c)) (k1 : (rsl (ns.map Prod.fst) key l).1 = none → ∀ I', fr (fun x _ => x = a + 6) I I' → CdL I' (a + 5) (rsl (ns.map Prod.fst) key l).2 → Q (some (some (.int (-2)))) (S, I', J, R, c)) : X xs L (d + 1) 44 0 [.ref 8, .null, .null, .null] [] (S, I, J, R, c) Q := by
  obtain ⟨hL, hY, hR6, hR1, ha, hcd⟩ := hB
  obtain ⟨hT, hC, hP, hn40, hcl, hg, hg2, hln⟩ := h
  have hm := hT.1.2.2.2.1
  have hnm := hT.1.2.2.1
  refine b_X2_putNodesForNames_0 ?_
  have main : ∀ (rest rs : List Int32) (v2 v3 : Value) (I' : Nat → Nat → Int32), rs.length + rest.length = l.length → fr (fun x _ => x = a + 6) I I' → CdL I' (a + 5) (rs ++ rest) → (∀ x ∈ rest, cdP kd m x) → (rsl (ns.map Prod.fst) key l).1 = (rsl (ns.map Prod.fst) key rest).1 → ((rsl (ns.map Prod.fst) key rest).1 = none → (rsl (ns.map Prod.fst) key l).2 = rs ++ (rsl (ns.map Prod.fst) key rest).2) → X xs L (d + 1) 44 2 [.ref 8, .int (ii rs.length), v2, v3] [] (S, I', J, R, c) Q := by
    intro rest
    induction rest with
    | nil =>
      intro rs v2 v3 I' h1 h2 h3 h4 h5 h6
      refine b_X2_putNodesForNames_2 hL hR1 hcd (fun _ => b_X2_putNodesForNames_72 ?_) (fun z => ?_)
      · refine k1 h5 I' h2 ?_
        rw [h6 rfl]; exact h3
      · rw [h3.1, List.append_nil] at z
        exact absurd (Int32.le_refl _) z
    | cons x rest ih =>
      intro rs v2 v3 I' h1 h2 h3 h4 h5 h6
      rw [List.length_cons] at h1
      have hlen : (rs ++ x :: rest).length = l.length := by rw [List.length_append, List.length_cons]; omega
      refine b_X2_putNodesForNames_2 hL hR1 hcd (fun z => ?_) (fun _ => ?_)
      · rw [h3.1, hlen, ii_le (by omega) (by omega)] at z; omega
      have hx : I' (a + 5 + 1) rs.length = x := h3.2 rs.length x (by rw [List.getElem?_append, if_neg (by omega)]; simp)
      refine b_X2_putNodesForNames_13 hL hR1 hcd (s_X5_at hcd (ii_inb (by omega) (by omega)) ?_)
      have e : f_X5_at I' (a + 5) (ii rs.length) = x := by unfold f_X5_at; rw [ii_nat (by omega), hx]
      rw [e]
      have hcx := h4 x (List.mem_cons_self ..)
      refine b_X2_putNodesForNames_21 (fun z => ?_) (fun z => ?_)
      · refine b_X2_putNodesForNames_66 ?_
        rw [ii_add1]
        rw [rsl, if_pos z] at h5 h6
        have := ih (rs ++ [x]) (.int x) v3 I' (by rw [List.length_append, List.length_singleton]; omega) h2 (by rw [List.append_assoc]; exact h3) (fun y hy => h4 y (List.mem_cons_of_mem _ hy)) h5 (fun q => by rw [h6 q, List.append_assoc]; rfl)
        rw [List.length_append, List.length_singleton] at this
        exact this
      · obtain ⟨t, ht, hxt, hk2⟩ : ∃ t, t < m ∧ x = ii t ∧ kd t = 2 := by
          rcases hcx with q | q
          · exact absurd (cop_neg q) z
          · exact q
        have htn : x.toNatClampNeg = t := by rw [hxt, ii_nat (by omega)]
        rw [rsl, if_neg z, htn] at h5 h6
        have e6 : I' 6 = I 6 := fr_row h2 6 (by intro k; omega)
        refine b_X2_putNodesForNames_26 hL hR6 (s_X9_keyAt hL (by rw [hxt]; exact ii_inb (by omega) (by omega)) ?_)
        have e2 : f_X9_keyAt J x = key t := by unfold f_X9_keyAt; rw [htn, hT.2.2.1]
        rw [e2]
        have hCn : I' a 0 = ii (ns.map Prod.fst).length := by rw [h2 _ _ (by omega), List.length_map]; exact hC.1
        refine b_X2_putNodesForNames_38 hY (s_X1_find (vs := ns.map Prod.fst) hY hCn (NL_nd hC) (by rw [List.length_map]; omega) (fun v q => ?_) (fun q => ?_))
        · have hv := ixl_lt _ _ _ q
          rw [List.length_map] at hv
          rw [q] at h5 h6
          refine b_X2_putNodesForNames_41 (fun _ => ?_) (fun z2 => absurd (ii_n2 (by omega)) z2)
          refine b_X2_putNodesForNames_57 hL hR1 hcd (b_X5_set_0 hcd (ii_inb (by omega) (by omega)) ?_)
          rw [ii_nat (by omega)]
          refine b_X2_putNodesForNames_66 ?_
          rw [ii_add1]
          have := ih (rs ++ [ii v]) (.int x) (.int (ii v)) (u2 I' (a + 5 + 1) rs.length (ii v)) (by rw [List.length_append, List.length_singleton]; omega) (fr_u _ h2 rfl) ⟨?_, fun i y hy => ?_⟩ (fun y hy => h4 y (List.mem_cons_of_mem _ hy)) h5 (fun q => by rw [h6 q, List.append_assoc]; rfl)
          · rw [List.length_append, List.length_singleton] at this
            exact this
          · rw [u2_a _ _ _ _ (by omega), h3.1]
            simp
          · rw [u2_if]
            rcases Nat.lt_or_ge i rs.length with hi | hi
            · rw [if_neg (by omega)]
              refine h3.2 i y ?_
              rw [List.append_assoc, List.getElem?_append, if_pos hi] at hy
              rw [List.getElem?_append, if_pos hi]; exact hy
            · by_cases hi2 : i = rs.length
              · subst hi2
                rw [if_pos ⟨rfl, rfl⟩]
                rw [List.append_assoc, List.getElem?_append, if_neg (by omega)] at hy
                simpa using hy
              · rw [if_neg (by omega)]
                refine h3.2 i y ?_
                rw [List.append_assoc, List.getElem?_append, if_neg (by omega)] at hy
                rw [List.getElem?_append, if_neg (by omega)]
                rw [show i - rs.length = (i - rs.length - 1) + 1 by omega] at hy ⊢
                simpa using hy
        · rw [q] at h5
          refine b_X2_putNodesForNames_41 (fun z2 => absurd rfl z2) (fun _ => ?_)
          refine b_X2_putNodesForNames_48 hL (s_X9_placeAt hL (by rw [hxt]; exact ii_inb (by omega) (by omega)) ?_)
          have e3 : f_X9_placeAt I' x = ii (pl t) := by unfold f_X9_placeAt; rw [htn, e6, hT.2.2.2 t (by omega)]
          rw [e3]
          exact b_X2_putNodesForNames_56 (k0 t h5 (by omega) I' h2)
  exact main l [] _ _ I (by simp) (fr_refl _ _) hcl hl rfl (fun _ => rfl)
end PNN
