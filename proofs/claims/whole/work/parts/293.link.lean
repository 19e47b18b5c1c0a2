/-! ===== P3: ranges of the nodes ===== -/
theorem sy_len {kd : Nat → Int32} {lf : Nat → LeS → Option (Int32 × LeS)} : ∀ (f : Nat) (b : Bool) (n : Nat) (w : List Int32) (dp : Nat) (l : List Int32) (g : LeS), l.length ≤ (sy kd lf f b n w dp l g).2.2.1.length
  | 0, _, _, _, _, _, _ => Nat.le_refl _
  | f + 1, true, n, w, dp, l, g => by
    rw [sy]
    split
    · split
      · exact Nat.le_refl _
      · exact sy_len f _ _ _ _ _ _
    · cases hq : lf n g with
      | none => exact Nat.le_refl _
      | some p =>
        have := sy_len (kd := kd) (lf := lf) f false (n + 1) w dp (l ++ [p.1]) p.2
        rw [List.length_append] at this
        exact Nat.le_trans (Nat.le_add_right _ _) this
  | f + 1, false, n, w, dp, l, g => by
    have ha : ∀ r : List Int32, l.length ≤ (l ++ r).length := fun r => by rw [List.length_append]; omega
    rw [sy]
    split
    · split
      · exact ha _
      · exact Nat.le_trans (ha _) (sy_len f _ _ _ _ _ _)
    · split
      · exact Nat.le_trans (ha _) (sy_len f _ _ _ _ _ _)
      · exact ha _
/-- the ranges of nodes are in the code, their kinds are kinds -/
def rgP (ns : List Nd) (n : Nat) : Prop := ∀ x ∈ ns, x.2.2.2.1 ≤ x.2.2.2.2 ∧ x.2.2.2.2 ≤ n ∧ x.2.1 ≤ 2
theorem rgP_mono {ns : List Nd} {n n' : Nat} (h : rgP ns n) (hn : n ≤ n') : rgP ns n' := fun x hx => ⟨(h x hx).1, Nat.le_trans (h x hx).2.1 hn, (h x hx).2.2⟩
theorem rgP_snoc {ns : List Nd} {n : Nat} {x : Nd} (h : rgP ns n) (h1 : x.2.2.2.1 ≤ x.2.2.2.2) (h2 : x.2.2.2.2 ≤ n) (h3 : x.2.1 ≤ 2) : rgP (ns ++ [x]) n := fun y hy => by
  rcases List.mem_append.1 hy with q | q
  · exact h y q
  · rw [List.mem_singleton.1 q]; exact ⟨h1, h2, h3⟩
section ITR
variable {kd : Nat → Int32} {key : Nat → Int64} {m : Nat}
theorem inp_rg {cs : Nat} : ∀ (f n : Nat) (ns : List Nd), rgP ns cs → rgP (inp kd key cs f n ns).2.2 cs
  | 0, n, ns, h => h
  | f + 1, n, ns, h => by
    have h1 : rgP (ns ++ [(key n, 0, n, cs, cs)]) cs := rgP_snoc h (Nat.le_refl _) (Nat.le_refl _) (by show 0 ≤ 2; omega)
    rw [inp]
    split
    · split
      · exact inp_rg f _ _ h1
      · split
        · exact h1
        · exact h
    · exact h
theorem mad_rg {k n : Nat} {ns : List Nd} {l : List Int32} {g : LeS} (hk : k ≤ 2) (h : rgP ns l.length) : rgP (mad kd key m k n ns l g).2.2.1 (mad kd key m k n ns l g).2.2.2.1.length ∧ l.length ≤ (mad kd key m k n ns l g).2.2.2.1.length := by
  have hs : l.length ≤ (sy1 kd (lfC kd key) m true (n + 2) [] 0 l g).2.2.1.length := sy_len _ _ _ _ _ _ _
  unfold mad
  split
  · split
    · split
      · exact ⟨rgP_snoc (rgP_mono h hs) hs (Nat.le_refl _) hk, hs⟩
      · exact ⟨h, Nat.le_refl _⟩
    · exact ⟨h, Nat.le_refl _⟩
  · exact ⟨h, Nat.le_refl _⟩
theorem itm_rg {n : Nat} {ns : List Nd} {l : List Int32} {g : LeS} (h : rgP ns l.length) : rgP (itm kd key m n ns l g).2.2.1 (itm kd key m n ns l g).2.2.2.1.length := by
  unfold itm
  split
  · exact inp_rg _ _ _ h
  · split
    · exact (mad_rg (by omega) h).1
    · split
      · exact (mad_rg (by omega) h).1
      · exact h
theorem its_rg : ∀ (f n : Nat) (ns : List Nd) (l : List Int32) (g : LeS), rgP ns l.length → rgP (its kd key m f n ns l g).2.2.1 (its kd key m f n ns l g).2.2.2.1.length
  | 0, n, ns, l, g, h => h
  | f + 1, n, ns, l, g, h => by
    rw [its]
    split
    · exact h
    · split
      · exact its_rg f _ _ _ _ (itm_rg h)
      · exact itm_rg h
end ITR
theorem rsl_len {vs : List Int64} {key : Nat → Int64} : ∀ (l : List Int32), (rsl vs key l).1 = none → (rsl vs key l).2.length = l.length
  | [], _ => rfl
  | x :: l, h => by
    rw [rsl] at h ⊢
    split at h
    · rename_i q
      rw [if_pos q, List.length_cons, List.length_cons, rsl_len l h]
    · rename_i q
      rw [if_neg q]
      cases hq : ixl (key x.toNatClampNeg) vs with
      | none => rw [hq] at h; cases h
      | some v =>
        rw [hq] at h
        simp only at h ⊢
        rw [List.length_cons, List.length_cons, rsl_len l h]
theorem rsl_P {vs : List Int64} {key : Nat → Int64} : ∀ (l : List Int32), (∀ x ∈ l, x < 0 → cop x) → ∀ x ∈ (rsl vs key l).2, lvP vs.length x
  | [], _, x, h => by simp [rsl] at h
  | y :: l, hl, x, h => by
    rw [rsl] at h
    split at h
    · rename_i q
      rcases List.mem_cons.1 h with h | h
      · rw [h]; exact Or.inl (hl y (List.mem_cons_self ..) q)
      · exact rsl_P l (fun z hz => hl z (List.mem_cons_of_mem _ hz)) x h
    · cases hq : ixl (key y.toNatClampNeg) vs with
      | none => rw [hq] at h; simp at h
      | some v =>
        rw [hq] at h
        rcases List.mem_cons.1 h with h | h
        · exact Or.inr ⟨v, ixl_lt _ _ _ hq, h⟩
        · exact rsl_P l (fun z hz => hl z (List.mem_cons_of_mem _ hz)) x h
theorem cdP_neg {kd : Nat → Int32} {m : Nat} (hm : m ≤ 2000) {l : List Int32} (h : ∀ x ∈ l, cdP kd m x) : ∀ x ∈ l, x < 0 → cop x := by
  intro x hx hn
  rcases h x hx with q | ⟨k, hk, e, -⟩
  · exact q
  · rw [e] at hn; exact absurd hn (ii_nn (by omega))
/-! ===== P2: link ===== -/
def adj (ns : List Nd) (l : List Int32) (i j : Nat) : Bool := match ns[i]? with
  | some x => decide (j < ns.length) && (List.range (x.2.2.2.2 - x.2.2.2.1)).any (fun p => decide (l[x.2.2.2.1 + p]? = some (ii j)))
  | none => false
theorem adj_iff {ns : List Nd} {l : List Int32} {i j : Nat} {x : Nd} (h : ns[i]? = some x) : adj ns l i j = true ↔ j < ns.length ∧ hasL l x.2.2.2.1 x.2.2.2.2 j := by
  unfold adj hasL
  rw [h]
  simp only [Bool.and_eq_true, List.any_eq_true, List.mem_range, decide_eq_true_iff]
  constructor
  · rintro ⟨h0, p, h1, h2⟩; exact ⟨h0, x.2.2.2.1 + p, by omega, by omega, h2⟩
  · rintro ⟨h0, p, h1, h2, h3⟩; exact ⟨h0, p - x.2.2.2.1, by omega, by rw [show x.2.2.2.1 + (p - x.2.2.2.1) = p by omega]; exact h3⟩
theorem adj_lt {ns : List Nd} {l : List Int32} {i j : Nat} (h : adj ns l i j = true) : j < ns.length := by
  cases hx : ns[i]? with
  | none => unfold adj at h; rw [hx] at h; cases h
  | some x => exact ((adj_iff hx).1 h).1
def wadj (ns : List Nd) (l : List Int32) (i j : Nat) : Bool := adj ns l i j && decide (ndk ns i = 1) && decide (ndk ns j = 1)
def rnk (ns : List Nd) (l : List Int32) (i : Nat) : Nat := if ndk ns i = 1 then 1 + fb_ct (fun j => wsh (wadj ns l) ns.length i j) 64 else 0
def psn (ns : List Nd) (l : List Int32) (n : Nat) : Nat := fb_ct (fun x => decide (rnk ns l x < rnk ns l n)) ns.length + fb_ct (fun x => decide (rnk ns l x = rnk ns l n)) n
/-- what link leaves -/
def LK (I : Nat → Nat → Int32) (J : Nat → Nat → Int64) (a : Nat) (ns : List Nd) (l : List Int32) : Prop := (∀ i j, i < ns.length → j < 64 → tb (J (a + 7) i) j = wsh (adj ns l) ns.length i j) ∧ (∀ i j, i < ns.length → j < 64 → tb (J (a + 8) i) j = wsh (wadj ns l) ns.length i j) ∧ ∀ n, n < ns.length → rnk ns l n ≤ ns.length → I (a + 9) (psn ns l n) = ii n
section LINK
variable {xs : Nat → Int32} {L d : Nat} {S : Nat → Shp} {I : Nat → Nat → Int32} {J : Nat → Nat → Int64} {R : Nat → Nat → Nat} {c : Nat × Nat} {Q : Option (Option Value) → MH → Prop} {a : Nat} {ns : List Nd} {l : List Int32}
theorem ndk_at {i : Nat} {x : Nd} (h : ns[i]? = some x) : ndk ns i = x.2.1 := by unfold ndk; rw [h]
theorem ge_lt {α : Type} {l : List α} {i : Nat} (h : i < l.length) : l[i]? = some l[i] := List.getElem?_eq_getElem h
theorem s_X1_putInOrder (hY : LyCi S R a) (hC : CRd I J a ns) (hn : ns.length ≤ 40) (hk : ∀ x ∈ ns, x.2.1 ≤ 2) (h8 : ∀ i j, i < ns.length → j < 64 → tb (J (a + 8) i) j = wsh (wadj ns l) ns.length i j) (k : ∀ I', fr (fun x _ => x = a + 9) I I' → (∀ n, n < ns.length → rnk ns l n ≤ ns.length → I' (a + 9) (psn ns l n) = ii n) → Q (some none) (S, I', J, R, c)) : X xs L (d + 2) 35 0 [.ref a, .null, .null, .null] [] (S, I, J, R, c) Q := by
  have hrk : ∀ (I' : Nat → Nat → Int32) (n : Nat), fr (fun x _ => x = a + 9) I I' → n < ns.length → f_X1_rankOf I' J a (ii n) = ii (rnk ns l n) := by
    intro I' n q hn2
    have hx := ge_lt hn2
    have hkk := hk _ (List.getElem_mem hn2)
    unfold f_X1_rankOf rnk
    rw [ii_nat (by omega), q (a + 2) n (by omega), (hC.2 n _ hx).2.1, ndk_at hx, bc_eq]
    have e : fb_ct (tb (J (a + 8) n)) 64 = fb_ct (fun j => wsh (wadj ns l) ns.length n j) 64 := fb_ct_cong (fun j hj => h8 n j hn2 hj)
    by_cases h1 : ns[n].2.1 = 1
    · rw [if_neg (by rw [h1]; decide), if_pos h1, e, ii_one, ii_add]
    · rw [if_pos (by rw [ii_one, ii_inj (by omega) (by omega)]; exact h1), if_neg h1]; rfl
  have hrb : ∀ n, rnk ns l n ≤ 65 := by
    intro n; unfold rnk
    split
    · have := fb_ct_le (fun j => wsh (wadj ns l) ns.length n j) 64; omega
    · omega
  refine b_X1_putInOrder_0 ?_
  -- how many are placed before rank r, node n
  let pp : Nat → Nat → Nat := fun r n => fb_ct (fun x => decide (rnk ns l x < r)) ns.length + fb_ct (fun x => decide (rnk ns l x = r)) n
  have pp0 : ∀ r n, pp r n = fb_ct (fun x => decide (rnk ns l x < r)) ns.length + fb_ct (fun x => decide (rnk ns l x = r)) n := fun _ _ => rfl
  have ppS : ∀ r n, pp r (n + 1) = pp r n + (if rnk ns l n = r then 1 else 0) := by
    intro r n
    rw [pp0, pp0, fb_ct_succ]
    by_cases q : rnk ns l n = r <;> simp [q] <;> omega
  have ppN : ∀ r, pp r ns.length = pp (r + 1) 0 := by
    intro r
    rw [pp0, pp0]
    rw [← fb_ct_or (fun x _ => by simp; omega)]
    show _ = _ + 0
    rw [Nat.add_zero]
    refine fb_ct_cong (fun x _ => ?_)
    by_cases q1 : rnk ns l x < r
    · have : rnk ns l x < r + 1 := by omega
      simp [q1, this]
    · by_cases q2 : rnk ns l x = r
      · simp [q2]
      · have : ¬ rnk ns l x < r + 1 := by omega
        simp [q1, q2, this]
  have ppM : ∀ r n n', n ≤ n' → pp r n ≤ pp r n' := fun r n n' h => by
    rw [pp0, pp0]
    have := fb_ct_mono (fun x => decide (rnk ns l x = r)) h
    omega
  have ppB : ∀ r, pp r 0 ≤ ns.length := fun r => by
    rw [pp0]; exact fb_ct_le _ _
  clear_value pp
  have inner : ∀ (r : Nat), r ≤ ns.length → ∀ (f n : Nat) (I' : Nat → Nat → Int32), ns.length - n = f → n ≤ ns.length → fr (fun x _ => x = a + 9) I I' → (∀ x, x < ns.length → (rnk ns l x < r ∨ (rnk ns l x = r ∧ x < n)) → I' (a + 9) (pp (rnk ns l x) x) = ii x) → (∀ I', fr (fun x _ => x = a + 9) I I' → (∀ x, x < ns.length → rnk ns l x < r + 1 → I' (a + 9) (pp (rnk ns l x) x) = ii x) → X xs L (d + 2) 35 4 [.ref a, .int (ii (pp (r + 1) 0)), .int (ii (r + 1)), .int (ii ns.length)] [] (S, I', J, R, c) Q) → X xs L (d + 2) 35 14 [.ref a, .int (ii (pp r n)), .int (ii r), .int (ii n)] [] (S, I', J, R, c) Q := by
    intro r hr f
    induction f with
    | zero =>
      intro n I' g1 g2 g3 g4 kk
      have e : n = ns.length := by omega
      refine b_X1_putInOrder_14 hY (fun _ => ?_) (fun z => ?_)
      · refine b_X1_putInOrder_47 ?_
        rw [ii_add1, e, ppN]
        refine kk I' g3 (fun x hx hrx => g4 x hx ?_)
        omega
      · rw [g3 _ _ (by omega), hC.1, e] at z; exact absurd (Int32.le_refl _) z
    | succ f ih =>
      intro n I' g1 g2 g3 g4 kk
      have hn2 : n < ns.length := by omega
      refine b_X1_putInOrder_14 hY (fun z => ?_) (fun _ => ?_)
      · rw [g3 _ _ (by omega), hC.1, ii_le (by omega) (by omega)] at z; omega
      refine b_X1_putInOrder_22 hY (s_X1_rankOf hY (ii_inb (by omega) (by omega)) (fun _ => ii_inb (by omega) (by omega)) ?_)
      rw [hrk I' n g3 hn2]
      have hb := hrb n
      refine b_X1_putInOrder_27 (fun z => ?_) (fun z => ?_)
      · rw [ii_inj (by omega) (by omega)] at z
        refine b_X1_putInOrder_41 ?_
        rw [ii_add1]
        have := ih (n + 1) I' (by omega) (by omega) g3 (fun x hx hrx => g4 x hx (by
          rcases hrx with q | q
          · exact Or.inl q
          · by_cases e : x = n
            · rw [e] at q; exact absurd q.1 z
            · exact Or.inr ⟨q.1, by omega⟩)) kk
        rw [ppS, if_neg z] at this
        exact this
      · rw [ii_inj (by omega) (by omega)] at z
        have z' := Classical.not_not.1 z
        have hp : pp r n < ns.length := by
          have h1 := ppS r n
          rw [if_pos z'] at h1
          have h2 := ppM r (n + 1) ns.length hn2
          rw [ppN] at h2
          have h3 := ppB (r + 1)
          omega
        refine b_X1_putInOrder_31 hY (ii_inb (by omega) (by omega)) ?_
        rw [ii_nat (by omega)]
        refine b_X1_putInOrder_41 ?_
        rw [ii_add1, ii_add1]
        have := ih (n + 1) (u2 I' (a + 9) (pp r n) (ii n)) (by omega) (by omega) (fr_u _ g3 rfl) (fun x hx hrx => ?_) kk
        · rw [ppS, if_pos z'] at this
          exact this
        · rw [u2_if]
          by_cases e : x = n
          · subst e
            rw [z', if_pos ⟨rfl, rfl⟩]
          · have hlt : pp (rnk ns l x) x < pp r n := by
              rcases hrx with q | q
              · have h1 := ppS (rnk ns l x) x
                rw [if_pos rfl] at h1
                have h2 := ppM (rnk ns l x) (x + 1) ns.length hx
                rw [ppN] at h2
                have h3 : pp (rnk ns l x + 1) 0 ≤ pp r 0 := by
                  rw [pp0, pp0]
                  have := fb_ct_sub (p := fun y => decide (rnk ns l y < rnk ns l x + 1)) (q := fun y => decide (rnk ns l y < r)) (n := ns.length) (fun y _ hy => by
                    have hy := of_decide_eq_true hy
                    exact decide_eq_true (by omega))
                  simp only [fb_ct] at this ⊢
                  omega
                have h4 := ppM r 0 n (by omega)
                omega
              · have hxn : x < n := by omega
                have h1 := ppS (rnk ns l x) x
                rw [if_pos rfl] at h1
                have h2 := ppM r (x + 1) n hxn
                rw [q.1] at h1 ⊢
                omega
            rw [if_neg (by omega)]
            exact g4 x hx (by
              rcases hrx with q | q
              · exact Or.inl q
              · exact Or.inr ⟨q.1, by omega⟩)
  have outer : ∀ (f r : Nat) (v3 : Value) (I' : Nat → Nat → Int32), ns.length + 1 - r = f → r ≤ ns.length + 1 → fr (fun x _ => x = a + 9) I I' → (∀ x, x < ns.length → rnk ns l x < r → I' (a + 9) (pp (rnk ns l x) x) = ii x) → X xs L (d + 2) 35 4 [.ref a, .int (ii (pp r 0)), .int (ii r), v3] [] (S, I', J, R, c) Q := by
    intro f
    induction f with
    | zero =>
      intro r v3 I' g1 g2 g3 g4
      have e : r = ns.length + 1 := by omega
      refine b_X1_putInOrder_4 hY (fun _ => b_X1_putInOrder_53 (k I' g3 (fun n hn2 hr => ?_))) (fun z => ?_)
      · have := g4 n hn2 (by omega)
        rw [pp0] at this
        exact this
      · rw [g3 _ _ (by omega), hC.1, e, ii_lt (by omega) (by omega)] at z; omega
    | succ f ih =>
      intro r v3 I' g1 g2 g3 g4
      refine b_X1_putInOrder_4 hY (fun z => ?_) (fun _ => b_X1_putInOrder_12 ?_)
      · rw [g3 _ _ (by omega), hC.1, ii_lt (by omega) (by omega)] at z; omega
      exact inner r (by omega) ns.length 0 I' (by omega) (by omega) g3 (fun x hx hrx => g4 x hx (by omega)) (fun I2 q1 q2 => ih (r + 1) _ I2 (by omega) (by omega) q1 q2)
  have hz : pp 0 0 = 0 := by
    rw [pp0]
    have : fb_ct (fun x => decide (rnk ns l x < 0)) ns.length = 0 := fb_ct_zero.2 (fun k _ => by simp)
    rw [this]; rfl
  have := outer (ns.length + 1) 0 .null I (by omega) (by omega) (fr_refl _ _) (fun x _ h => by omega)
  rw [hz] at this
  exact this
theorem s_X1_link (hY : LyCi S R a) (hcd : LyCd S R (a + 5)) (hC : CRd I J a ns) (hn : ns.length ≤ 40) (hl : CdL I (a + 5) l) (hl2 : l.length ≤ 2000) (hP : ∀ y ∈ l, lvP ns.length y) (hrg : rgP ns l.length) (k : ∀ I' J', fr (fun x _ => x = a + 9) I I' → fr (fun x _ => x = a + 7 ∨ x = a + 8) J J' → LK I' J' a ns l → Q (some none) (S, I', J', R, c)) : X xs L (d + 3) 31 0 [.ref a, .null, .null, .null] [] (S, I, J, R, c) Q := by
  have hP40 : ∀ y ∈ l, lvP 40 y := fun y hy => by
    rcases hP y hy with q | ⟨v, q1, q2⟩
    · exact Or.inl q
    · exact Or.inr ⟨v, by omega, q2⟩
  have hlv : ∀ (s e j : Nat), j < 64 → hasL l s e j → j < ns.length := by
    rintro s e j hj ⟨p, p1, p2, p3⟩
    rcases hP _ (List.mem_of_getElem? p3) with q | ⟨v, q1, q2⟩
    · exact absurd (cop_neg q) (ii_nn (by omega))
    · rw [ii_inj (by omega) (by omega)] at q2; omega
  have hkd : ∀ i, i < ns.length → I (a + 2) i = ii (ndk ns i) := fun i hi => by
    rw [(hC.2 i _ (ge_lt hi)).2.1, ndk_at (ge_lt hi)]
  have hkb : ∀ i, i < ns.length → ndk ns i ≤ 2 := fun i hi => by
    rw [ndk_at (ge_lt hi)]; exact (hrg _ (List.getElem_mem hi)).2.2
  have hki : ∀ i, i < ns.length → (I (a + 2) i = 1 ↔ ndk ns i = 1) := fun i hi => by
    have := hkb i hi
    rw [hkd i hi, ii_one, ii_inj (by omega) (by omega)]
  have hfin : ∀ (v1 : Int64) (x3 : Int32) (J' : Nat → Nat → Int64), fr (fun x _ => x = a + 7 ∨ x = a + 8) J J' → (∀ i j, i < ns.length → j < 64 → tb (J' (a + 7) i) j = adj ns l i j) → (∀ i j, i < ns.length → j < 64 → tb (J' (a + 8) i) j = wadj ns l i j) → X xs L (d + 3) 31 89 [.ref a, .long v1, .null, .int x3] [] (S, I, J', R, c) Q := by
    intro v1 x3 J' g1 g2 g3
    refine b_X1_link_89 hY (s_X1_close hY hY.1.2.2.2.2.2.2.2.1 hC.1 hn g2 (fun J2 f1 e1 => ?_))
    refine b_X1_link_97 hY (s_X1_close (s := wadj ns l) hY hY.1.2.2.2.2.2.2.2.2.1 hC.1 hn (fun i j hi hj => by rw [f1 _ _ (by omega)]; exact g3 i j hi hj) (fun J3 f2 e2 => ?_))
    have F3 : fr (fun x _ => x = a + 7 ∨ x = a + 8) J J3 := fr_trans g1 (fr_trans (fr_sub f1 (fun x k q => Or.inl q)) (fr_sub f2 (fun x k q => Or.inr q)))
    have hC3 : CRd I J3 a ns := ⟨hC.1, fun i x hx => by rw [F3 _ _ (by omega)]; exact hC.2 i x hx⟩
    refine b_X1_link_105 hY (s_X1_putInOrder (l := l) hY hC3 hn (fun x hx => (hrg x hx).2.2) e2 (fun I2 f3 e3 => ?_))
    refine b_X1_link_109 (k I2 J3 f3 F3 ⟨fun i j hi hj => ?_, e2, e3⟩)
    rw [f2 _ _ (by omega)]; exact e1 i j hi hj
  have loop2 : ∀ (v1 : Int64), (∀ j, j < 64 → (tb v1 j = true ↔ j < ns.length ∧ ndk ns j = 1)) → ∀ (f n : Nat) (J' : Nat → Nat → Int64), ns.length - n = f → n ≤ ns.length → fr (fun x _ => x = a + 7 ∨ x = a + 8) J J' → (∀ i j, i < n → j < 64 → tb (J' (a + 7) i) j = adj ns l i j) → (∀ i j, i < n → j < 64 → tb (J' (a + 8) i) j = wadj ns l i j) → X xs L (d + 3) 31 36 [.ref a, .long v1, .null, .int (ii n)] [] (S, I, J', R, c) Q := by
    intro v1 hv1 f
    induction f with
    | zero =>
      intro n J' g1 g2 g3 g4 g5
      have e : n = ns.length := by omega
      refine b_X1_link_36 hY (fun _ => ?_) (fun z => ?_)
      · subst e; exact hfin v1 _ J' g3 g4 g5
      · rw [hC.1, e] at z; exact absurd (Int32.le_refl _) z
    | succ f ih =>
      intro n J' g1 g2 g3 g4 g5
      have hn2 : n < ns.length := by omega
      have hx := ge_lt hn2
      have hr := hrg _ (List.getElem_mem hn2)
      have hb : inb (ii n) 40 = true := ii_inb (by omega) (by omega)
      have hC3 : CRd I J' a ns := ⟨hC.1, fun i x hx => by rw [g3 _ _ (by omega)]; exact hC.2 i x hx⟩
      refine b_X1_link_36 hY (fun z => ?_) (fun _ => ?_)
      · rw [hC.1, ii_le (by omega) (by omega)] at z; omega
      refine b_X1_link_44 hY (s_X1_leavesOf hY hcd hC3 hl hl2 hP40 (by omega) hx hr.1 hr.2.1 (fun y hy => ?_))
      have hya : ∀ j, j < 64 → tb y j = adj ns l n j := by
        intro j hj
        have h1 := hy j hj
        have h2 := adj_iff (l := l) (j := j) hx
        have h3 := hlv ns[n].2.2.2.1 ns[n].2.2.2.2 j hj
        cases q1 : tb y j with
        | false =>
          cases q2 : adj ns l n j with
          | false => rfl
          | true => rw [q1] at h1; exact absurd (h1.2 (h2.1 q2).2) (by decide)
        | true =>
          have := h1.1 q1
          rw [h2.2 ⟨h3 this, this⟩]
      have hstep : ∀ (v : Int64), (∀ j, j < 64 → tb v j = wadj ns l n j) → X xs L (d + 3) 31 82 [.ref a, .long v1, .null, .int (ii n)] [.long v, .int (ii n), .ref (a + 8)] (S, I, u2 J' (a + 7) n y, R, c) Q := by
        intro v hv
        refine b_X1_link_82 (n_sr0 := 40) hY.1.2.2.2.2.2.2.2.2.1 hb ?_
        rw [ii_nat (by omega), ii_add1]
        refine ih (n + 1) _ (by omega) (by omega) (fr_u _ (fr_u _ g3 (Or.inl rfl)) (Or.inr rfl)) (fun i j hi hj => ?_) (fun i j hi hj => ?_)
        · rw [u2_a _ _ _ _ (by omega), u2_if]
          by_cases e : i = n
          · rw [if_pos ⟨rfl, e⟩, e]; exact hya j hj
          · rw [if_neg (by omega)]; exact g4 i j (by omega) hj
        · rw [u2_if]
          by_cases e : i = n
          · rw [if_pos ⟨rfl, e⟩, e]; exact hv j hj
          · rw [if_neg (by omega), u2_a _ _ _ _ (by omega)]; exact g5 i j (by omega) hj
      refine b_X1_link_54 (n_sr0 := 40) hY.1.2.2.2.2.2.2.2.1 hb hY hb (fun z => ?_) (fun z => ?_)
      · rw [ii_nat (by omega), hki n hn2] at z
        rw [ii_nat (by omega)]
        refine b_X1_link_81 (hstep 0 (fun j hj => ?_))
        unfold wadj
        rw [tb_0]; simp [z]
      · rw [ii_nat (by omega), hki n hn2] at z
        have z' := Classical.not_not.1 z
        rw [ii_nat (by omega)]
        refine b_X1_link_70 hY hb ?_
        rw [ii_nat (by omega), u2_e]
        refine hstep _ (fun j hj => ?_)
        unfold wadj
        rw [tb_and, hya j hj, z']
        have h1 := hv1 j hj
        cases q : adj ns l n j with
        | false => rfl
        | true =>
          have hjn := adj_lt q
          cases q2 : tb v1 j with
          | true =>
            have := (h1.1 q2).2
            simp [this]
          | false =>
            have : ¬ ndk ns j = 1 := fun e => by rw [h1.2 ⟨hjn, e⟩] at q2; cases q2
            simp [this]
  have loop1 : ∀ (f n : Nat) (v1 : Int64), ns.length - n = f → n ≤ ns.length → (∀ j, j < 64 → (tb v1 j = true ↔ j < n ∧ ndk ns j = 1)) → X xs L (d + 3) 31 4 [.ref a, .long v1, .null, .int (ii n)] [] (S, I, J, R, c) Q := by
    intro f
    induction f with
    | zero =>
      intro n v1 g1 g2 g3
      have e : n = ns.length := by omega
      refine b_X1_link_4 hY (fun _ => b_X1_link_34 ?_) (fun z => ?_)
      · subst e
        exact loop2 v1 g3 _ 0 J rfl (by omega) (fr_refl _ _) (fun i j hi => by omega) (fun i j hi => by omega)
      · rw [hC.1, e] at z; exact absurd (Int32.le_refl _) z
    | succ f ih =>
      intro n v1 g1 g2 g3
      have hn2 : n < ns.length := by omega
      refine b_X1_link_4 hY (fun z => ?_) (fun _ => ?_)
      · rw [hC.1, ii_le (by omega) (by omega)] at z; omega
      refine b_X1_link_12 hY (ii_inb (by omega) (by omega)) (fun z => ?_) (fun z => ?_)
      · rw [ii_nat (by omega), hki n hn2] at z
        refine b_X1_link_28 ?_
        rw [ii_add1]
        refine ih (n + 1) v1 (by omega) (by omega) (fun j hj => ?_)
        rw [g3 j hj]
        constructor
        · rintro ⟨q1, q2⟩; exact ⟨by omega, q2⟩
        · rintro ⟨q1, q2⟩
          refine ⟨?_, q2⟩
          by_cases e : j = n
          · rw [e] at q2; exact absurd q2 z
          · omega
      · rw [ii_nat (by omega), hki n hn2] at z
        have z' := Classical.not_not.1 z
        refine b_X1_link_22 (b_X1_link_28 ?_)
        rw [ii_add1]
        refine ih (n + 1) _ (by omega) (by omega) (fun j hj => ?_)
        rw [tb_or, tb_one (by omega) hj, Bool.or_eq_true, g3 j hj, decide_eq_true_iff]
        constructor
        · rintro (⟨q1, q2⟩ | q)
          · exact ⟨by omega, q2⟩
          · rw [q]; exact ⟨by omega, z'⟩
        · rintro ⟨q1, q2⟩
          by_cases e : j = n
          · exact Or.inr e
          · exact Or.inl ⟨by omega, q2⟩
  refine b_X1_link_0 ?_
  exact loop1 ns.length 0 0 (by omega) (by omega) (fun j _ => by rw [tb_0]; constructor; (intro h; cases h); (rintro ⟨q, -⟩; omega))
theorem s_X1_firstLoop (hY : LyCi S R a) (hC : CRd I J a ns) (hn : ns.length ≤ 40) (h8 : ∀ i j, i < ns.length → j < 64 → tb (J (a + 8) i) j = wsh (wadj ns l) ns.length i j) (k1 : ∀ n, n < ns.length → wsh (wadj ns l) ns.length n n = true → (∀ i, i < n → wsh (wadj ns l) ns.length i i = false) → Q (some (some (.int (ii n)))) (S, I, J, R, c)) (k0 : (∀ i, i < ns.length → wsh (wadj ns l) ns.length i i = false) → Q (some (some (.int (-2)))) (S, I, J, R, c)) : X xs L d 34 0 [.ref a, .null] [] (S, I, J, R, c) Q := by
  refine b_X1_firstLoop_0 ?_
  have main : ∀ (f n : Nat), ns.length - n = f → n ≤ ns.length → (∀ i, i < n → wsh (wadj ns l) ns.length i i = false) → X xs L d 34 2 [.ref a, .int (ii n)] [] (S, I, J, R, c) Q := by
    intro f
    induction f with
    | zero =>
      intro n g1 g2 g3
      have e : n = ns.length := by omega
      refine b_X1_firstLoop_2 hY (fun _ => b_X1_firstLoop_33 (k0 (fun i hi => g3 i (by omega)))) (fun z => ?_)
      rw [hC.1, e] at z; exact absurd (Int32.le_refl _) z
    | succ f ih =>
      intro n g1 g2 g3
      have hn2 : n < ns.length := by omega
      refine b_X1_firstLoop_2 hY (fun z => ?_) (fun _ => ?_)
      · rw [hC.1, ii_le (by omega) (by omega)] at z; omega
      refine b_X1_firstLoop_10 hY (ii_inb (by omega) (by omega)) (fun z => ?_) (fun z => ?_)
      · rw [ii_nat (by omega), tb_test (by omega), h8 n n hn2 (by omega)] at z
        refine b_X1_firstLoop_27 ?_
        rw [ii_add1]
        refine ih (n + 1) (by omega) (by omega) (fun i hi => ?_)
        by_cases e : i = n
        · rw [e]; cases q : wsh (wadj ns l) ns.length n n with
          | false => rfl
          | true => exact absurd q z
        · exact g3 i (by omega)
      · rw [ii_nat (by omega), tb_test (by omega), h8 n n hn2 (by omega)] at z
        exact b_X1_firstLoop_25 (k1 n hn2 (Classical.not_not.1 z) g3)
  exact main _ 0 rfl (by omega) (fun i hi => by omega)
end LINK
