/-! ===== P3: all formulas go through on a stack of 64 ===== -/
section OKN
variable {kd : Nat → Int32} {key : Nat → Int64} {m : Nat}
def OKn (ns : List Nd) (l : List Int32) : Prop := ∀ x ∈ ns, x.2.2.2.2 ≤ l.length ∧ OKc 64 0 (seg l x.2.2.2.1 x.2.2.2.2)
theorem OKn_app {ns : List Nd} {l o : List Int32} (h : OKn ns l) : OKn ns (l ++ o) := fun x hx => ⟨by rw [List.length_append]; have := (h x hx).1; omega, by rw [seg_app (h x hx).1]; exact (h x hx).2⟩
theorem sy1_C {n : Nat} {l : List Int32} {g : LeS} (h0 : kd m = 0) (hm : m ≤ 2000) (hn : n ≤ m) (hl : ∀ y ∈ l, cdP kd m y) : ∃ o, (sy1 kd (lfC kd key) m true n [] 0 l g).2.2.1 = l ++ o ∧ OKc 64 0 o := by
  have := sy_H (kd := kd) (lf := lfC kd key) (l0 := l) (m := m) (PG := fun _ => True) (P := fun _ x => cdP kd m x) h0 (fun g a q1 q2 => Or.inl (cop_sg q1 q2)) (lfC_h h0 hm) (m + 1 - n) true n [] 0 [] g hn trivial (by rw [List.append_nil]; exact hl) WI_nil trivial rfl
  rw [List.append_nil] at this
  exact this.1
theorem mad_OK {k n : Nat} {ns : List Nd} {l : List Int32} {g : LeS} (h0 : kd m = 0) (hm : m ≤ 2000) (hn : n ≤ m) (hl : ∀ y ∈ l, cdP kd m y) (h : OKn ns l) (hq : (mad kd key m k n ns l g).1 = true) : OKn (mad kd key m k n ns l g).2.2.1 (mad kd key m k n ns l g).2.2.2.1 := by
  unfold mad at hq ⊢
  split at hq
  · rename_i hd
    rw [if_pos hd]
    split at hq
    · rename_i h61
      rw [if_pos h61]
      have h1 : n < m := lt_of_kd h0 hn (by rw [hd.1]; decide)
      have h2 : n + 1 < m := lt_of_kd h0 h1 (by rw [h61]; decide)
      obtain ⟨o, o1, o2⟩ := sy1_C (key := key) (g := g) h0 hm (show n + 2 ≤ m from h2) hl
      split at hq
      · rename_i hz
        rw [if_pos hz]
        intro x hx
        show x.2.2.2.2 ≤ (sy1 kd (lfC kd key) m true (n + 2) [] 0 l g).2.2.1.length ∧ OKc 64 0 (seg (sy1 kd (lfC kd key) m true (n + 2) [] 0 l g).2.2.1 x.2.2.2.1 x.2.2.2.2)
        rcases List.mem_append.1 hx with q | q
        · rw [o1]; exact OKn_app h x q
        · rw [List.mem_singleton.1 q]
          refine ⟨Nat.le_refl _, ?_⟩
          show OKc 64 0 (seg _ l.length (sy1 kd (lfC kd key) m true (n + 2) [] 0 l g).2.2.1.length)
          rw [o1, seg_all]; exact o2
      · cases hq
    · cases hq
  · cases hq
theorem inp_OK {l : List Int32} : ∀ (f n : Nat) (ns : List Nd), OKn ns l → OKn (inp kd key l.length f n ns).2.2 l
  | 0, n, ns, h => h
  | f + 1, n, ns, h => by
    have h1 : OKn (ns ++ [(key n, 0, n, l.length, l.length)]) l := by
      intro x hx
      rcases List.mem_append.1 hx with q | q
      · exact h x q
      · rw [List.mem_singleton.1 q]
        refine ⟨Nat.le_refl _, ?_⟩
        show OKc 64 0 (seg l l.length l.length)
        rw [seg_nil]; trivial
    rw [inp]
    split
    · split
      · exact inp_OK f _ _ h1
      · split
        · exact h1
        · exact h
    · exact h
theorem its_OK (h0 : kd m = 0) (hm : m ≤ 2000) : ∀ (f n : Nat) (ns : List Nd) (l : List Int32) (g : LeS), n ≤ m → (∀ y ∈ l, cdP kd m y) → OKn ns l → (its kd key m f n ns l g).1 = true → OKn (its kd key m f n ns l g).2.2.1 (its kd key m f n ns l g).2.2.2.1
  | 0, n, ns, l, g, hn, hl, h, hq => by cases hq
  | f + 1, n, ns, l, g, hn, hl, h, hq => by
    rw [its] at hq ⊢
    split at hq
    · rename_i z
      rw [if_pos z]; exact h
    · rename_i z
      rw [if_neg z]
      split at hq
      · rename_i z1
        rw [if_pos z1]
        have hP := itm_P h0 hn hl z1
        refine its_OK h0 hm f _ _ _ _ hP.2 hP.1 ?_ hq
        unfold itm at z1 ⊢
        split at z1
        · rename_i w
          rw [if_pos w]; exact inp_OK _ _ _ h
        · rename_i w
          rw [if_neg w]
          split at z1
          · rename_i w1
            rw [if_pos w1]
            exact mad_OK h0 hm (lt_of_kd h0 hn (by rw [w1.1]; decide)) hl h z1
          · rename_i w1
            rw [if_neg w1]
            split at z1
            · rename_i w2
              rw [if_pos w2]
              exact mad_OK h0 hm (lt_of_kd h0 hn (by rw [w2.1]; decide)) hl h z1
            · cases z1
      · rename_i z1
        exact absurd hq z1
def kpx (x : Int32) : Bool × Bool := (isB x, x == -33)
theorem OKc_map {b : Nat} : ∀ (l l' : List Int32) (h : Nat), l.map kpx = l'.map kpx → OKc b h l → OKc b h l'
  | [], [], _, _, q => q
  | [], y :: l', _, e, _ => by simp at e
  | x :: l, [], _, e, _ => by simp at e
  | x :: l, y :: l', h, e, q => by
    have e' : kpx x = kpx y ∧ l.map kpx = l'.map kpx := by simpa using e
    have e1 : isB x = isB y := congrArg Prod.fst e'.1
    have e2 : (x == -33) = (y == -33) := congrArg Prod.snd e'.1
    have e3 : x = -33 ↔ y = -33 := by
      constructor
      · intro z; rw [z] at e2; simpa using e2.symm
      · intro z; rw [z] at e2; simpa using e2
    have hh : hst h x = hst h y := by unfold hst; rw [e1]; simp only [e3]
    refine ⟨?_, ?_⟩
    · have := q.1
      rw [e1] at this
      simp only [e3] at this
      exact this
    · show OKc b (hst h y) l'
      rw [← hh]; exact OKc_map l l' _ e'.2 q.2
theorem rsl_kp {vs : List Int64} {key : Nat → Int64} : ∀ (l : List Int32), (∀ x ∈ l, ¬ x < 0 → lfx x) → vs.length ≤ 40 → (rsl vs key l).1 = none → (rsl vs key l).2.map kpx = l.map kpx
  | [], _, _, _ => rfl
  | x :: l, hl, hv, h => by
    have hl' := fun y hy => hl y (List.mem_cons_of_mem x hy)
    rw [rsl] at h ⊢
    by_cases q : x < 0
    · rw [if_pos q] at h ⊢
      rw [List.map_cons, List.map_cons, rsl_kp l hl' hv h]
    · rw [if_neg q] at h ⊢
      cases hq : ixl (key x.toNatClampNeg) vs with
      | none => rw [hq] at h; cases h
      | some v =>
        rw [hq] at h
        simp only at h ⊢
        rw [List.map_cons, List.map_cons, rsl_kp l hl' hv h]
        congr 1
        have hv2 := ixl_lt _ _ _ hq
        have a1 := lfx_H (hl x (List.mem_cons_self ..) q)
        have a2 := lfx_H (show lfx (ii v) from Or.inl (by rw [ii_zero, ii_le (by omega) (by omega)]; omega))
        unfold kpx
        rw [a1.1, a2.1]
        congr 1
        rw [beq_eq_false_iff_ne.2 a1.2, beq_eq_false_iff_ne.2 a2.2]
theorem OKn_rsl {ns : List Nd} {l : List Int32} {vs : List Int64} (hm : m ≤ 2000) (hv : vs.length ≤ 40) (hl : ∀ y ∈ l, cdP kd m y) (h : OKn ns l) (hq : (rsl vs key l).1 = none) : OKn ns (rsl vs key l).2 := by
  intro x hx
  have hlen := rsl_len l hq
  refine ⟨by rw [hlen]; exact (h x hx).1, OKc_map _ _ _ ?_ (h x hx).2⟩
  unfold seg
  rw [List.map_take, List.map_drop, List.map_take, List.map_drop, rsl_kp l (fun y hy hn => ?_) hv hq]
  rcases hl y hy with q | ⟨k, k1, k2, -⟩
  · exact absurd (cop_neg q) hn
  · rw [k2]; exact Or.inl (by rw [ii_zero, ii_le (by omega) (by omega)]; omega)
/-- the clauses -/
def KI (nn : Nat) (cs : List Cl) (l : List Int32) (g : LeS) : Prop := (∀ x ∈ cs, x.1 < nn ∧ x.2.1 ≤ x.2.2.1 ∧ x.2.2.1 ≤ x.2.2.2.1 ∧ x.2.2.2.1 ≤ l.length ∧ OKc 64 0 (seg l x.2.1 x.2.2.1) ∧ OKc 64 0 (seg l x.2.2.1 x.2.2.2.1)) ∧ (∀ y ∈ l, lvP g.2.length y) ∧ g.2.length ≤ 9
theorem sy1_K {n : Nat} {l : List Int32} {g : LeS} (h0 : kd m = 0) (hn : n ≤ m) (hl : ∀ y ∈ l, lvP g.2.length y) (hg : g.2.length ≤ 9) : (∃ o, (sy1 kd (lfK kd key) m true n [] 0 l g).2.2.1 = l ++ o ∧ OKc 64 0 o) ∧ (sy1 kd (lfK kd key) m true n [] 0 l g).2.2.2.2.length ≤ 9 ∧ (∀ y ∈ (sy1 kd (lfK kd key) m true n [] 0 l g).2.2.1, lvP (sy1 kd (lfK kd key) m true n [] 0 l g).2.2.2.2.length y) ∧ (sy1 kd (lfK kd key) m true n [] 0 l g).2.1 ≤ m := by
  have := sy_H (kd := kd) (lf := lfK kd key) (l0 := l) (m := m) (PG := fun g => g.2.length ≤ 9) (P := fun g x => lvP g.2.length x) h0 (fun g a q1 q2 => Or.inl (cop_sg q1 q2)) (lfK_h h0) (m + 1 - n) true n [] 0 [] g hn hg (by rw [List.append_nil]; exact hl) WI_nil trivial rfl
  rw [List.append_nil] at this
  exact this
theorem tms_le {n : Nat} (h0 : kd m = 0) (hn : n ≤ m) (h : (tms kd key n).1 = true) : (tms kd key n).2.1 ≤ m := by
  have htim : ∀ a k v, k ≤ m → tim kd key a k = some v → k < m := by
    intro a k v hk q
    unfold tim at q
    split at q
    · rename_i z; exact lt_of_kd h0 hk (by rw [z.1]; decide)
    · cases q
  unfold tms at h ⊢
  split at h
  · rename_i q
    rw [if_pos q]
    have h1 : n < m := lt_of_kd h0 hn (by rw [q.1]; decide)
    cases hq : tim kd key 0 (n + 1) with
    | none => rw [hq] at h; cases h
    | some a =>
      rw [hq] at h
      simp only at h ⊢
      have h2 := htim _ _ _ h1 hq
      split at h
      · rename_i q2
        rw [if_pos q2]
        have h3 : n + 2 < m := lt_of_kd h0 h2 (by rw [q2.1]; decide)
        cases hq2 : tim kd key a (n + 3) with
        | none => rw [hq2] at h; cases h
        | some b => exact htim _ _ _ h3 hq2
      · rename_i q2
        rw [if_neg q2]; exact h2
  · rename_i q
    rw [if_neg q]; exact hn
theorem cla_I {n : Nat} {vs : List Int64} {cs : List Cl} {l : List Int32} {g : LeS} (h0 : kd m = 0) (hn : n ≤ m) (h : KI vs.length cs l g) (hq : (cla kd key m vs n cs l g).1 = true) : KI vs.length (cla kd key m vs n cs l g).2.2.1 (cla kd key m vs n cs l g).2.2.2.1 (cla kd key m vs n cs l g).2.2.2.2 ∧ (cla kd key m vs n cs l g).2.1 ≤ m := by
  obtain ⟨i1, i2, i3⟩ := h
  unfold cla at hq ⊢
  split at hq
  · rename_i hk
    rw [if_pos hk]
    have hn1 : n < m := lt_of_kd h0 hn (by rw [hk]; decide)
    cases hv : ixl (key n) vs with
    | none => rw [hv] at hq; cases hq
    | some v =>
      rw [hv] at hq
      simp only at hq ⊢
      have hvl := ixl_lt _ _ _ hv
      split at hq
      · rename_i h1
        rw [if_pos h1]
        have hn2 : n + 1 < m := lt_of_kd h0 hn1 (by rw [h1.1]; decide)
        obtain ⟨⟨o, o1, o2⟩, o3, o4, o5⟩ := sy1_K (key := key) (g := g) h0 (show n + 2 ≤ m from hn2) i2 i3
        generalize sy1 kd (lfK kd key) m true (n + 2) [] 0 l g = s at *
        split at hq
        · rename_i h2
          rw [if_pos h2]
          have hold : ∀ o' : List Int32, ∀ x ∈ cs, x.1 < vs.length ∧ x.2.1 ≤ x.2.2.1 ∧ x.2.2.1 ≤ x.2.2.2.1 ∧ x.2.2.2.1 ≤ (l ++ o').length ∧ OKc 64 0 (seg (l ++ o') x.2.1 x.2.2.1) ∧ OKc 64 0 (seg (l ++ o') x.2.2.1 x.2.2.2.1) := by
            intro o' x hx
            obtain ⟨a1, a2, a3, a4, a5, a6⟩ := i1 x hx
            exact ⟨a1, a2, a3, by rw [List.length_append]; omega, by rw [seg_app (by omega)]; exact a5, by rw [seg_app (by omega)]; exact a6⟩
          split at hq
          · rename_i h3
            rw [if_pos h3]
            have hn3 : s.2.1 < m := lt_of_kd h0 o5 (by rw [h3.1]; decide)
            obtain ⟨⟨p, p1, p2⟩, p3, p4, p5⟩ := sy1_K (key := key) (g := s.2.2.2) h0 (show s.2.1 + 1 ≤ m from hn3) o4 o3
            generalize sy1 kd (lfK kd key) m true (s.2.1 + 1) [] 0 s.2.2.1 s.2.2.2 = s2 at *
            split at hq
            · rename_i h4
              rw [if_pos h4]
              refine ⟨⟨?_, p4, p3⟩, tms_le h0 p5 hq⟩
              intro x hx
              show _ ∧ _ ∧ _ ∧ _ ≤ s2.2.2.1.length ∧ OKc 64 0 (seg s2.2.2.1 _ _) ∧ OKc 64 0 (seg s2.2.2.1 _ _)
              have e : s2.2.2.1 = l ++ (o ++ p) := by rw [p1, o1, List.append_assoc]
              rcases List.mem_append.1 hx with z | z
              · rw [e]; exact hold _ x z
              · rw [List.mem_singleton.1 z]
                refine ⟨hvl, ?_, ?_, Nat.le_refl _, ?_, ?_⟩
                · show l.length ≤ s.2.2.1.length
                  rw [o1, List.length_append]; omega
                · show s.2.2.1.length ≤ s2.2.2.1.length
                  rw [p1, List.length_append]; omega
                · show OKc 64 0 (seg s2.2.2.1 l.length s.2.2.1.length)
                  rw [p1, seg_app (Nat.le_refl _), o1, seg_all]; exact o2
                · show OKc 64 0 (seg s2.2.2.1 s.2.2.1.length s2.2.2.1.length)
                  rw [p1, seg_all]; exact p2
            · cases hq
          · rename_i h3
            rw [if_neg h3]
            refine ⟨⟨?_, o4, o3⟩, tms_le h0 o5 hq⟩
            intro x hx
            show _ ∧ _ ∧ _ ∧ _ ≤ s.2.2.1.length ∧ OKc 64 0 (seg s.2.2.1 _ _) ∧ OKc 64 0 (seg s.2.2.1 _ _)
            rcases List.mem_append.1 hx with z | z
            · rw [o1]; exact hold _ x z
            · rw [List.mem_singleton.1 z]
              refine ⟨hvl, ?_, Nat.le_refl _, Nat.le_refl _, ?_, ?_⟩
              · show l.length ≤ s.2.2.1.length
                rw [o1, List.length_append]; omega
              · show OKc 64 0 (seg s.2.2.1 l.length s.2.2.1.length)
                rw [o1, seg_all]; exact o2
              · show OKc 64 0 (seg s.2.2.1 s.2.2.1.length s.2.2.1.length)
                rw [seg_nil]; trivial
        · cases hq
      · cases hq
  · cases hq
theorem pts_I {vs : List Int64} (h0 : kd m = 0) : ∀ (f n : Nat) (cs : List Cl) (l : List Int32) (g : LeS), n ≤ m → KI vs.length cs l g → (pts kd key m vs f n cs l g).1 = true → KI vs.length (pts kd key m vs f n cs l g).2.2.1 (pts kd key m vs f n cs l g).2.2.2.1 (pts kd key m vs f n cs l g).2.2.2.2 ∧ (pts kd key m vs f n cs l g).2.1 ≤ m
  | 0, n, cs, l, g, hn, h, hq => by cases hq
  | f + 1, n, cs, l, g, hn, h, hq => by
    rw [pts] at hq ⊢
    split at hq
    · rename_i z
      rw [if_pos z]
      have := cla_I (key := key) h0 hn h z
      split at hq
      · rename_i z1
        rw [if_pos z1]
        exact pts_I h0 f _ _ _ _ (lt_of_kd h0 this.2 (by rw [z1]; decide)) this.1 hq
      · rename_i z1
        rw [if_neg z1]; exact this
    · rename_i z
      exact absurd hq z
theorem asr_I {vs : List Int64} {p gv : Nat} {cs : List Cl} {l : List Int32} {g : LeS} (h0 : kd m = 0) (h : asr kd key m vs = (true, p, cs, gv, l, g)) : KI vs.length cs l g := by
  unfold asr at h
  split at h
  · rename_i a1
    split at h
    · rename_i a2
      split at h
      · rename_i a3
        split at h
        · rename_i a4
          split at h
          · split at h
            · have hm0 : 0 < m := lt_of_kd h0 (Nat.zero_le _) (by rw [a1.1]; decide)
              have i1 := pts_I (key := key) (vs := vs) h0 24 1 [] [] (0, []) hm0 ⟨fun x hx => by simp at hx, fun y hy => by simp at hy, by simp⟩ a2
              have hn1 : (asr1 kd key m vs).2.1 < m := lt_of_kd h0 i1.2 (by show ¬ kd (asr1 kd key m vs).2.1 = 0; rw [a3.1]; decide)
              have i2 := pts_I (key := key) (vs := vs) h0 24 ((asr1 kd key m vs).2.1 + 1) _ _ _ hn1 i1.1 a4
              have e : (asr2 kd key m vs).2.2.1 = cs ∧ (asr2 kd key m vs).2.2.2.1 = l ∧ (asr2 kd key m vs).2.2.2.2 = g := by
                have := h
                simp only [Prod.mk.injEq] at this
                exact ⟨this.2.2.1, this.2.2.2.2.1, this.2.2.2.2.2⟩
              rw [← e.1, ← e.2.1, ← e.2.2]
              exact i2.1
            · simp at h
          · simp at h
        · simp at h
      · simp at h
    · simp at h
  · simp at h
end OKN
