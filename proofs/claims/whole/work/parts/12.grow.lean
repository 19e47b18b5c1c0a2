/-! ===== the mini heap only grows ===== -/
def Gr (M M' : MH) : Prop := (Inv M → Inv M') ∧ M.2.2.2.2.1 ≤ M'.2.2.2.2.1 ∧ M.2.2.2.2.2 ≤ M'.2.2.2.2.2
theorem Gr.rf {M : MH} : Gr M M := ⟨fun h => h, Nat.le_refl _, Nat.le_refl _⟩
theorem Gr.tr {M M' M'' : MH} (h : Gr M M') (h' : Gr M' M'') : Gr M M'' := ⟨fun q => h'.1 (h.1 q), Nat.le_trans h.2.1 h'.2.1, Nat.le_trans h.2.2 h'.2.2⟩
theorem Gr.same {M M' : MH} (h1 : M'.1 = M.1) (h2 : M'.2.2.2.2 = M.2.2.2.2) : Gr M M' := by
  refine ⟨fun h => ?_, by rw [h2]; exact Nat.le_refl _, by rw [h2]; exact Nat.le_refl _⟩
  unfold Inv
  rw [h1, h2]
  exact h
theorem Gr.push {M : MH} {S : Shp} {I : Nat → Nat → Int32} {J : Nat → Nat → Int64} {R : Nat → Nat → Nat} {k : Nat} (hS : ∀ ty n, S = .inr (ty, n) → ty = .int ∨ ty = .long ∨ ty = .byte ∨ ty = .boolean) : Gr M (u1 M.1 (M.2.2.2.2.1 + 1) S, I, J, R, M.2.2.2.2.1 + 1, M.2.2.2.2.2 + k) := by
  refine ⟨fun h => ⟨fun a ha => ?_, fun a ty n ha => ?_⟩, Nat.le_succ _, Nat.le_add_right _ _⟩
  · have h1 : a ≠ M.2.2.2.2.1 + 1 := by
      rcases ha with ha | ha
      · omega
      · have : M.2.2.2.2.1 + 1 < a := ha
        omega
    show u1 M.1 (M.2.2.2.2.1 + 1) S a = .inl 99
    rw [u1_n _ _ h1]
    refine h.1 a ?_
    rcases ha with ha | ha
    · exact Or.inl ha
    · have : M.2.2.2.2.1 + 1 < a := ha
      exact Or.inr (by omega)
  · have ha : u1 M.1 (M.2.2.2.2.1 + 1) S a = .inr (ty, n) := ha
    by_cases h1 : a = M.2.2.2.2.1 + 1
    · rw [h1, u1_s] at ha
      exact hS ty n ha
    · rw [u1_n _ _ h1] at ha
      exact h.2 a ty n ha
theorem gr_pf {M M' : MH} {ci a f : Nat} {v : Value} (h : pf M ci a f v = some M') : Gr M M' := by
  obtain ⟨-, g2, g3, -⟩ := pf_at (b := 0) (ex := fun _ => 0) (cA := fun _ => 0) h
  exact Gr.same g2 g3
set_option maxHeartbeats 4000000 in
theorem gr_xnC {xs : Nat → Int32} {L d j pc : Nat} {i : Instr} {st st' : List Value} {M M' : MH} {pc' : Nat} (h : xnC xs L d j pc i st M = some (pc', st', M')) : Gr M M' := by
  have z : ∀ {a a' : Nat} {t t' : List Value} {X X' : MH}, some (a, t, X) = some (a', t', X') → X = M → Gr M X' := by
    intro a a' t t' X X' h1 h2
    cases h1
    rw [h2]
    exact Gr.rf
  cases i
  case getfield k =>
    simp only [xnC] at h
    split at h
    · split at h
      · rename_i ci hsh
        cases hf : fl (mO j) k ci with
        | none => rw [hf] at h; cases h
        | some f => rw [hf] at h; exact z h rfl
      · cases h
    · cases h
  case putfield k =>
    simp only [xnC] at h
    split at h
    · rename_i v a t
      split at h
      · rename_i ci hsh
        split at h
        · rename_i f hf
          split at h
          · cases hpf : pf M ci a f v with
            | none => rw [hpf] at h; cases h
            | some M9 => rw [hpf] at h; cases h; exact gr_pf hpf
          · cases h
        · cases h
      · cases h
    · cases h
  case new k =>
    simp only [xnC] at h
    cases hn : nwl (mO j) k with
    | none => rw [hn] at h; cases h
    | some ci =>
      rw [hn] at h
      cases h
      exact Gr.push (fun _ _ q => by cases q)
  case newarray aty =>
    simp only [xnC] at h
    split at h
    · rename_i n t
      split at h
      · rename_i y hy
        split at h
        · cases h
          refine Gr.push (fun ty n q => ?_)
          cases q
          cases aty <;> cases hy
          · exact Or.inr (Or.inr (Or.inr rfl))
          · exact Or.inr (Or.inr (Or.inl rfl))
          · exact Or.inl rfl
          · exact Or.inr (Or.inl rfl)
        · cases h
      · cases h
    · cases h
  case getstatic k =>
    simp only [xnC] at h
    cases hg : gsl (mO j) k with
    | none => rw [hg] at h; cases h
    | some e9 => rw [hg] at h; exact z h rfl
  case iastore =>
    simp only [xnC] at h
    split at h
    · split at h
      · split at h
        · cases h; exact Gr.same rfl rfl
        · cases h
      · cases h
    · cases h
  case lastore =>
    simp only [xnC] at h
    split at h
    · split at h
      · split at h
        · cases h; exact Gr.same rfl rfl
        · cases h
      · cases h
    · cases h
  case bastore =>
    simp only [xnC] at h
    split at h
    · split at h
      · split at h
        · cases h; exact Gr.same rfl rfl
        · cases h
      · split at h
        · cases h; exact Gr.same rfl rfl
        · cases h
      · cases h
    · cases h
  all_goals first
    | exact (nomatch (show (none : Option (Nat × List Value × MH)) = some _ from h))
    | (simp only [xnC] at h; (repeat' (split at h)) <;> (first | exact z h rfl | cases h))
theorem gr_xn {xs : Nat → Int32} {L d j pc ln : Nat} {i : Instr} {ls st : List Value} {M : MH} {r : Nat × List Value × List Value × MH} (h : xn xs L d j pc ln i ls st M = some r) : Gr M r.2.2.2 := by
  unfold xn at h
  split at h
  · cases h; exact Gr.rf
  · split at h
    · cases h; exact Gr.rf
    · cases hc : xnC xs L d j pc i st M with
      | none => rw [hc] at h; cases h
      | some q =>
        rw [hc] at h
        cases h
        obtain ⟨q1, q2, q3⟩ := q
        exact gr_xnC hc
theorem gr_xq {xs : Nat → Int32} {L : Nat} : ∀ (n d j pc : Nat) (ls st : List Value) (M : MH) (o : Option (Option Value)) (M' : MH), xq xs L n d j pc ls st M = some (o, M') → Gr M M' := by
  intro n
  induction n with
  | zero => intro d j pc ls st M o M' h; cases h
  | succ n ih =>
    intro d j pc ls st M o M' h
    unfold xq at h
    split at h
    · cases h
    · rename_i i ln hdec
      split at h
      · cases h
      · split at h
        · rename_i r hr
          exact (gr_xn hr).tr (ih _ _ _ _ _ _ _ _ h)
        · split at h
          · cases h; exact Gr.rf
          · split at h
            · rename_i r hr
              split at h
              · cases h
              · split at h
                · cases h
                · rename_i v M1 hq
                  exact (ih _ _ _ _ _ _ _ _ hq).tr (ih _ _ _ _ _ _ _ _ h)
                · rename_i M1 hq
                  split at h
                  · cases h
                  split at h
                  · exact (ih _ _ _ _ _ _ _ _ hq).tr (ih _ _ _ _ _ _ _ _ h)
                  · cases h
                    exact ih _ _ _ _ _ _ _ _ hq
            · split at h
              · cases h
                exact Gr.push (fun _ _ q => by cases q)
              · cases h
