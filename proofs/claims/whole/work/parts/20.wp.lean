/-! ===== P0: runs of the mini machine, by their ends ===== -/
theorem xq_mono {xs : Nat → Int32} {L : Nat} : ∀ (n d j pc : Nat) (ls st : List Value) (M : MH) (r : Option (Option Value) × MH), xq xs L n d j pc ls st M = some r → ∀ k, n ≤ k → xq xs L k d j pc ls st M = some r := by
  intro n
  induction n with
  | zero => intro d j pc ls st M r h; cases h
  | succ n ih =>
    intro d j pc ls st M r h k hk
    obtain ⟨k, rfl⟩ : ∃ q, k = q + 1 := ⟨k - 1, by omega⟩
    have hk : n ≤ k := by omega
    unfold xq at h ⊢
    split at h
    · cases h
    · rename_i i ln hdec
      split at h
      · cases h
      · rename_i hok
        rw [if_neg hok]
        split at h
        · rename_i q hq
          exact ih _ _ _ _ _ _ _ h k hk
        · rename_i hq
          split at h
          · rename_i v hv
            exact h
          · rename_i hv
            split at h
            · rename_i q hcl
              split at h
              · cases h
              · rename_i d'
                split at h
                · cases h
                · rename_i v M1 hc
                  rw [ih _ _ _ _ _ _ _ hc k hk]
                  exact ih _ _ _ _ _ _ _ h k hk
                · rename_i M1 hc
                  rw [ih _ _ _ _ _ _ _ hc k hk]
                  dsimp only
                  split at h
                  · cases h
                  · rename_i hf
                    rw [if_neg hf]
                    split at h
                    · rename_i q9 hh
                      exact ih _ _ _ _ _ _ _ h k hk
                    · exact h
            · exact h
def X (xs : Nat → Int32) (L d j pc : Nat) (ls st : List Value) (M : MH) (Q : Option (Option Value) → MH → Prop) : Prop := ∃ (n : Nat) (o : Option (Option Value)) (M' : MH), xq xs L n d j pc ls st M = some (o, M') ∧ Q o M'
section WP
variable {xs : Nat → Int32} {L d j pc ln : Nat} {i : Instr} {ls st ls' st' : List Value} {M M' : MH} {Q Q' : Option (Option Value) → MH → Prop}
theorem X_mono (h : X xs L d j pc ls st M Q) (hQ : ∀ o M', Q o M' → Q' o M') : X xs L d j pc ls st M Q' := by
  obtain ⟨n, o, M', h1, h2⟩ := h
  exact ⟨n, o, M', h1, hQ o M' h2⟩
theorem X_step {pc' : Nat} (hd : decode (mB j) pc = .ok (i, ln)) (hok : okL i ln = true) (hx : xn xs L d j pc ln i ls st M = some (pc', ls', st', M')) (k : X xs L d j pc' ls' st' M' Q) : X xs L d j pc ls st M Q := by
  obtain ⟨n, o, M1, h1, h2⟩ := k
  refine ⟨n + 1, o, M1, ?_, h2⟩
  unfold xq
  rw [hd]
  dsimp only
  rw [hok, if_neg (by decide), hx]
  exact h1
theorem X_A (hd : decode (mB j) pc = .ok (i, ln)) (hok : okL i ln = true) (hx : xnA j i ls st = some (ls', st')) (k : X xs L d j (pc + ln) ls' st' M Q) : X xs L d j pc ls st M Q := by
  refine X_step hd hok ?_ k
  unfold xn
  rw [hx]
theorem X_B {pc' : Nat} (hd : decode (mB j) pc = .ok (i, ln)) (hok : okL i ln = true) (hx0 : xnA j i ls st = none) (hx : xnB pc i st = some (pc', st')) (k : X xs L d j pc' ls st' M Q) : X xs L d j pc ls st M Q := by
  refine X_step hd hok ?_ k
  unfold xn
  rw [hx0]
  dsimp only
  rw [hx]
theorem X_C {pc' : Nat} (hd : decode (mB j) pc = .ok (i, ln)) (hok : okL i ln = true) (hx0 : xnA j i ls st = none) (hx1 : xnB pc i st = none) (hx : xnC xs L d j pc i st M = some (pc', st', M')) (k : X xs L d j pc' ls st' M' Q) : X xs L d j pc ls st M Q := by
  refine X_step hd hok ?_ k
  unfold xn
  rw [hx0]
  dsimp only
  rw [hx1]
  dsimp only
  rw [hx]
  rfl
theorem X_ret {v : Option Value} (hd : decode (mB j) pc = .ok (i, ln)) (hok : okL i ln = true) (hx0 : xnA j i ls st = none) (hx1 : xnB pc i st = none) (hx2 : xnC xs L d j pc i st M = none) (hr : rt j i st = some v) (k : Q (some v) M) : X xs L d j pc ls st M Q := by
  refine ⟨1, some v, M, ?_, k⟩
  unfold xq
  rw [hd]
  dsimp only
  rw [hok, if_neg (by decide)]
  have hx : xn xs L d j pc ln i ls st M = none := by
    unfold xn
    rw [hx0]
    dsimp only
    rw [hx1]
    dsimp only
    rw [hx2]
    rfl
  rw [hx]
  dsimp only
  rw [hr]
/-- a call -/
theorem X_call {y : Nat} {as rest : List Value} {fg : Bool} (hd0 : decode (mB j) pc = .ok (i, ln)) (hok : okL i ln = true) (hx0 : xnA j i ls st = none) (hx1 : xnB pc i st = none) (hx2 : xnC xs L (d + 1) j pc i st M = none) (hr : rt j i st = none) (hc : cl j i st M = some (y, as, rest, fg))
    (k : X xs L d y 0 (en y as) [] M (fun o M1 => match o with
      | some v => X xs L (d + 1) j (pc + 3) ls (v.toList ++ rest) M1 Q
      | none => fg = true ∧ match hd j pc with
        | some h => X xs L (d + 1) j h.1 ((klL ls h.2).set h.2 .null) [] M1 Q
        | none => Q none M1)) : X xs L (d + 1) j pc ls st M Q := by
  obtain ⟨n, o, M1, h1, h2⟩ := k
  have hx : xn xs L (d + 1) j pc ln i ls st M = none := by
    unfold xn
    rw [hx0]
    dsimp only
    rw [hx1]
    dsimp only
    rw [hx2]
    rfl
  have pre : ∀ k, xq xs L (k + 1) (d + 1) j pc ls st M = match xq xs L k d y 0 (en y as) [] M with
              | none => none
              | some (some v, M') => xq xs L k (d + 1) j (pc + 3) ls (v.toList ++ rest) M'
              | some (none, M') => if fg = false then none else match hd j pc with
                | some h => xq xs L k (d + 1) j h.1 ((klL ls h.2).set h.2 .null) [] M'
                | none => some (none, M') := by
    intro k
    conv => lhs; unfold xq
    rw [hd0]
    dsimp only
    rw [hok, if_neg (by decide), hx]
    dsimp only
    rw [hr]
    dsimp only
    rw [hc]
    rfl
  cases o with
  | some v =>
    obtain ⟨n2, o2, M2, g1, g2⟩ := h2
    refine ⟨max n n2 + 1, o2, M2, ?_, g2⟩
    rw [pre, xq_mono _ _ _ _ _ _ _ _ h1 (max n n2) (Nat.le_max_left _ _)]
    exact xq_mono _ _ _ _ _ _ _ _ g1 _ (Nat.le_max_right _ _)
  | none =>
    obtain ⟨hf, h2⟩ := h2
    cases hh : hd j pc with
    | some h =>
      rw [hh] at h2
      obtain ⟨n2, o2, M2, g1, g2⟩ := h2
      refine ⟨max n n2 + 1, o2, M2, ?_, g2⟩
      rw [pre, xq_mono _ _ _ _ _ _ _ _ h1 (max n n2) (Nat.le_max_left _ _)]
      dsimp only
      rw [if_neg (by rw [hf]; decide), hh]
      exact xq_mono _ _ _ _ _ _ _ _ g1 _ (Nat.le_max_right _ _)
    | none =>
      rw [hh] at h2
      refine ⟨n + 1, none, M1, ?_, h2⟩
      rw [pre, h1]
      dsimp only
      rw [if_neg (by rw [hf]; decide), hh]
theorem X_throw (hd0 : decode (mB j) pc = .ok (i, ln)) (hok : okL i ln = true) (hx0 : xn xs L d j pc ln i ls st M = none) (hr : rt j i st = none) (hc : cl j i st M = none) (ht : th d j pc st = true) (k : Q none (thM M)) : X xs L d j pc ls st M Q := by
  refine ⟨1, none, thM M, ?_, k⟩
  unfold xq
  rw [hd0]
  dsimp only
  rw [hok, if_neg (by decide), hx0]
  dsimp only
  rw [hr]
  dsimp only
  rw [hc]
  dsimp only
  rw [ht, if_pos rfl]
end WP
