/-! ===== P0: calls ===== -/
section XCALLS
variable {xs : Nat → Int32} {L d j pc pc' y n k0 : Nat} {ls ls0 st as rest : List Value} {M : MH} {Q : Option (Option Value) → MH → Prop}
/-- what goes on behind a call that doesn't throw -/
abbrev Kc (xs : Nat → Int32) (L d j pc : Nat) (ls rest : List Value) (Q : Option (Option Value) → MH → Prop) (o : Option (Option Value)) (M1 : MH) : Prop := match o with
  | some (some v) => X xs L d j pc ls (v :: rest) M1 Q
  | some none => X xs L d j pc ls rest M1 Q
  | none => False
/-- .. that may throw, nothing is caught here -/
abbrev Kt (xs : Nat → Int32) (L d j pc : Nat) (ls rest : List Value) (Q : Option (Option Value) → MH → Prop) (o : Option (Option Value)) (M1 : MH) : Prop := match o with
  | some (some v) => X xs L d j pc ls (v :: rest) M1 Q
  | some none => X xs L d j pc ls rest M1 Q
  | none => Q none M1
/-- .. caught here -/
abbrev Kh (xs : Nat → Int32) (L d j pc h : Nat) (ls ls' rest : List Value) (Q : Option (Option Value) → MH → Prop) (o : Option (Option Value)) (M1 : MH) : Prop := match o with
  | some (some v) => X xs L d j pc ls (v :: rest) M1 Q
  | some none => X xs L d j pc ls rest M1 Q
  | none => X xs L d j h ls' [] M1 Q
theorem X_callS (hd0 : decode (mB j) pc = .ok (.invokestatic k0, 3)) (hp : pc + 3 = pc') (hm : mjMx.any (fun r => r.1 == mO j && r.2.1 == k0) = false) (hy : csl (mO j) k0 = some y) (hP : mP y = n) (h1 : Nat.ble n st.length = true) (h2 : Nat.ble (lay (st.take n).reverse).length (mL y) = true) (h3 : Nat.ble (wt (st.drop n)) 8 = true) (h4 : (st.take n).all vOK = true) (has : (st.take n).reverse = as) (hrest : st.drop n = rest) (hen : en y as = ls0)
    (k : X xs L d y 0 ls0 [] M (Kc xs L (d + 1) j pc' ls rest Q)) : X xs L (d + 1) j pc ls st M Q := by
  subst hp; subst hP; subst has; subst hrest; subst hen
  refine X_call (fg := false) (rest := st.drop (mP y)) (as := (st.take (mP y)).reverse) hd0 rfl rfl rfl ?_ rfl ?_ (X_mono k (fun o M1 h => ?_))
  · simp only [xnC, hm]
    rw [if_neg (by decide)]
  · simp only [cl, hy]
    rw [if_pos ⟨Nat.le_of_ble_eq_true h1, Nat.le_of_ble_eq_true h2, Nat.le_of_ble_eq_true h3, h4⟩]
  · match o, h with
    | some (some v), h => exact h
    | some none, h => exact h
    | none, h => exact absurd h (fun z => z)
theorem X_callP {a : Nat} (hd0 : decode (mB j) pc = .ok (.invokespecial k0, 3)) (hp : pc + 3 = pc') (ho : ¬ (mjO.getD (mO j) 9999 = k0 ∧ k0 ≠ 9999)) (hy : cpl (mO j) k0 = some y) (hP : mP y = n) (hdr : st.drop n = .ref (a + 1) :: rest) (h2 : Nat.ble (lay (.ref (a + 1) :: (st.take n).reverse)).length (mL y) = true) (h3 : Nat.ble (wt rest) 8 = true) (h4 : (st.take n).all vOK = true) (has : .ref (a + 1) :: (st.take n).reverse = as) (hen : en y as = ls0)
    (k : X xs L d y 0 ls0 [] M (Kc xs L (d + 1) j pc' ls rest Q)) : X xs L (d + 1) j pc ls st M Q := by
  subst hp; subst hP; subst has; subst hen
  refine X_call (fg := false) (rest := rest) hd0 rfl rfl rfl ?_ rfl ?_ (X_mono k (fun o M1 h => ?_))
  · simp only [xnC]
    rw [if_neg ho]
  · simp only [cl, hy]
    rw [hdr]
    dsimp only
    rw [if_pos ⟨Nat.le_of_ble_eq_true h2, Nat.le_of_ble_eq_true h3, h4⟩]
  · match o, h with
    | some (some v), h => exact h
    | some none, h => exact h
    | none, h => exact absurd h (fun z => z)
theorem clV {a ci : Nat} {fg : Bool} (hn : cvn (mO j) k0 = some n) (hdr : st.drop n = .ref a :: rest) (hs : M.1 a = .inl ci) (hy : cvl (mO j) k0 ci = some y) (h2 : Nat.ble (lay (.ref a :: (st.take n).reverse)).length (mL y) = true) (h3 : Nat.ble (wt rest) 8 = true) (h4 : (st.take n).all vOK = true) (hf : cvk (mO j) k0 ci = fg) : cl j (.invokevirtual k0) st M = some (y, .ref a :: (st.take n).reverse, rest, fg) := by
  simp only [cl, hn]
  rw [hdr]
  dsimp only
  rw [hs]
  dsimp only
  rw [hy]
  dsimp only
  rw [if_pos ⟨Nat.le_of_ble_eq_true h2, Nat.le_of_ble_eq_true h3, h4⟩, hf]
theorem X_callV {a ci : Nat} (hd0 : decode (mB j) pc = .ok (.invokevirtual k0, 3)) (hp : pc + 3 = pc') (ho : ¬ (mO j = 14 ∧ k0 = 117)) (hn : cvn (mO j) k0 = some n) (hdr : st.drop n = .ref a :: rest) (hs : M.1 a = .inl ci) (hy : cvl (mO j) k0 ci = some y) (h2 : Nat.ble (lay (.ref a :: (st.take n).reverse)).length (mL y) = true) (h3 : Nat.ble (wt rest) 8 = true) (h4 : (st.take n).all vOK = true) (has : .ref a :: (st.take n).reverse = as) (hen : en y as = ls0)
    (k : X xs L d y 0 ls0 [] M (Kc xs L (d + 1) j pc' ls rest Q)) : X xs L (d + 1) j pc ls st M Q := by
  subst hp; subst has; subst hen
  refine X_call hd0 rfl rfl rfl ?_ rfl (clV hn hdr hs hy h2 h3 h4 rfl) (X_mono k (fun o M1 h => ?_))
  · simp only [xnC]
    rw [if_neg ho]
  · match o, h with
    | some (some v), h => exact h
    | some none, h => exact h
    | none, h => exact absurd h (fun z => z)
theorem X_callT {a ci : Nat} (hd0 : decode (mB j) pc = .ok (.invokevirtual k0, 3)) (hp : pc + 3 = pc') (ho : ¬ (mO j = 14 ∧ k0 = 117)) (hn : cvn (mO j) k0 = some n) (hdr : st.drop n = .ref a :: rest) (hs : M.1 a = .inl ci) (hy : cvl (mO j) k0 ci = some y) (h2 : Nat.ble (lay (.ref a :: (st.take n).reverse)).length (mL y) = true) (h3 : Nat.ble (wt rest) 8 = true) (h4 : (st.take n).all vOK = true) (has : .ref a :: (st.take n).reverse = as) (hen : en y as = ls0) (hf : cvk (mO j) k0 ci = true) (hh : hd j pc = none)
    (k : X xs L d y 0 ls0 [] M (Kt xs L (d + 1) j pc' ls rest Q)) : X xs L (d + 1) j pc ls st M Q := by
  subst hp; subst has; subst hen
  refine X_call hd0 rfl rfl rfl ?_ rfl (clV hn hdr hs hy h2 h3 h4 hf) (X_mono k (fun o M1 h => ?_))
  · simp only [xnC]
    rw [if_neg ho]
  · match o, h with
    | some (some v), h => exact h
    | some none, h => exact h
    | none, h => exact ⟨rfl, by rw [hh]; exact h⟩
theorem X_callH {a ci h9 : Nat} {ls' : List Value} (hd0 : decode (mB j) pc = .ok (.invokevirtual k0, 3)) (hp : pc + 3 = pc') (ho : ¬ (mO j = 14 ∧ k0 = 117)) (hn : cvn (mO j) k0 = some n) (hdr : st.drop n = .ref a :: rest) (hs : M.1 a = .inl ci) (hy : cvl (mO j) k0 ci = some y) (h2 : Nat.ble (lay (.ref a :: (st.take n).reverse)).length (mL y) = true) (h3 : Nat.ble (wt rest) 8 = true) (h4 : (st.take n).all vOK = true) (has : .ref a :: (st.take n).reverse = as) (hen : en y as = ls0) (hf : cvk (mO j) k0 ci = true) (hh : hd j pc = some (h9, 1)) (hl : (klL ls 1).set 1 .null = ls')
    (k : X xs L d y 0 ls0 [] M (Kh xs L (d + 1) j pc' h9 ls ls' rest Q)) : X xs L (d + 1) j pc ls st M Q := by
  subst hp; subst has; subst hen; subst hl
  refine X_call hd0 rfl rfl rfl ?_ rfl (clV hn hdr hs hy h2 h3 h4 hf) (X_mono k (fun o M1 h => ?_))
  · simp only [xnC]
    rw [if_neg ho]
  · match o, h with
    | some (some v), h => exact h
    | some none, h => exact h
    | none, h => exact ⟨rfl, by rw [hh]; exact h⟩
theorem X_thr (hd0 : decode (mB j) pc = .ok (.new k0, 3)) (hn : nwl (mO j) k0 = none) (ht : decide ((j, pc) ∈ mjTh) = true) (h8 : 8 ≤ d) (k : Q none (thM M)) : X xs L d j pc ls [] M Q := by
  refine X_throw hd0 rfl ?_ rfl rfl ?_ k
  · show (match xnA j (.new k0) ls [] with
      | some r => some (pc + 3, r.1, r.2, M)
      | none => match xnB pc (.new k0) [] with
        | some r => some (r.1, ls, r.2, M)
        | none => (xnC xs L d j pc (.new k0) [] M).map fun r => (r.1, ls, r.2.1, r.2.2)) = none
    simp only [xnA, xnB, xnC, hn, Option.map_none]
  · unfold th
    rw [ht, decide_eq_true h8]
    rfl
theorem nz {x : Int32} (h : x = 0 ∨ x = 1) : narrow .boolean (.int x) = .int x := by
  rcases h with rfl | rfl <;> rfl
end XCALLS
