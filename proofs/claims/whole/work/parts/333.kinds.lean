/-! ===== P2: how many nodes of a kind ===== -/
section KND
variable {xs : Nat → Int32} {L d : Nat} {S : Nat → Shp} {I : Nat → Nat → Int32} {J : Nat → Nat → Int64} {R : Nat → Nat → Nat} {c : Nat × Nat} {Q : Option (Option Value) → MH → Prop} {b N k : Nat} {ns : List Nd}
theorem s_howMany (hY : LyCi S R b) (hC : CRd I J b ns) (h40 : ns.length ≤ 40) (hk : k ≤ 2) (h2 : ∀ x ∈ ns, x.2.1 ≤ 2) (kk : Q (some (some (.int (ii (fb_ct (fun i => decide (ndk ns i = k)) ns.length))))) (S, I, J, R, c)) : X xs L d 29 0 [.ref b, .int (ii k), .null, .null] [] (S, I, J, R, c) Q := by
  refine b_X1_howMany_0 ?_
  have main : ∀ (f i : Nat), ns.length - i = f → i ≤ ns.length → X xs L d 29 4 [.ref b, .int (ii k), .int (ii (fb_ct (fun i => decide (ndk ns i = k)) i)), .int (ii i)] [] (S, I, J, R, c) Q := by
    intro f
    induction f with
    | zero =>
      intro i g1 g2
      have e : i = ns.length := by omega
      refine b_X1_howMany_4 hY (fun _ => b_X1_howMany_31 (by rw [e]; exact kk)) (fun z => ?_)
      rw [hC.1, e] at z; exact absurd (Int32.le_refl _) z
    | succ f ih =>
      intro i g1 g2
      have hi : i < ns.length := by omega
      have hx := ge_lt hi
      have hkd := ndk_at hx
      have hx2 := h2 _ (List.getElem_mem hi)
      have hcc := (hC.2 i _ hx).2.1
      have hiff : I (b + 2) (ii i).toNatClampNeg = ii k ↔ ndk ns i = k := by
        rw [ii_nat (by omega), hcc, ii_inj (by omega) (by omega), hkd]
      have := ih (i + 1) (by omega) (by omega)
      refine b_X1_howMany_4 hY (fun z => ?_) (fun _ => b_X1_howMany_12 hY (ii_inb (by omega) (by omega)) (fun z => b_X1_howMany_25 ?_) (fun z => b_X1_howMany_22 (b_X1_howMany_25 ?_)))
      · rw [hC.1, ii_le (by omega) (by omega)] at z; omega
      · rw [hiff] at z
        rw [fb_ct_succ, decide_eq_false z] at this
        rw [ii_add1]; exact this
      · rw [hiff] at z
        rw [fb_ct_succ, decide_eq_true (Classical.not_not.1 z)] at this
        rw [ii_add1, ii_add1]; exact this
  exact main ns.length 0 (by omega) (by omega)
theorem s_kinds (hL : Lay S R) (hN : R 65 11 = N) (hY : LyNo S R N) (h22 : I 65 22 = 1) (hsz : I N 4 = ii ns.length) (h40 : ns.length ≤ 40) (hC : ∀ i x, ns[i]? = some x → I (N + 2) i = ii (x.2.1 + 10) ∧ x.2.1 ≤ 2) (hk : k ≤ 2) (kk : Q (some (some (.int (ii (fb_ct (fun i => decide (ndk ns i = k)) ns.length))))) (S, I, J, R, c)) : X xs L d 165 0 [.ref 65, .int (ii (k + 10)), .null, .null] [] (S, I, J, R, c) Q := by
  refine b_X14_kinds_0 ?_
  have main : ∀ (f i : Nat), ns.length - i = f → i ≤ ns.length → X xs L d 165 4 [.ref 65, .int (ii (k + 10)), .int (ii (fb_ct (fun i => decide (ndk ns i = k)) i)), .int (ii i)] [] (S, I, J, R, c) Q := by
    intro f
    induction f with
    | zero =>
      intro i g1 g2
      have e : i = ns.length := by omega
      refine b_X14_kinds_4 hL (fun z => by rw [h22] at z; exact absurd z (by decide)) (fun _ => b_X14_kinds_11 hL hN hY (fun _ => b_X14_kinds_49 (by rw [e]; exact kk)) (fun z => ?_))
      rw [hsz, e] at z; exact absurd (Int32.le_refl _) z
    | succ f ih =>
      intro i g1 g2
      have hi : i < ns.length := by omega
      have hx := ge_lt hi
      have hkd := ndk_at hx
      obtain ⟨hcc, hx2⟩ := hC i _ hx
      have hiff : I (N + 2) (ii i).toNatClampNeg = ii (k + 10) ↔ ndk ns i = k := by
        rw [ii_nat (by omega), hcc, ii_inj (by omega) (by omega), hkd]; omega
      have := ih (i + 1) (by omega) (by omega)
      refine b_X14_kinds_4 hL (fun z => by rw [h22] at z; exact absurd z (by decide)) (fun _ => b_X14_kinds_11 hL hN hY (fun z => ?_) (fun _ => b_X14_kinds_22 hL hN hY (ii_inb (by omega) (by omega)) (fun z => b_X14_kinds_40 (b_X14_kinds_41 ?_)) (fun z => b_X14_kinds_36 (b_X14_kinds_41 ?_))))
      · rw [hsz, ii_le (by omega) (by omega)] at z; omega
      · rw [hiff] at z
        rw [fb_ct_succ, decide_eq_false z] at this
        rw [ii_zero, ii_add, ii_add1]; exact this
      · rw [hiff] at z
        rw [fb_ct_succ, decide_eq_true (Classical.not_not.1 z)] at this
        rw [ii_one, ii_add, ← ii_one, ii_add1]; exact this
  exact main ns.length 0 (by omega) (by omega)
end KND
