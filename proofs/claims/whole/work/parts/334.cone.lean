/-! ===== P2: cone of both sides ===== -/
section CONE
variable {xs : Nat → Int32} {L d : Nat} {S : Nat → Shp} {I : Nat → Nat → Int32} {J : Nat → Nat → Int64} {R : Nat → Nat → Nat} {c : Nat × Nat} {Q : Option (Option Value) → MH → Prop} {b N T : Nat} {ns : List Nd} {l : List Int32} {x : Int32}
theorem s_ccone (hL : Lay S R) (r4 : R 1 4 = b) (hY : LyCi S R b) (hC : CCi I J b ns l) (h40 : ns.length ≤ 40) (k1 : (¬ ∃ n, n < ns.length ∧ x = ii n) → Q (some (some (.int (-2)))) (S, I, J, R, c)) (k2 : ∀ n, n < ns.length → x = ii n → Q (some (some (.int (ii (fb_ct (wsh (adj ns l) ns.length n) 64))))) (S, I, J, R, c)) : X xs L (d + 1) 112 0 [.ref 1, .int x] [] (S, I, J, R, c) Q := by
  refine b_X10_cone_0 hL r4 hY (s_X1_hasNode hY ?_)
  unfold f_X1_hasNode
  rw [hC.1.1]
  by_cases e1 : x < 0
  · rw [if_pos e1]
    exact b_X10_cone_8 (fun _ => b_X10_cone_26 (b_X10_cone_28 (k1 (no_rg (by omega) (Or.inl e1))))) (fun z => absurd rfl z)
  · rw [if_neg e1]
    by_cases e2 : ii ns.length ≤ x
    · rw [if_pos e2]
      exact b_X10_cone_8 (fun _ => b_X10_cone_26 (b_X10_cone_28 (k1 (no_rg (by omega) (Or.inr e2))))) (fun z => absurd rfl z)
    · rw [if_neg e2]
      obtain ⟨n, hn, rfl⟩ := in_rg (by omega) e1 e2
      refine b_X10_cone_8 (fun z => absurd z (by decide)) (fun _ => b_X10_cone_11 hL r4 hY (ii_inb (by omega) (by omega)) (s_J13_bitCount_95d88 (b_X10_cone_23 (b_X10_cone_28 ?_))))
      rw [ii_nat (by omega), bc_eq, fb_ct_cong (fun j hj => hC.2.2.1 n j hn hj)]
      exact k2 n hn rfl
theorem s_mcone (hL : Lay S R) (hT : R 65 9 = T) (hYT : LyTr S R T) (hN : R 65 11 = N) (hYN : LyNo S R N) (hT1 : 65 < T ∧ T < 112) (hN1 : 65 < N ∧ N + 4 < 112) (h22 : I 65 22 = 1) (hM : MCr N T I J ns l) (k1 : (¬ ∃ n, n < ns.length ∧ x = ii n) → Q (some (some (.int (-2)))) (S, I, J, R, c)) (k2 : ∀ n, n < ns.length → x = ii n → ∀ I', fr (fun x _ => x = 118) I I' → Q (some (some (.int (ii (fb_ct (wsh (adj ns l) ns.length n) 64))))) (S, I', J, u2 R 65 17 T, c)) : X xs L (d + 703) 164 0 [.ref 65, .int x, .null, .null] [] (S, I, J, R, c) Q := by
  have h40 := hM.2.1
  refine b_X14_cone_0 hL (fun z => by rw [h22] at z; exact absurd z (by decide)) (fun _ => b_X14_cone_7 (fun e1 => b_X14_cone_22 (k1 (no_rg (by omega) (Or.inl e1)))) (fun e1 => b_X14_cone_11 hL hN hYN (fun e2 => ?_) (fun e2 => b_X14_cone_22 (k1 (no_rg (by omega) (Or.inr (by rw [hM.1] at e2; exact Int32.not_lt.1 e2)))))))
  rw [hM.1] at e2
  obtain ⟨n, hn, rfl⟩ := in_rg (by omega) e1 (Int32.not_le.2 e2)
  refine b_X14_cone_25 hL hT hN ?_
  have hL1 : Lay S (u2 R 65 17 T) := Lay_u2 hL (by decide)
  have hYT1 : LyTr S (u2 R 65 17 T) T := LyTr_u2 hYT (by omega)
  have hYN1 : LyNo S (u2 R 65 17 T) N := LyNo_u2 hYN (by omega)
  have hN3 : u2 R 65 17 T 65 11 = N := by rw [u2_k _ _ _ _ (by decide)]; exact hN
  refine s_Mreach (w := 0) hL1 (u2_e _ _ _ _) hYT1 hYN1 (by omega) (by omega) hM hn (by omega) (fun I' f1 h1 => b_X14_cone_43 ?_)
  have hw : ∀ j, j < ns.length → (I' 118 j = 0 ↔ wsh (adj ns l) ns.length n j = false) ∧ (¬ I' 118 j = 0 ↔ wsh (adj ns l) ns.length n j = true) := by
    intro j hj
    have hi := wsh_iff (adj ns l) ns.length (fun a b h => adj_lt h) n j
    have hE : Relation.TransGen (wE ns l 0) n j ↔ Relation.TransGen (fun a b => adj ns l a b = true) n j := by
      have e : wE ns l 0 = fun a b => adj ns l a b = true := by
        funext a b
        unfold wE
        exact propext ⟨fun z => z.1, fun z => ⟨z, fun w => absurd w (by decide)⟩⟩
      rw [e]
    rcases h1 j hj with ⟨z1, z2⟩ | ⟨z1, z2⟩
    · rw [hE, ← hi, Bool.not_eq_true] at z2
      rw [z1, z2]; simp
    · rw [hE, ← hi] at z2
      rw [z1, z2]; simp
  have hsz : I' N 4 = ii ns.length := by rw [f1 _ _ (by omega)]; exact hM.1
  have main : ∀ (f i : Nat), ns.length - i = f → i ≤ ns.length → X xs L (d + 703) 164 47 [.ref 65, .int (ii n), .int (ii (fb_ct (wsh (adj ns l) ns.length n) i)), .int (ii i)] [] (S, I', J, u2 R 65 17 T, c) Q := by
    intro f
    induction f with
    | zero =>
      intro i g1 g2
      have e : i = ns.length := by omega
      refine b_X14_cone_47 hL1 hN3 hYN1 (fun _ => b_X14_cone_81 ?_) (fun z => ?_)
      · have hk := k2 n hn rfl I' f1
        have e2 : fb_ct (wsh (adj ns l) ns.length n) 64 = fb_ct (wsh (adj ns l) ns.length n) ns.length := by
          have es := fb_ct_split (wsh (adj ns l) ns.length n) ns.length (64 - ns.length)
          rw [show ns.length + (64 - ns.length) = 64 by omega] at es
          have ez : fb_ct (fun k => wsh (adj ns l) ns.length n (ns.length + k)) (64 - ns.length) = 0 := fb_ct_zero.2 (fun k _ => by
            rw [← Bool.not_eq_true]
            intro hb
            have ht := (wsh_iff (adj ns l) ns.length (fun a b h => adj_lt h) n (ns.length + k)).1 hb
            have : ns.length + k < ns.length := by
              cases ht with
              | single h => exact adj_lt h
              | tail _ h => exact adj_lt h
            omega)
          omega
        rw [e2] at hk
        rw [e]; exact hk
      · rw [hsz, e] at z; exact absurd (Int32.le_refl _) z
    | succ f ih =>
      intro i g1 g2
      have hi : i < ns.length := by omega
      have := ih (i + 1) (by omega) (by omega)
      refine b_X14_cone_47 hL1 hN3 hYN1 (fun z => ?_) (fun _ => b_X14_cone_58 hL1 (ii_inb (by omega) (by omega)) (fun z => b_X14_cone_72 (b_X14_cone_73 ?_)) (fun z => b_X14_cone_68 (b_X14_cone_73 ?_)))
      · rw [hsz, ii_le (by omega) (by omega)] at z; omega
      · rw [ii_nat (by omega), (hw i hi).1] at z
        rw [fb_ct_succ, z] at this
        rw [ii_zero, ii_add, ii_add1]; exact this
      · rw [ii_nat (by omega), (hw i hi).2] at z
        rw [fb_ct_succ, z] at this
        rw [ii_one, ii_add, ← ii_one, ii_add1]; exact this
  exact main ns.length 0 (by omega) (by omega)
theorem s_mcone0 (hL : Lay S R) (h22 : I 65 22 = 0) (k1 : Q (some (some (.int (-2)))) (S, I, J, R, c)) : X xs L (d + 1) 164 0 [.ref 65, .int x, .null, .null] [] (S, I, J, R, c) Q :=
  b_X14_cone_0 hL (fun _ => b_X14_cone_22 k1) (fun z => absurd h22 z)
end CONE
