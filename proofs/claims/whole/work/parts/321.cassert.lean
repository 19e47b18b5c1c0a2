/-! ===== P2: assertion() of the class ===== -/
section CAS
variable {xs : Nat → Int32} {L d : Nat} {S : Nat → Shp} {I : Nat → Nat → Int32} {J : Nat → Nat → Int64} {R : Nat → Nat → Nat} {c : Nat × Nat} {Q : Option (Option Value) → MH → Prop} {b p0 q : Nat} {ns : List Nd} {l : List Int32}
def aKA (q x k : Nat) : Prop := aKc q x k ∨ (x = 2 ∧ k = 1) ∨ (x = 1 ∧ k = 8) ∨ aRi x k
def aKAj (q x k : Nat) : Prop := aKcj q x k ∨ aRj x k
theorem s_X10_assertion {len : Nat} (hL : Lay S R) (r4 : R 1 4 = b) (r6 : R 1 6 = p0) (r7 : R 1 7 = q) (hY : LyCm S R q) (hq : 44 < q) (hq2 : q < 56) (hYb : LyCi S R b) (hb36 : b < 36 ∧ 24 < b) (hl : I 2 1 = ii len) (hl2 : len ≤ 2000) (hC : CCi I J b ns l) (hW : CW ns l)
    (kF : ∀ kd key pl m, TKP (I 3) len kd key pl m → (asr kd key m (ns.map Prod.fst)).1 = false → ∀ I' J', fr (aKA q) I I' → fr (aKAj q) J J' → I' 2 1 = ii 0 → I' 1 8 = I 1 8 → (∀ x k, aRi x k → I' x k = I x k) → (∀ x k, aRj x k → J' x k = J x k) → Q (some (some (.int (ii (pl (asr kd key m (ns.map Prod.fst)).2.1))))) (S, I', J', u2 (u2 (u2 R 11 6 q) 11 7 b) 11 1 (q + 8), c))
    (kO : ∀ kd key pl m p cs gv kl g, TKP (I 3) len kd key pl m → asr kd key m (ns.map Prod.fst) = (true, p, cs, gv, kl, g) → ∀ I' J', fr (aKA q) I I' → fr (aKAj q) J J' → I' 2 1 = ii 0 → I' 1 8 = 1 → KCl I' q cs gv kl g → KI ns.length cs kl g → I' 13 2 = ii (2 ^ g.2.length) → I' 13 3 = ii (wdn g.2.length) → (∀ j, j < 64 → (tb (J' 13 4) j = true ↔ (g.2.length < 6 → j < 2 ^ g.2.length))) → (∀ w, w < wdn g.2.length → CkW ns l cs gv kl g.2.length J' w) → Q (some (some (.int (-2)))) (S, I', J', u2 (u2 (u2 (u2 (u2 (u2 (u2 R 11 6 q) 11 7 b) 11 1 (q + 8)) 1 6 q) 1 7 p0) 13 0 b) 13 1 q, c)) :
    X xs L (d + 8) 105 0 [.ref 1, .null, .null] [] (S, I, J, R, c) Q := by
  have hN := hW.1
  refine b_X10_assertion_0 hL r7 r4 ?_
  have hL1 : Lay S (u2 (u2 (u2 R 11 6 q) 11 7 b) 11 1 (q + 8)) := Lay_u2 (Lay_u2 (Lay_u2 hL (by decide)) (by decide)) (by decide)
  have hY1 : LyCm S (u2 (u2 (u2 R 11 6 q) 11 7 b) 11 1 (q + 8)) q := LyCm_u2 (LyCm_u2 (LyCm_u2 hY (by omega)) (by omega)) (by omega)
  have hYb1 : LyCi S (u2 (u2 (u2 R 11 6 q) 11 7 b) 11 1 (q + 8)) b := LyCi_u2 (LyCi_u2 (LyCi_u2 hYb (by omega)) (by omega)) (by omega)
  have hR1 : ∀ k, u2 (u2 (u2 R 11 6 q) 11 7 b) 11 1 (q + 8) 1 k = R 1 k := fun k => by rw [u2_a _ _ _ _ (by decide), u2_a _ _ _ _ (by decide), u2_a _ _ _ _ (by decide)]
  refine s_X4_read hL hY hq hq2 hYb (by omega) (by omega) hl hl2 hC.1 hN (fun kd key pl m ht hf I' J' f1 f2 => ?_) (fun kd key pl m p cs gv kl g ht hf I' J' f1 f2 hK => ?_)
  · have hp : pl (asr kd key m (ns.map Prod.fst)).2.1 ≤ 2000 := ht.2.2.2.2.1 _
    refine b_X10_assertion_15 hL1 (fun z => absurd z (ii_n2 (by omega))) (fun _ => b_X10_assertion_30 ?_)
    refine kF kd key pl m ht hf _ J' (fr_u _ (fr_sub f1 (fun x k z => Or.inl z)) (Or.inr (Or.inl ⟨rfl, rfl⟩))) (fr_sub f2 (fun x k z => Or.inl z)) (u2_e _ _ _ _) ?_ (fun x k z => ?_) (fun x k z => ?_)
    · rw [u2_a _ _ _ _ (by decide), f1 _ _ (by unfold aKc; omega)]
    · unfold aRi at z
      rw [u2_a _ _ _ _ (by omega), f1 _ _ (by unfold aKc; omega)]
    · unfold aRj at z
      rw [f2 _ _ (by unfold aKcj; omega)]
  · refine b_X10_assertion_15 hL1 (fun _ => ?_) (fun z => absurd rfl z)
    refine b_X10_assertion_32 (q_1_6 := p0) (q_1_7 := q) (q_1_4 := b) hL1 (by rw [hR1]; exact r6) (by rw [hR1]; exact r7) (by rw [hR1]; exact r4) ?_
    have hKI : KI ns.length cs kl g := by
      have := asr_I ht.2.2.1 hf
      rw [List.length_map] at this; exact this
    have hL2 : Lay S (u2 (u2 (u2 (u2 (u2 R 11 6 q) 11 7 b) 11 1 (q + 8)) 1 6 q) 1 7 p0) := Lay_u2 (Lay_u2 hL1 (by decide)) (by decide)
    have hY2 : LyCm S (u2 (u2 (u2 (u2 (u2 R 11 6 q) 11 7 b) 11 1 (q + 8)) 1 6 q) 1 7 p0) q := LyCm_u2 (LyCm_u2 hY1 (by omega)) (by omega)
    have hYb2 : LyCi S (u2 (u2 (u2 (u2 (u2 R 11 6 q) 11 7 b) 11 1 (q + 8)) 1 6 q) 1 7 p0) b := LyCi_u2 (LyCi_u2 hYb1 (by omega)) (by omega)
    have e1 : ∀ x k, 2 < x → u2 (u2 I' 2 1 0) 1 8 1 x k = I' x k := fun x k hx => by rw [u2_a _ _ _ _ (by omega), u2_a _ _ _ _ (by omega)]
    have hK2 : KCl (u2 (u2 I' 2 1 0) 1 8 1) q cs gv kl g := KCl_of hK (fun x k h1 _ => e1 x k (by omega))
    have hC2 : CCi (u2 (u2 I' 2 1 0) 1 8 1) J' b ns l := CCi_of hC (fun x k h1 h2 => by rw [e1 x k (by omega), f1 _ _ (by unfold aKc; omega)]) (fun x k h1 h2 => by rw [f2 _ _ (by unfold aKcj; omega)])
    have F1 : fr (aKA q) I (u2 (u2 I' 2 1 0) 1 8 1) := fr_u _ (fr_u _ (fr_sub f1 (fun x k z => Or.inl z)) (Or.inr (Or.inl ⟨rfl, rfl⟩))) (Or.inr (Or.inr (Or.inl ⟨rfl, rfl⟩)))
    have e21 : u2 (u2 I' 2 1 0) 1 8 1 2 1 = ii 0 := by rw [u2_a _ _ _ _ (by decide), u2_e]; rfl
    have e18 : u2 (u2 I' 2 1 0) 1 8 1 1 8 = 1 := u2_e _ _ _ _
    revert hK2 hC2 F1 e21 e18
    generalize u2 (u2 I' 2 1 0) 1 8 1 = I2
    intro hK2 hC2 F1 e21 e18
    show X xs L ((d + 1) + 6) 1 0 _ _ _ _
    refine s_X0_run (v1 := 0) (v2 := 0) hL2 hYb2 hY2 hb36 hq hC2 hW hK2 hKI (fun I3 J3 g1 g2 g3 g4 g5 g6 => b_X10_assertion_70 ?_)
    refine kO kd key pl m p cs gv kl g ht hf I3 J3 (fr_trans F1 (fr_sub g1 (fun x k z => Or.inr (Or.inr (Or.inr z))))) (fr_trans (fr_sub f2 (fun x k z => Or.inl z)) (fr_sub g2 (fun x k z => Or.inr z))) ?_ ?_ (KCl_of hK2 (fun x k h1 _ => g1 x k (by unfold aRi; omega))) hKI g3 g4 g5 g6
    · rw [g1 _ _ (by unfold aRi; omega)]; exact e21
    · rw [g1 _ _ (by unfold aRi; omega)]; exact e18
end CAS
