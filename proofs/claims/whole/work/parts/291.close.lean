/-! ===== P3: closures ===== -/
def wsh (s : Nat → Nat → Bool) : Nat → Nat → Nat → Bool
  | 0 => s
  | k + 1 => fun i j => wsh s k i j || (wsh s k i k && wsh s k k j)
theorem wsh_row (s : Nat → Nat → Bool) (k j : Nat) : wsh s (k + 1) k j = wsh s k k j := by
  show (wsh s k k j || (wsh s k k k && wsh s k k j)) = _
  cases wsh s k k j <;> simp
theorem wsh_snd (s : Nat → Nat → Bool) : ∀ (k i j : Nat), wsh s k i j = true → Relation.TransGen (fun a b => s a b = true) i j
  | 0, i, j, h => Relation.TransGen.single h
  | k + 1, i, j, h => by
    have h : (wsh s k i j || (wsh s k i k && wsh s k k j)) = true := h
    rw [Bool.or_eq_true, Bool.and_eq_true] at h
    rcases h with h | ⟨h1, h2⟩
    · exact wsh_snd s k i j h
    · exact Relation.TransGen.trans (wsh_snd s k i k h1) (wsh_snd s k k j h2)
theorem wsh_tr (s : Nat → Nat → Bool) : ∀ (k i v j : Nat), v < k → wsh s k i v = true → wsh s k v j = true → wsh s k i j = true
  | 0, _, _, _, h, _, _ => by omega
  | k + 1, i, v, j, h, h1, h2 => by
    have h1 : (wsh s k i v || (wsh s k i k && wsh s k k v)) = true := h1
    have h2 : (wsh s k v j || (wsh s k v k && wsh s k k j)) = true := h2
    show (wsh s k i j || (wsh s k i k && wsh s k k j)) = true
    rw [Bool.or_eq_true, Bool.and_eq_true] at h1 h2 ⊢
    by_cases hv : v = k
    · subst hv
      have a1 : wsh s v i v = true := by rcases h1 with q | q; exact q; exact q.1
      have a2 : wsh s v v j = true := by rcases h2 with q | q; exact q; exact q.2
      exact Or.inr ⟨a1, a2⟩
    · have hk : v < k := by omega
      rcases h1 with a | ⟨a, b⟩
      · rcases h2 with e | ⟨e, f⟩
        · exact Or.inl (wsh_tr s k i v j hk a e)
        · exact Or.inr ⟨wsh_tr s k i v k hk a e, f⟩
      · rcases h2 with e | ⟨e, f⟩
        · exact Or.inr ⟨a, wsh_tr s k k v j hk b e⟩
        · exact Or.inr ⟨a, f⟩
theorem wsh_mono (s : Nat → Nat → Bool) : ∀ (k i j : Nat), s i j = true → wsh s k i j = true
  | 0, _, _, h => h
  | k + 1, i, j, h => by
    show (wsh s k i j || _) = true
    rw [wsh_mono s k i j h]; rfl
theorem wsh_iff (s : Nat → Nat → Bool) (N : Nat) (hs : ∀ a b, s a b = true → b < N) (i j : Nat) : wsh s N i j = true ↔ Relation.TransGen (fun a b => s a b = true) i j := by
  constructor
  · exact wsh_snd s N i j
  · intro h
    have : wsh s N i j = true ∧ j < N := by
      induction h with
      | single h => exact ⟨wsh_mono s N _ _ h, hs _ _ h⟩
      | tail h1 h2 ih => exact ⟨wsh_tr s N _ _ _ ih.2 ih.1 (wsh_mono s N _ _ h2), hs _ _ h2⟩
    exact this.1
/-! ===== P2: closures in the class ===== -/
/-- a leaf of a part of the code -/
def hasL (l : List Int32) (s e j : Nat) : Prop := ∃ p, s ≤ p ∧ p < e ∧ l[p]? = some (ii j)
def ndk (ns : List Nd) (i : Nat) : Nat := match ns[i]? with
  | some x => x.2.1
  | none => 9
section CLS
variable {xs : Nat → Int32} {L d : Nat} {S : Nat → Shp} {I : Nat → Nat → Int32} {J : Nat → Nat → Int64} {R : Nat → Nat → Nat} {c : Nat × Nat} {Q : Option (Option Value) → MH → Prop} {a : Nat} {ns : List Nd} {l : List Int32}
/-- the leaves of a resolved code -/
def lvP (N : Nat) (x : Int32) : Prop := cop x ∨ ∃ v, v < N ∧ x = ii v
theorem s_X1_leavesOf {i : Nat} {x : Nd} (hY : LyCi S R a) (hcd : LyCd S R (a + 5)) (hC : CRd I J a ns) (hl : CdL I (a + 5) l) (hl2 : l.length ≤ 2000) (hP : ∀ y ∈ l, lvP 40 y) (hi : i < 40) (hx : ns[i]? = some x) (hs : x.2.2.2.1 ≤ x.2.2.2.2) (hs2 : x.2.2.2.2 ≤ l.length) (k : ∀ y, (∀ j, j < 64 → (tb y j = true ↔ hasL l x.2.2.2.1 x.2.2.2.2 j)) → Q (some (some (.long y))) (S, I, J, R, c)) : X xs L (d + 1) 32 0 [.ref a, .int (ii i), .null, .null, .null] [] (S, I, J, R, c) Q := by
  obtain ⟨c1, c2, c3, c4⟩ := hC.2 i x hx
  have hb : inb (ii i) 40 = true := ii_inb hi (by omega)
  refine b_X1_leavesOf_0 hY hb ?_
  rw [ii_nat (by omega), c3]
  have main : ∀ (f p : Nat) (y : Int64), x.2.2.2.2 - p = f → p ≤ x.2.2.2.2 → x.2.2.2.1 ≤ p → (∀ j, j < 64 → (tb y j = true ↔ hasL l x.2.2.2.1 p j)) → X xs L (d + 1) 32 10 [.ref a, .int (ii i), .long y, .null, .int (ii p)] [] (S, I, J, R, c) Q := by
    intro f
    induction f with
    | zero =>
      intro p y h1 h2 h3 h4
      have e : p = x.2.2.2.2 := by omega
      refine b_X1_leavesOf_10 hY hb (fun _ => b_X1_leavesOf_53 (k y (by rw [← e]; exact h4))) (fun z => ?_)
      rw [ii_nat (by omega), c4, e] at z
      exact absurd (Int32.le_refl _) z
    | succ f ih =>
      intro p y h1 h2 h3 h4
      have hpl : p < l.length := by omega
      have hpx : l[p]? = some l[p] := List.getElem?_eq_getElem hpl
      refine b_X1_leavesOf_10 hY hb (fun z => ?_) (fun _ => ?_)
      · rw [ii_nat (by omega), c4, ii_le (by omega) (by omega)] at z; omega
      have hat : f_X5_at I (a + 5) (ii p) = l[p] := by unfold f_X5_at; rw [ii_nat (by omega)]; exact hl.2 p _ hpx
      refine b_X1_leavesOf_21 hY (s_X5_at hcd (ii_inb (by omega) (by omega)) ?_)
      rw [hat]
      refine b_X1_leavesOf_30 (fun z => ?_) (fun z => ?_)
      · refine b_X1_leavesOf_47 ?_
        rw [ii_add1]
        refine ih (p + 1) y (by omega) (by omega) (by omega) (fun j hj => ?_)
        rw [h4 j hj]
        constructor
        · rintro ⟨q, q1, q2, q3⟩; exact ⟨q, q1, by omega, q3⟩
        · rintro ⟨q, q1, q2, q3⟩
          refine ⟨q, q1, ?_, q3⟩
          by_cases e : q = p
          · rw [e, hpx] at q3
            have e2 : l[p] = ii j := by simpa using q3
            rw [e2] at z
            exact absurd z (ii_nn (by omega))
          · omega
      · obtain ⟨v, hv, hxv⟩ : ∃ v, v < 40 ∧ l[p] = ii v := by
          rcases hP l[p] (List.getElem_mem hpl) with q | q
          · exact absurd (cop_neg q) z
          · exact q
        refine b_X1_leavesOf_33 hY (s_X5_at hcd (ii_inb (by omega) (by omega)) ?_)
        rw [hat]
        refine b_X1_leavesOf_44 (b_X1_leavesOf_47 ?_)
        rw [ii_add1]
        refine ih (p + 1) _ (by omega) (by omega) (by omega) (fun j hj => ?_)
        rw [hxv, tb_or, tb_one (by omega) hj, Bool.or_eq_true, h4 j hj, decide_eq_true_iff]
        constructor
        · rintro (⟨q, q1, q2, q3⟩ | q)
          · exact ⟨q, q1, by omega, q3⟩
          · exact ⟨p, h3, by omega, by rw [hpx, hxv, q]⟩
        · rintro ⟨q, q1, q2, q3⟩
          by_cases e : q = p
          · rw [e, hpx, hxv] at q3
            have e2 : ii v = ii j := by simpa using q3
            rw [ii_inj (by omega) (by omega)] at e2
            exact Or.inr e2.symm
          · exact Or.inl ⟨q, q1, by omega, q3⟩
  exact main _ _ _ rfl hs (Nat.le_refl _) (fun j _ => by
    rw [tb_0]
    constructor
    · intro h; cases h
    · rintro ⟨q, q1, q2, q3⟩; omega)
theorem s_X1_close {r1 N : Nat} {s : Nat → Nat → Bool} (hY : LyCi S R a) (h1 : S r1 = .inr (.long, 40)) (hN : I a 0 = ii N) (hN2 : N ≤ 40) (hs : ∀ i j, i < N → j < 64 → tb (J r1 i) j = s i j) (k : ∀ J', fr (fun x _ => x = r1) J J' → (∀ i j, i < N → j < 64 → tb (J' r1 i) j = wsh s N i j) → Q (some none) (S, I, J', R, c)) : X xs L d 33 0 [.ref a, .ref r1, .null, .null] [] (S, I, J, R, c) Q := by
  refine b_X1_close_0 ?_
  have inner : ∀ (v : Nat), v < N → ∀ (f n : Nat) (J' : Nat → Nat → Int64), N - n = f → n ≤ N → fr (fun x _ => x = r1) J J' → (∀ i j, i < N → j < 64 → tb (J' r1 i) j = if i < n then wsh s (v + 1) i j else wsh s v i j) → (∀ J', fr (fun x _ => x = r1) J J' → (∀ i j, i < N → j < 64 → tb (J' r1 i) j = wsh s (v + 1) i j) → X xs L d 33 2 [.ref a, .ref r1, .int (ii (v + 1)), .int (ii N)] [] (S, I, J', R, c) Q) → X xs L d 33 12 [.ref a, .ref r1, .int (ii v), .int (ii n)] [] (S, I, J', R, c) Q := by
    intro v hv f
    induction f with
    | zero =>
      intro n J' g1 g2 g3 g4 kk
      have e : n = N := by omega
      subst e
      refine b_X1_close_12 hY (fun _ => ?_) (fun z => ?_)
      · refine b_X1_close_47 ?_
        rw [ii_add1]
        exact kk J' g3 (fun i j hi hj => by rw [g4 i j hi hj, if_pos hi])
      · rw [hN] at z; exact absurd (Int32.le_refl _) z
    | succ f ih =>
      intro n J' g1 g2 g3 g4 kk
      have hn : n < N := by omega
      refine b_X1_close_12 hY (fun z => ?_) (fun _ => ?_)
      · rw [hN, ii_le (by omega) (by omega)] at z; omega
      have hn0 : ∀ j, j < 64 → tb (J' r1 n) j = wsh s v n j := fun j hj => by rw [g4 n j hn hj, if_neg (by omega)]
      have hv0 : ∀ j, j < 64 → tb (J' r1 v) j = wsh s v v j := fun j hj => by
        rw [g4 v j hv hj]; split
        · exact wsh_row s v j
        · rfl
      have hbn : inb (ii n) 40 = true := ii_inb (by omega) (by omega)
      refine b_X1_close_20 h1 hbn (fun z => ?_) (fun z => ?_)
      · rw [ii_nat (by omega), tb_test (by omega), hn0 v (by omega)] at z
        refine b_X1_close_41 ?_
        rw [ii_add1]
        refine ih (n + 1) J' (by omega) (by omega) g3 (fun i j hi hj => ?_) kk
        rw [g4 i j hi hj]
        by_cases e : i = n
        · subst e
          rw [if_neg (by omega), if_pos (by omega)]
          show _ = (wsh s v i j || (wsh s v i v && wsh s v v j))
          have : wsh s v i v = false := by cases h : wsh s v i v; rfl; exact absurd h z
          rw [this]; simp
        · by_cases e2 : i < n
          · rw [if_pos e2, if_pos (by omega)]
          · rw [if_neg e2, if_neg (by omega)]
      · rw [ii_nat (by omega), tb_test (by omega), hn0 v (by omega)] at z
        have z' := Classical.not_not.1 z
        refine b_X1_close_32 h1 hbn (ii_inb (by omega) (by omega)) hbn ?_
        rw [ii_nat (by omega), ii_nat (by omega)]
        refine b_X1_close_41 ?_
        rw [ii_add1]
        refine ih (n + 1) _ (by omega) (by omega) (fr_u _ g3 rfl) (fun i j hi hj => ?_) kk
        rw [u2_if]
        by_cases e : i = n
        · subst e
          rw [if_pos ⟨rfl, rfl⟩, if_pos (by omega), tb_or, hn0 j hj, hv0 j hj]
          show _ = (wsh s v i j || (wsh s v i v && wsh s v v j))
          rw [z']; simp
        · rw [if_neg (by omega), g4 i j hi hj]
          by_cases e2 : i < n
          · rw [if_pos e2, if_pos (by omega)]
          · rw [if_neg e2, if_neg (by omega)]
  have outer : ∀ (f v : Nat) (v3 : Value) (J' : Nat → Nat → Int64), N - v = f → v ≤ N → fr (fun x _ => x = r1) J J' → (∀ i j, i < N → j < 64 → tb (J' r1 i) j = wsh s v i j) → X xs L d 33 2 [.ref a, .ref r1, .int (ii v), v3] [] (S, I, J', R, c) Q := by
    intro f
    induction f with
    | zero =>
      intro v v3 J' g1 g2 g3 g4
      have e : v = N := by omega
      subst e
      refine b_X1_close_2 hY (fun _ => b_X1_close_53 (k J' g3 g4)) (fun z => ?_)
      rw [hN] at z; exact absurd (Int32.le_refl _) z
    | succ f ih =>
      intro v v3 J' g1 g2 g3 g4
      refine b_X1_close_2 hY (fun z => ?_) (fun _ => b_X1_close_10 ?_)
      · rw [hN, ii_le (by omega) (by omega)] at z; omega
      exact inner v (by omega) N 0 J' (by omega) (by omega) g3 (fun i j hi hj => by rw [if_neg (by omega)]; exact g4 i j hi hj) (fun J2 q1 q2 => ih (v + 1) _ J2 (by omega) (by omega) q1 q2)
  exact outer N 0 _ J (by omega) (by omega) (fr_refl _ _) hs
end CLS
