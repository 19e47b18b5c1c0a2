/-! ===== P3: both sides answer alike; end ===== -/
section AGR
variable {ns : List Nd} {l : List Int32} {cs : List Cl} {gv : Nat} {kl : List Int32} {V : Nat} {J : Nat → Nat → Int64} {I : Nat → Nat → Int32}
/-- a check of the class and the judgements of the model of one assertion -/
def AG (ns : List Nd) (l : List Int32) (cs : List Cl) (gv : Nat) (kl : List Int32) (V : Nat) (J : Nat → Nat → Int64) (I : Nat → Nat → Int32) : Prop := CW ns l ∧ V ≤ 9 ∧ (∀ y ∈ kl, lvP V y) ∧ (∀ x ∈ cs, x.1 < ns.length) ∧ (∀ w, w < wdn V → CkW ns l cs gv kl V J w) ∧ ∀ a, a < 2 ^ V → MJg ns l cs gv kl V I a
theorem ag_lane (h : AG ns l cs gv kl V J I) {a : Nat} (ha : a < 2 ^ V) : (lp J 23 a = true ↔ I 113 a = 1) ∧ (lp J 24 a = true ↔ I 113 a = 0 ∧ I 114 a = 1) ∧ (I 113 a = 0 → ∀ t, t ≤ lst cs → ∀ n, n < ns.length → ph (a % 64) (rlv J (a / 64) t n) = enc (vE I a t n) ∧ v3 (vE I a t n)) ∧ (I 113 a = 0 → ∀ u x t, cs[u]? = some x → t ≤ x.2.2.2.2.2 → (wrg J (a / 64) t u x (a % 64) ↔ ¬ met kl V I a t x)) := by
  obtain ⟨hW, hV, hkl, hcs, hC, hM⟩ := h
  have hp := pow_wdn hV
  have ea : 64 * (a / 64) + a % 64 = a := by omega
  have := lane_cmp hW hV (show a / 64 < wdn V by omega) (show a % 64 < 64 by omega) (by rw [ea]; exact ha) hkl hcs (hC _ (by omega)) (by rw [ea]; exact hM a ha)
  unfold pq at this
  rw [ea] at this
  exact this
theorem ag_01 (h : AG ns l cs gv kl V J I) {a : Nat} (ha : a < 2 ^ V) : (I 113 a = 0 ∨ I 113 a = 1) ∧ (I 114 a = 0 ∨ (I 114 a = 1 ∧ I 113 a = 0)) := by
  obtain ⟨⟨-, b, h1, -⟩, h2, h3⟩ := h.2.2.2.2.2 a ha
  have h01 : I 113 a = 0 ∨ I 113 a = 1 := by rw [h1]; exact bI_01 b
  refine ⟨h01, ?_⟩
  rcases h01 with e | e
  · rcases h3 e with z | z
    · exact Or.inl z.1
    · exact Or.inr ⟨z.1, e⟩
  · exact Or.inl (h2 e)
theorem ag_fail (h : AG ns l cs gv kl V J I) {a : Nat} (ha : a < 2 ^ V) : lp J 24 a = !decide (I 114 a = 0) := by
  have h1 := (ag_lane h ha).2.1
  rcases (ag_01 h ha).2 with e | ⟨e, e2⟩
  · rw [decide_eq_true e]
    cases hb : lp J 24 a with
    | false => rfl
    | true => have := (h1.1 hb).2; rw [e] at this; exact absurd this (by decide)
  · rw [h1.2 ⟨e2, e⟩, e]; rfl
theorem ag_out (h : AG ns l cs gv kl V J I) {a : Nat} (ha : a < 2 ^ V) : lp J 23 a = !decide (I 113 a = 0) := by
  have h1 := (ag_lane h ha).1
  rcases (ag_01 h ha).1 with e | e
  · rw [decide_eq_true e]
    cases hb : lp J 23 a with
    | false => rfl
    | true => have := h1.1 hb; rw [e] at this; exact absurd this (by decide)
  · rw [h1.2 e, e]; rfl
/-- nothing past the last assignment in use -/
theorem ag_past (h : AG ns l cs gv kl V J I) {a : Nat} (h1 : 2 ^ V ≤ a) (h2 : a < 64 * wdn V) : lp J 23 a = false ∧ lp J 24 a = false := by
  obtain ⟨hW, hV, hkl, hcs, hC, hM⟩ := h
  obtain ⟨-, -, c3, c4⟩ := hC (a / 64) (by omega)
  have ea : 64 * (a / 64) + a % 64 = a := by omega
  have c3 := c3 (a % 64) (by omega)
  have c4 := c4 (a % 64) (by omega)
  rw [ea] at c3 c4
  unfold lp
  constructor
  · cases hb : tb (J 23 (a / 64)) (a % 64) with
    | false => rfl
    | true => have := (c3.1 hb).2; omega
  · cases hb : tb (J 24 (a / 64)) (a % 64) with
    | false => rfl
    | true => have := (c4.1 hb).2.2; omega
theorem ag_counts (h : AG ns l cs gv kl V J I) : fb_ct (lp J 24) (64 * wdn V) = fb_ct (fun a => !decide (I 114 a = 0)) (2 ^ V) ∧ fb_ct (lp J 23) (64 * wdn V) = fb_ct (fun a => !decide (I 113 a = 0)) (2 ^ V) := by
  have hV := h.2.1
  rw [ct_cut hV (fun a h1 h2 => (ag_past h h1 h2).2), ct_cut hV (fun a h1 h2 => (ag_past h h1 h2).1)]
  exact ⟨fb_ct_cong (fun a ha => ag_fail h ha), fb_ct_cong (fun a ha => ag_out h ha)⟩
theorem ag_value (h : AG ns l cs gv kl V J I) {a t n : Nat} (ha : a < 2 ^ V) (ht : t ≤ lst cs) (hn : n < ns.length) : vC J a t n = if I 113 a = 0 then vE I a t n else 3 := by
  have h1 := ag_out h ha
  unfold lp at h1
  unfold vC
  rw [h1]
  by_cases e : I 113 a = 0
  · rw [if_pos e, decide_eq_true e, if_neg (by decide)]
    obtain ⟨p1, p2⟩ := (ag_lane h ha).2.2.1 e t ht n hn
    have q1 : tb (J 21 (ix (a / 64) t n)) (a % 64) = decide (vE I a t n = 1) := congrArg Prod.fst p1
    have q2 : tb (J 22 (ix (a / 64) t n)) (a % 64) = decide (vE I a t n = 0) := congrArg Prod.snd p1
    rw [q1, q2]
    rcases p2 with z | z | z <;> rw [z] <;> decide
  · rw [if_neg e, decide_eq_false e, if_pos (by decide)]
/-- the first clause not met is the same on both sides -/
theorem ag_short (h : AG ns l cs gv kl V J I) {a u t : Nat} {x : Cl} (ha : a < 2 ^ V) (hf : fwr J cs gv a u t x) (h24 : lp J 24 a = true) : I 115 a = ii (u - gv) ∧ I 116 a = ii t := by
  obtain ⟨e0, e1⟩ := (ag_lane h ha).2.1.1 h24
  have hw := (ag_lane h ha).2.2.2 e0
  obtain ⟨f1, f2, f3, f4, f5, f6⟩ := hf
  rcases (h.2.2.2.2.2 a ha).2.2 e0 with ⟨z, -⟩ | ⟨-, u', x', t', r1, r2, r3, r4, r5, r6, r7, r8⟩
  · rw [z] at e1; exact absurd e1 (by decide)
  have n1 : ¬ bfr u t u' t' := fun z => f6 u' x' t' r1 r2 r3 r4 z ((hw u' x' t' r2 r4).2 r5)
  have n2 : ¬ bfr u' t' u t := fun z => ((hw u x t f2 f4).1 f5) (r8 u x t f1 f2 f3 f4 z)
  unfold bfr at n1 n2
  have eu : u' = u := by omega
  have et : t' = t := by omega
  rw [r6, r7, eu, et]; exact ⟨rfl, rfl⟩
end AGR
section ENDS
variable {xs : Nat → Int32} {L d : Nat} {S : Nat → Shp} {I : Nat → Nat → Int32} {J : Nat → Nat → Int64} {R : Nat → Nat → Nat} {c : Nat × Nat} {Q : Option (Option Value) → MH → Prop} {x : Int32}
theorem s_cend (hL : Lay S R) (k1 : (x < 0 ∨ ¬ x ≤ I 2 1) → Q (some (some (.int (-1)))) (S, I, J, R, c)) (k2 : ¬ x < 0 → x ≤ I 2 1 → Q (some (some (.int x))) (S, u2 I 2 1 x, J, R, c)) : X xs L d 103 0 [.ref 1, .int x] [] (S, I, J, R, c) Q :=
  b_X10_end_0 (fun z => b_X10_end_15 (k1 (Or.inl z))) (fun z => b_X10_end_4 hL (fun z2 => b_X10_end_17 hL (k2 z z2)) (fun z2 => b_X10_end_15 (k1 (Or.inr z2))))
theorem s_mend (hL : Lay S R) (k1 : (x < 0 ∨ ¬ x ≤ I 65 1) → Q (some (some (.int (-1)))) (S, I, J, R, c)) (k2 : ¬ x < 0 → x ≤ I 65 1 → Q (some (some (.int x))) (S, u2 I 65 1 x, J, R, c)) : X xs L d 121 0 [.ref 65, .int x] [] (S, I, J, R, c) Q :=
  b_X14_end_0 (fun z => b_X14_end_12 (k1 (Or.inl z))) (fun z => b_X14_end_4 hL (fun z2 => b_X14_end_14 hL (k2 z z2)) (fun z2 => b_X14_end_12 (k1 (Or.inr z2))))
end ENDS
