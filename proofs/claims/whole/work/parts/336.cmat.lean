/-! ===== P2: matters of the class ===== -/
/-- the word and the lanes between a lane and its partner -/
def pwd (e w : Nat) : Nat := if e < 6 then w else w ||| 2 ^ (e - 6)
def pwl (e : Nat) : Nat := if e < 6 then 2 ^ e else 0
theorem pw_a {e : Nat} (he : e < 6) : (1 : Int32) <<< (ii e &&& 31) = ii (2 ^ e) := by
  have : ∀ e : Fin 6, (1 : Int32) <<< (ii e.val &&& 31) = ii (2 ^ e.val) := by decide +kernel
  exact this ⟨e, he⟩
theorem pw_b {e w : Nat} (he : e < 9) (hw : w < 8) (h6 : 6 ≤ e) : ii w ||| ((1 : Int32) <<< ((ii e - 6) &&& 31)) = ii (w ||| 2 ^ (e - 6)) := by
  have : ∀ (e : Fin 9) (w : Fin 8), 6 ≤ e.val → ii w.val ||| ((1 : Int32) <<< ((ii e.val - 6) &&& 31)) = ii (w.val ||| 2 ^ (e.val - 6)) := by decide +kernel
  exact this ⟨e, he⟩ ⟨w, hw⟩ h6
theorem pwd_lt {e w : Nat} (he : e < 9) (hw : w < 8) : pwd e w < 8 := by
  have : ∀ (e : Fin 9) (w : Fin 8), pwd e.val w.val < 8 := by decide +kernel
  exact this ⟨e, he⟩ ⟨w, hw⟩
theorem pwl_lt {e : Nat} (he : e < 9) : pwl e < 64 := by
  have : ∀ (e : Fin 9), pwl e.val < 64 := by decide +kernel
  exact this ⟨e, he⟩
theorem pw_or {e w j : Nat} (he : e < 9) (hw : w < 8) (hj : j < 64) (h : (64 * w + j).testBit e = false) : ((64 * w + j) ||| 2 ^ e) / 64 = pwd e w ∧ ((64 * w + j) ||| 2 ^ e) % 64 = pwl e + j := by
  have : ∀ (e : Fin 9) (w : Fin 8) (j : Fin 64), (64 * w.val + j.val).testBit e.val = false → ((64 * w.val + j.val) ||| 2 ^ e.val) / 64 = pwd e.val w.val ∧ ((64 * w.val + j.val) ||| 2 ^ e.val) % 64 = pwl e.val + j.val := by decide +kernel
  exact this ⟨e, he⟩ ⟨w, hw⟩ ⟨j, hj⟩ h
/-- a lane whose partner has another value -/
def cgB (J : Nat → Nat → Int64) (t n e w j : Nat) : Bool := ((tb (J 21 (ix w t n)) j ^^ tb (J 21 (ix (pwd e w) t n)) (pwl e + j)) || (tb (J 22 (ix w t n)) j ^^ tb (J 22 (ix (pwd e w) t n)) (pwl e + j))) && !(tb (J 23 w) j || tb (J 23 (pwd e w)) (pwl e + j)) && !(64 * w + j).testBit e && tb (J 13 4) j
section CMA
variable {xs : Nat → Int32} {L d : Nat} {S : Nat → Shp} {I : Nat → Nat → Int32} {J : Nat → Nat → Int64} {R : Nat → Nat → Nat} {c : Nat × Nat} {Q : Option (Option Value) → MH → Prop} {V q b NN m n t v e w W : Nat} {x1 x2 x3 : Int32}
theorem s_changed (hL : Lay S R) (hw : w < 8) (he : e < 9) (ht : t < 12) (hn : n < 40) (k : ∀ y, (∀ j, j < 64 → tb y j = cgB J t n e w j) → Q (some (some (.long y))) (S, I, J, R, c)) : X xs L (d + 1) 25 0 [.ref 13, .int (ii (40 * t + n)), .int (ii w), .int (ii e), .null, .null, .null, .null, .null, .null, .null, .null] [] (S, I, J, R, c) Q := by
  have hp := pwd_lt he hw
  have hl := pwl_lt he
  have r0 : ∀ w', w' < 8 → f_X0_row (ii w') 0 + ii (40 * t + n) = ii (ix w' t n) := fun w' h => by
    have := rowE (t := 0) h (by omega)
    rw [← ii_zero] at this
    rw [this, ii_add]; unfold ix; congr 1; omega
  have hi : ∀ w', w' < 8 → ix w' t n < 3840 := fun w' h => by unfold ix; omega
  have h33 : X xs L (d + 1) 25 33 [.ref 13, .int (ii (40 * t + n)), .int (ii w), .int (ii e), .int (ii (pwl e)), .null, .null, .null, .null, .null, .null, .null] [.int (ii (pwd e w))] (S, I, J, R, c) Q := by
    refine b_X0_changedLanes_33 (s_X0_row ?_)
    refine b_X0_changedLanes_40 (s_X0_row ?_)
    rw [r0 w hw]
    have b1 : inb (ii (ix w t n)) 3840 = true := ii_inb (hi w hw) (by omega)
    have b2 : inb (f_X0_row (ii (pwd e w)) 0 + ii (40 * t + n)) 3840 = true := by rw [r0 _ hp]; exact ii_inb (hi _ hp) (by omega)
    refine b_X0_changedLanes_50 hL b1 b2 b1 b2 (ii_inb hw (by omega)) (ii_inb hp (by omega)) (s_X0_lanesWith (fun h => ?_) (b_X0_changedLanes_130 hL (k _ ?_)))
    · have h6 : ¬ 6 ≤ e := fun z => h ((ii_le (n := 6) (by omega) (by omega)).2 z)
      exact ii_inb (N := (jTab 1).length) (show e < 6 by omega) (by decide)
    · intro j hj
      have hiw := hi w hw
      have hip := hi _ hp
      rw [r0 _ hp, ii_nat (by omega), ii_nat (by omega), ii_nat (by omega), ii_nat (by omega), tb_and, tb_and, tb_and, tb_not hj, tb_not hj]
      simp only [tb_or, tb_xor, tb_ushr hl, lnW he hw hj]
      rfl
  by_cases h6 : e < 6
  · have hn6 : ¬ (6 : Int32) ≤ ii e := fun z => by rw [show (6 : Int32) = ii 6 from rfl, ii_le (by omega) (by omega)] at z; omega
    refine b_X0_changedLanes_0 (fun z => absurd z hn6) (fun _ => b_X0_changedLanes_6 (b_X0_changedLanes_13 (fun z => absurd z hn6) (fun _ => b_X0_changedLanes_21 ?_)))
    rw [pw_a h6]
    rw [show pwl e = 2 ^ e from if_pos h6, show pwd e w = w from if_pos h6] at h33
    exact h33
  · have hn6 : (6 : Int32) ≤ ii e := by rw [show (6 : Int32) = ii 6 from rfl, ii_le (by omega) (by omega)]; omega
    refine b_X0_changedLanes_0 (fun _ => b_X0_changedLanes_12 (b_X0_changedLanes_13 (fun _ => b_X0_changedLanes_25 ?_) (fun z => absurd hn6 z))) (fun z => absurd hn6 z)
    rw [pw_b he hw (by omega)]
    rw [show pwl e = 0 from if_neg h6, show pwd e w = w ||| 2 ^ (e - 6) from if_neg h6] at h33
    exact h33
theorem s_ever (hL : Lay S R) (hq : R 13 1 = q) (hY : LyCm S R q) (hv : I q 0 = ii V) (hV : V ≤ 9) (h3 : I 13 3 = ii W) (hW : W ≤ 8) (hvv : v < V) (ht : t < 12) (hn : n < 40) (k1 : (∃ w j, w < W ∧ j < 64 ∧ cgB J t n (V - 1 - v) w j = true) → Q (some (some (.int 1))) (S, I, J, R, c)) (k2 : (¬ ∃ w j, w < W ∧ j < 64 ∧ cgB J t n (V - 1 - v) w j = true) → Q (some (some (.int 0))) (S, I, J, R, c)) : X xs L (d + 2) 24 0 [.ref 13, .int (ii n), .int (ii t), .int (ii v), .null] [] (S, I, J, R, c) Q := by
  refine b_X0_everMatters_0 ?_
  have main : ∀ (f w : Nat), W - w = f → w ≤ W → (∀ w' j, w' < w → j < 64 → ¬ cgB J t n (V - 1 - v) w' j = true) → X xs L (d + 2) 24 3 [.ref 13, .int (ii n), .int (ii t), .int (ii v), .int (ii w)] [] (S, I, J, R, c) Q := by
    intro f
    induction f with
    | zero =>
      intro w g1 g2 g3
      have e : w = W := by omega
      subst e
      refine b_X0_everMatters_3 hL (fun _ => b_X0_everMatters_43 (k2 ?_)) (fun z => absurd (by rw [h3]; exact Int32.le_refl _) z)
      rintro ⟨w', j, h1, h2, h3⟩; exact g3 w' j h1 h2 h3
    | succ f ih =>
      intro w g1 g2 g3
      refine b_X0_everMatters_3 hL (fun z => by rw [h3, ii_le (by omega) (by omega)] at z; omega) (fun _ => b_X0_everMatters_12 (s_X0_row (b_X0_everMatters_18 hL (s_X0_bitOf hL hq hY ?_))))
      have e1 : f_X0_row 0 (ii t) + ii n = ii (40 * t + n) := by
        have := rowE (w := 0) (t := t) (by omega) (by omega)
        rw [← ii_zero] at this
        rw [this, ii_add]; congr 1; omega
      have e2 : f_X0_bitOf I q (ii v) = ii (V - 1 - v) := by
        unfold f_X0_bitOf
        rw [hv, ii_one, ii_sub (by omega), ii_sub (by omega)]
      rw [e1, e2]
      refine b_X0_everMatters_27 hL (s_changed hL (by omega) (by omega) ht hn (fun y hy => b_X0_everMatters_30 (fun z => b_X0_everMatters_37 ?_) (fun z => b_X0_everMatters_35 (k1 ?_))))
      · rw [ii_add1]
        refine ih (w + 1) (by omega) (by omega) (fun w' j h1 h2 h => ?_)
        by_cases e : w' = w
        · subst e
          rw [← hy j h2, (tb_z y).1 (lgc.1 z) j h2] at h
          exact absurd h (by decide)
        · exact g3 w' j (by omega) h2 h
      · apply Classical.byContradiction
        intro hno
        apply z
        rw [lgc, tb_z]
        intro j hj
        cases hb : tb y j with
        | false => rfl
        | true => exact absurd ⟨w, j, by omega, hj, by rw [← hy j hj]; exact hb⟩ hno
  exact main W 0 (Nat.sub_zero _) (Nat.zero_le _) (fun w' j h => absurd h (Nat.not_lt_zero _))
theorem s_cmat (hL : Lay S R) (r4 : R 1 4 = b) (hYb : LyCi S R b) (r6 : R 1 6 = q) (hq : R 13 1 = q) (hY : LyCm S R q) (hN : I b 0 = ii NN) (hm : I q 4 = ii m) (hN2 : NN ≤ 40) (hm2 : m < 12) (h18 : I 1 8 = 1) (hV : V ≤ 9) (hv : I q 0 = ii V) (h3 : I 13 3 = ii (wdn V)) (k1 : (¬ plc NN m x1 x2 ∨ ¬ ∃ v, v < V ∧ x3 = ii v) → Q (some (some (.int (-2)))) (S, I, J, R, c)) (k2 : ∀ n t v, n < NN → t ≤ m → v < V → x1 = ii n → x2 = ii t → x3 = ii v → (∃ w j, w < wdn V ∧ j < 64 ∧ cgB J t n (V - 1 - v) w j = true) → Q (some (some (.int 1))) (S, I, J, R, c)) (k3 : ∀ n t v, n < NN → t ≤ m → v < V → x1 = ii n → x2 = ii t → x3 = ii v → (¬ ∃ w j, w < wdn V ∧ j < 64 ∧ cgB J t n (V - 1 - v) w j = true) → Q (some (some (.int 0))) (S, I, J, R, c)) : X xs L (d + 3) 111 0 [.ref 1, .int x1, .int x2, .int x3] [] (S, I, J, R, c) Q := by
  refine b_X10_matters_0 hL (s_cplace hL r4 hYb r6 hY hN hm hN2 hm2 h18 (fun hp => b_X10_matters_6 (fun _ => b_X10_matters_24 (k1 (Or.inl hp))) (fun z => absurd rfl z)) (fun hp => b_X10_matters_6 (fun z => absurd z (by decide)) (fun _ => b_X10_matters_9 (fun e1 => b_X10_matters_24 (k1 (Or.inr (no_rg (by omega) (Or.inl e1))))) (fun e1 => b_X10_matters_13 hL r6 hY (fun e2 => ?_) (fun e2 => b_X10_matters_24 (k1 (Or.inr (no_rg (by omega) (Or.inr (by rw [hv] at e2; exact Int32.not_lt.1 e2))))))))))
  rw [hv] at e2
  obtain ⟨v, hvv, rfl⟩ := in_rg (by omega) e1 (Int32.not_le.2 e2)
  obtain ⟨n, t, hn, ht, rfl, rfl⟩ := hp
  refine b_X10_matters_27 hL (s_ever hL hq hY hv hV h3 (wdn_le hV) hvv (by omega) (by omega) (fun h => b_X10_matters_37 (fun z => absurd z (by decide)) (fun _ => b_X10_matters_40 (b_X10_matters_45 (k2 n t v hn ht hvv rfl rfl rfl h)))) (fun h => b_X10_matters_37 (fun _ => b_X10_matters_44 (b_X10_matters_45 (k3 n t v hn ht hvv rfl rfl rfl h))) (fun z => absurd rfl z)))
end CMA
/-- both sides find alike that a variable matters -/
theorem ag_mat {ns : List Nd} {l : List Int32} {cs : List Cl} {gv : Nat} {kl : List Int32} {V v t n : Nat} {J : Nat → Nat → Int64} {I : Nat → Nat → Int32} (h : AG ns l cs gv kl V J I) (hU : ∀ j, j < 64 → (tb (J 13 4) j = true ↔ (V < 6 → j < 2 ^ V))) (hvv : v < V) (ht : t ≤ lst cs) (hn : n < ns.length) : (∃ w j, w < wdn V ∧ j < 64 ∧ cgB J t n (V - 1 - v) w j = true) ↔ ∃ a, a < 2 ^ V ∧ mat I V v t n a := by
  have hV := h.2.1
  have he : V - 1 - v < 9 := by omega
  have hw8 := wdn_le hV
  have key : ∀ w j, w < wdn V → j < 64 → 64 * w + j < 2 ^ V → (cgB J t n (V - 1 - v) w j = true ↔ mat I V v t n (64 * w + j)) := by
    intro w j hw hj ha
    have hU' := (hU j hj).2 ((lane_lt hV hw hj).2 ha)
    unfold cgB mat
    rw [hU', Bool.and_true]
    cases hb : (64 * w + j).testBit (V - 1 - v) with
    | true => simp
    | false =>
      obtain ⟨o1, o2⟩ := pw_or he (by omega) hj hb
      have hor : (64 * w + j) ||| 2 ^ (V - 1 - v) < 2 ^ V := Nat.or_lt_two_pow ha (Nat.pow_lt_pow_right (by omega) (by omega))
      have a1 := ag_out h ha
      have a2 := ag_out h hor
      have v1 := fun e => (ag_lane h ha).2.2.1 e t ht n hn
      have v2 := fun e => (ag_lane h hor).2.2.1 e t ht n hn
      unfold lp at a1 a2
      rw [show (64 * w + j) / 64 = w by omega, show (64 * w + j) % 64 = j by omega] at a1 v1
      rw [o1, o2] at a2 v2
      rw [a1, a2]
      generalize hA : (64 * w + j) ||| 2 ^ (V - 1 - v) = a'
      rw [hA] at v2
      generalize 64 * w + j = a at v1
      by_cases e1 : I 113 a = 0
      · by_cases e2 : I 113 a' = 0
        · obtain ⟨p1, p1'⟩ := v1 e1
          obtain ⟨p2, p2'⟩ := v2 e2
          have q1 : tb (J 21 (ix w t n)) j = decide (vE I a t n = 1) := congrArg Prod.fst p1
          have q2 : tb (J 22 (ix w t n)) j = decide (vE I a t n = 0) := congrArg Prod.snd p1
          have q3 : tb (J 21 (ix (pwd (V - 1 - v) w) t n)) (pwl (V - 1 - v) + j) = decide (vE I a' t n = 1) := congrArg Prod.fst p2
          have q4 : tb (J 22 (ix (pwd (V - 1 - v) w) t n)) (pwl (V - 1 - v) + j) = decide (vE I a' t n = 0) := congrArg Prod.snd p2
          rw [q1, q2, q3, q4, decide_eq_true e1, decide_eq_true e2]
          rcases p1' with z | z | z <;> rcases p2' with z' | z' | z' <;> rw [z, z'] <;> simp [e1, e2] <;> decide
        · rw [decide_eq_false e2]; simp [e2]
      · rw [decide_eq_false e1]; simp [e1]
  constructor
  · rintro ⟨w, j, h1, h2, h3⟩
    have ha : 64 * w + j < 2 ^ V := by
      apply (lane_lt hV h1 h2).1
      apply (hU j h2).1
      unfold cgB at h3
      rw [Bool.and_eq_true] at h3
      exact h3.2
    exact ⟨_, ha, (key w j h1 h2 ha).1 h3⟩
  · rintro ⟨a, ha, h1⟩
    have hp := pow_wdn hV
    have ea : 64 * (a / 64) + a % 64 = a := by omega
    refine ⟨a / 64, a % 64, by omega, by omega, ?_⟩
    rw [key (a / 64) (a % 64) (by omega) (by omega) (by rw [ea]; exact ha), ea]
    exact h1
