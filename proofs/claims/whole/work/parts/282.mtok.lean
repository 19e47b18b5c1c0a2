/-! ===== P2: the model at a token ===== -/
def TE (ck : Int32) (key : Int64) (mk : Int32) (w : Int64) (sz : Int32) : Prop := TR ck key mk w sz ∨ (mk = 0 ∧ ck = 0)
theorem sgn_ne {x c : Int32} (h : sgn x = true) (hc : sgn c = false) : ¬ x = c := by intro e; rw [e, hc] at h; cases h
theorem wrd_ne : ∀ i : Fin 9, sgn (ii (10 + i.val)) = false ∧ ¬ ii (10 + i.val) = 0 ∧ ¬ ii (10 + i.val) = 1 ∧ ¬ ii (10 + i.val) = 2 ∧ ¬ ii (10 + i.val) = 3 := by decide +kernel
theorem wrd_inj : ∀ i j : Fin 9, (jTab 2).getD i.val 0 = (jTab 2).getD j.val 0 → i = j := by decide +kernel
theorem wrd_inj2 : ∀ i j : Fin 9, ii (10 + i.val) = ii (10 + j.val) → i = j := by decide +kernel
section TE
variable {ck mk sz : Int32} {key w : Int64}
theorem TE_sg {c : Int32} (h : TE ck key mk w sz) (hc : sgn c = true) : mk = c ↔ ck = c := by
  rcases h with (⟨h1, h2, -⟩ | ⟨h1, h2, -⟩ | ⟨h1, h2, -⟩ | ⟨h1, h2⟩ | ⟨i, hi, h1, h2, -⟩ | ⟨h1, h2⟩) | ⟨h1, h2⟩
  · rw [h1, h2]; exact iff_of_false (fun e => sgn_ne hc (c := 1) (by decide) e.symm) (fun e => sgn_ne hc (c := 2) (by decide) e.symm)
  · rw [h1, h2]; exact iff_of_false (fun e => sgn_ne hc (c := 2) (by decide) e.symm) (fun e => sgn_ne hc (c := 4) (by decide) e.symm)
  · rw [h1, h2]; exact iff_of_false (fun e => sgn_ne hc (c := 3) (by decide) e.symm) (fun e => sgn_ne hc (c := 5) (by decide) e.symm)
  · rw [h1, h2]; exact iff_of_false (fun e => sgn_ne hc (c := 4) (by decide) e.symm) (fun e => sgn_ne hc (c := 1) (by decide) e.symm)
  · rw [h1, h2]; exact iff_of_false (fun e => sgn_ne hc (c := ii (10 + i)) (wrd_ne ⟨i, hi⟩).1 e.symm) (fun e => sgn_ne hc (c := 3) (by decide) e.symm)
  · rw [h2]
  · rw [h1, h2]
theorem TE_0 (h : TE ck key mk w sz) : mk = 0 ↔ ck = 0 := by
  rcases h with (⟨h1, h2, -⟩ | ⟨h1, h2, -⟩ | ⟨h1, h2, -⟩ | ⟨h1, h2⟩ | ⟨i, hi, h1, h2, -⟩ | ⟨h1, h2⟩) | ⟨h1, h2⟩
  · rw [h1, h2]; decide
  · rw [h1, h2]; decide
  · rw [h1, h2]; decide
  · rw [h1, h2]; decide
  · rw [h1, h2]; exact iff_of_false (wrd_ne ⟨i, hi⟩).2.1 (by decide)
  · rw [h2]
  · rw [h1, h2]
theorem TE_1 (h : TE ck key mk w sz) : mk = 1 ↔ ck = 2 := by
  rcases h with (⟨h1, h2, -⟩ | ⟨h1, h2, -⟩ | ⟨h1, h2, -⟩ | ⟨h1, h2⟩ | ⟨i, hi, h1, h2, -⟩ | ⟨h1, h2⟩) | ⟨h1, h2⟩
  · rw [h1, h2]; decide
  · rw [h1, h2]; decide
  · rw [h1, h2]; decide
  · rw [h1, h2]; decide
  · rw [h1, h2]; exact iff_of_false (wrd_ne ⟨i, hi⟩).2.2.1 (by decide)
  · rw [h2]; exact iff_of_false (sgn_ne h1 (by decide)) (sgn_ne h1 (by decide))
  · rw [h1, h2]; decide
theorem TE_2 (h : TE ck key mk w sz) : mk = 2 ↔ ck = 4 := by
  rcases h with (⟨h1, h2, -⟩ | ⟨h1, h2, -⟩ | ⟨h1, h2, -⟩ | ⟨h1, h2⟩ | ⟨i, hi, h1, h2, -⟩ | ⟨h1, h2⟩) | ⟨h1, h2⟩
  · rw [h1, h2]; decide
  · rw [h1, h2]; decide
  · rw [h1, h2]; decide
  · rw [h1, h2]; decide
  · rw [h1, h2]; exact iff_of_false (wrd_ne ⟨i, hi⟩).2.2.2.1 (by decide)
  · rw [h2]; exact iff_of_false (sgn_ne h1 (by decide)) (sgn_ne h1 (by decide))
  · rw [h1, h2]; decide
theorem TE_3 (h : TE ck key mk w sz) : mk = 3 ↔ ck = 5 := by
  rcases h with (⟨h1, h2, -⟩ | ⟨h1, h2, -⟩ | ⟨h1, h2, -⟩ | ⟨h1, h2⟩ | ⟨i, hi, h1, h2, -⟩ | ⟨h1, h2⟩) | ⟨h1, h2⟩
  · rw [h1, h2]; decide
  · rw [h1, h2]; decide
  · rw [h1, h2]; decide
  · rw [h1, h2]; decide
  · rw [h1, h2]; exact iff_of_false (wrd_ne ⟨i, hi⟩).2.2.2.2 (by decide)
  · rw [h2]; exact iff_of_false (sgn_ne h1 (by decide)) (sgn_ne h1 (by decide))
  · rw [h1, h2]; decide
theorem wrd_ne2 : ∀ i : Fin 9, ¬ 0 = ii (10 + i.val) ∧ ¬ 1 = ii (10 + i.val) ∧ ¬ 2 = ii (10 + i.val) ∧ ¬ 3 = ii (10 + i.val) ∧ ¬ 4 = ii (10 + i.val) := by decide +kernel
theorem TE_w {j : Nat} (h : TE ck key mk w sz) (hj : j < 9) : mk = ii (10 + j) ↔ (ck = 3 ∧ key = (jTab 2).getD j 0) := by
  have hw := wrd_ne2 ⟨j, hj⟩
  simp only at hw
  rcases h with (⟨h1, h2, -⟩ | ⟨h1, h2, -⟩ | ⟨h1, h2, -⟩ | ⟨h1, h2⟩ | ⟨i, hi, h1, h2, h3⟩ | ⟨h1, h2⟩) | ⟨h1, h2⟩
  · rw [h1, h2]; exact iff_of_false hw.2.1 (fun e => absurd e.1 (by decide))
  · rw [h1, h2]; exact iff_of_false hw.2.2.1 (fun e => absurd e.1 (by decide))
  · rw [h1, h2]; exact iff_of_false hw.2.2.2.1 (fun e => absurd e.1 (by decide))
  · rw [h1, h2]; exact iff_of_false hw.2.2.2.2 (fun e => absurd e.1 (by decide))
  · rw [h1, h2, h3]
    constructor
    · intro e
      have := wrd_inj2 ⟨i, hi⟩ ⟨j, hj⟩ e
      have e2 : i = j := by cases this; rfl
      exact ⟨rfl, by rw [e2]⟩
    · intro e
      have := wrd_inj ⟨i, hi⟩ ⟨j, hj⟩ e.2
      have e2 : i = j := by cases this; rfl
      rw [e2]
  · rw [h2]; exact iff_of_false (sgn_ne h1 (wrd_ne ⟨j, hj⟩).1) (fun e => sgn_ne h1 (by decide) e.1)
  · rw [h1, h2]; exact iff_of_false hw.1 (fun e => absurd e.1 (by decide))
theorem TE_nm (h : TE ck key mk w sz) (hk : ck = 2 ∨ ck = 4) : w = key := by
  rcases h with (⟨h1, h2, h3⟩ | ⟨h1, h2, h3⟩ | ⟨h1, h2, -⟩ | ⟨h1, h2⟩ | ⟨i, hi, h1, h2, -⟩ | ⟨h1, h2⟩) | ⟨h1, h2⟩
  · exact h3.symm
  · exact h3.symm
  · rw [h2] at hk; exact absurd hk (by decide)
  · rw [h2] at hk; exact absurd hk (by decide)
  · rw [h2] at hk; exact absurd hk (by decide)
  · rw [h2] at hk; rcases hk with q | q
    · exact absurd q (sgn_ne h1 (by decide))
    · exact absurd q (sgn_ne h1 (by decide))
  · rw [h2] at hk; exact absurd hk (by decide)
theorem TE_nx (h : TE ck key mk w sz) (hk : ck = 5) : ∃ v, NX key w sz v := by
  rcases h with (⟨h1, h2, h3⟩ | ⟨h1, h2, h3⟩ | ⟨h1, h2, h3⟩ | ⟨h1, h2⟩ | ⟨i, hi, h1, h2, -⟩ | ⟨h1, h2⟩) | ⟨h1, h2⟩
  · rw [h2] at hk; exact absurd hk (by decide)
  · rw [h2] at hk; exact absurd hk (by decide)
  · exact nx_all h3
  · rw [h2] at hk; exact absurd hk (by decide)
  · rw [h2] at hk; exact absurd hk (by decide)
  · rw [h2] at hk; exact absurd hk (sgn_ne h1 (by decide))
  · rw [h2] at hk; exact absurd hk (by decide)
end TE
theorem lgp {a b : Int64} : 0 < lg_cmp a b ↔ b < a := by
  unfold lg_cmp
  split
  · rename_i h; exact iff_of_true (by decide) h
  · rename_i h1
    split
    · exact iff_of_false (by decide) h1
    · exact iff_of_false (by decide) h1
theorem lgn {a b : Int64} : lg_cmp a b < 0 ↔ a < b := by
  unfold lg_cmp
  split
  · rename_i h
    have h : b < a := h
    exact iff_of_false (by decide) (fun q => by rw [Int64.lt_iff_toInt_lt] at h q; omega)
  · rename_i h1
    have h1 : ¬ b < a := h1
    split
    · rename_i h; subst h; exact iff_of_false (by decide) h1
    · rename_i h2
      refine iff_of_true (by decide) ?_
      rw [Int64.lt_iff_toInt_lt] at h1 ⊢
      have : ¬ a.toInt = b.toInt := fun e => h2 (Int64.toInt_inj.1 e)
      omega
theorem jn {n : Nat} (h : n < 10000) : (Int64.ofNat n).toInt = (n : Int) := by
  rw [Int64.toInt_ofNat']
  rw [show Int64.size = 18446744073709551616 from rfl]
  simp only [Int.bmod_def]
  split <;> omega
/-- the model's tokens beside those of the class; their places -/
def TKM (kd : Nat → Int32) (key : Nat → Int64) (pl : Nat → Nat) (m : Nat) (I : Nat → Nat → Int32) (J : Nat → Nat → Int64) : Prop := m ≤ 2000 ∧ kd m = 0 ∧ (∀ i, i ≤ m → TE (kd i) (key i) (I 67 i) (J 68 i) (I 70 i)) ∧ ∀ i, i ≤ m → I 69 i = ii (pl i)
/-- .. at token n -/
def MC (kd : Nat → Int32) (key : Nat → Int64) (pl : Nat → Nat) (m : Nat) (I : Nat → Nat → Int32) (J : Nat → Nat → Int64) (n : Nat) : Prop := I 65 7 = ii n ∧ n ≤ m ∧ TKM kd key pl m I J
section MTOK
variable {xs : Nat → Int32} {L d : Nat} {S : Nat → Shp} {I I' : Nat → Nat → Int32} {J J' : Nat → Nat → Int64} {R : Nat → Nat → Nat} {c : Nat × Nat} {Q : Option (Option Value) → MH → Prop} {kd : Nat → Int32} {key : Nat → Int64} {pl : Nat → Nat} {m n n' : Nat}
theorem MC_in (h : MC kd key pl m I J n) : inb (I 65 7) 2001 = true := by
  rw [h.1]; exact ii_inb (by have := h.2.1; have := h.2.2.1; omega) (by omega)
theorem MC_nat (h : MC kd key pl m I J n) : (I 65 7).toNatClampNeg = n := by
  rw [h.1, ii_nat (by have := h.2.1; have := h.2.2.1; omega)]
theorem MC_te (h : MC kd key pl m I J n) : TE (kd n) (key n) (I 67 n) (J 68 n) (I 70 n) := h.2.2.2.2.1 n h.2.1
theorem MC_lt (h : MC kd key pl m I J n) (hk : ¬ kd n = 0) : n < m := lt_of_kd h.2.2.2.1 h.2.1 hk
theorem TKM_of (h : TKM kd key pl m I J) (e1 : I' 67 = I 67) (e2 : I' 69 = I 69) (e3 : I' 70 = I 70) (e4 : J' 68 = J 68) : TKM kd key pl m I' J' :=
  ⟨h.1, h.2.1, fun i hi => by rw [e1, e3, e4]; exact h.2.2.1 i hi, fun i hi => by rw [e2]; exact h.2.2.2 i hi⟩
theorem MC_of (h : MC kd key pl m I J n) (e0 : I' 65 7 = ii n') (h0 : n' ≤ m) (e1 : I' 67 = I 67) (e2 : I' 69 = I 69) (e3 : I' 70 = I 70) (e4 : J' 68 = J 68) : MC kd key pl m I' J' n' :=
  ⟨e0, h0, TKM_of h.2.2 e1 e2 e3 e4⟩
theorem s_here {x1 : Int32} (hL : Lay S R) (h : MC kd key pl m I J n) (k : Q (some (some (.int (if I 67 n = x1 then 1 else 0)))) (S, I, J, R, c)) : X xs L d 127 0 [.ref 65, .int x1] [] (S, I, J, R, c) Q := by
  refine s_X14_here hL (MC_in h) ?_
  have e : f_X14_here I x1 = if I 67 n = x1 then 1 else 0 := by
    unfold f_X14_here
    rw [MC_nat h]
    by_cases q : I 67 n = x1 <;> simp [q]
  rw [e]; exact k
theorem s_check {x1 : Int32} (hL : Lay S R) (h : MC kd key pl m I J n) (kT : x1 = 0 → Q none (thM (S, u2 I 65 8 (ii (pl n)), J, R, c))) (k : ¬ x1 = 0 → Q (some none) (S, I, J, R, c)) : X xs L (d + 8) 128 0 [.ref 65, .int x1] [] (S, I, J, R, c) Q := by
  refine b_X14_check_0 (fun z => b_X14_check_5 hL (MC_in h) ?_) (fun z => b_X14_check_4 (k z))
  rw [MC_nat h, h.2.2.2.2.2 n h.2.1]
  exact kT z
theorem s_take {x1 : Int32} (hL : Lay S R) (h : MC kd key pl m I J n) (kT : ¬ I 67 n = x1 → Q none (thM (S, u2 I 65 8 (ii (pl n)), J, R, c))) (k : I 67 n = x1 → Q (some none) (S, u2 I 65 7 (ii (n + 1)), J, R, c)) : X xs L (d + 9) 129 0 [.ref 65, .int x1] [] (S, I, J, R, c) Q := by
  refine b_X14_take_0 hL (s_here hL h ?_)
  refine b_X14_take_6 hL (s_check hL h (fun z => kT (fun q => ?_)) (fun z => b_X14_take_9 hL ?_))
  · rw [if_pos q] at z; exact absurd z (by decide)
  · rw [h.1, ii_add1]
    refine k ?_
    by_cases q : I 67 n = x1
    · exact q
    · rw [if_neg q] at z; exact absurd rfl z
theorem s_tree {x1 x2 x3 : Int32} {T a : Nat} (hL : Lay S R) (hT : R 65 17 = T) (hY : LyTr S R T) (ha : I T 5 = ii a) (ha2 : a < 2000) (k : Q (some (some (.int (ii a)))) (S, u2 (u2 (u2 (u2 I (T + 1) a x1) (T + 2) a x2) (T + 3) a x3) T 5 (ii (a + 1)), J, R, c)) : X xs L d 130 0 [.ref 65, .int x1, .int x2, .int x3, .null] [] (S, I, J, R, c) Q := by
  have hb : inb (I T 5) 2000 = true := by rw [ha]; exact ii_inb ha2 (by omega)
  refine b_X14_tree_0 hL hT hY hb hb hb ?_
  rw [ha, ii_nat (by omega), ii_add1]
  exact k
end MTOK
theorem num_le {v : Nat} (h : v < 10000) : (1 : Int64) < Int64.ofNat v ↔ 1 < v := by
  rw [Int64.lt_iff_toInt_lt, jn h]
  rw [show (1 : Int64).toInt = 1 from rfl]
  omega
