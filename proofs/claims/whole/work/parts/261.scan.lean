/-! ===== P2: tokens of the class ===== -/
def rn (p : Int32 → Bool) (b : Nat → Int32) (len : Nat) : Nat → Nat → Nat
  | 0, k => k
  | f + 1, k => if k < len ∧ p (b k) = true then rn p b len f (k + 1) else k
def rp (p : Int32 → Bool) (b : Nat → Int32) (len k : Nat) : Nat := rn p b len (len - k) k
theorem rp_eq (p : Int32 → Bool) (b : Nat → Int32) (len k : Nat) : rp p b len k = if k < len ∧ p (b k) = true then rp p b len (k + 1) else k := by
  unfold rp
  by_cases h : k < len
  · rw [show len - k = (len - (k + 1)) + 1 by omega]; rfl
  · rw [if_neg (fun q => h q.1), show len - k = 0 by omega]; rfl
theorem rp_le (p : Int32 → Bool) (b : Nat → Int32) (len : Nat) : ∀ (n k : Nat), len - k ≤ n → k ≤ rp p b len k ∧ (k ≤ len → rp p b len k ≤ len)
  | 0, k, h => by rw [rp_eq, if_neg (fun q => by omega)]; omega
  | n + 1, k, h => by
    rw [rp_eq]
    split
    · rename_i q; have := rp_le p b len n (k + 1) (by omega); omega
    · omega
def cgo (kd : Int32) (y : Int32) : Bool := decide (¬ f_X9_goesOn kd (y &&& 255) = 0)
theorem s_X9_stopOf {xs : Nat → Int32} {L d : Nat} {S : Nat → Shp} {I : Nat → Nat → Int32} {J : Nat → Nat → Int64} {R : Nat → Nat → Nat} {c : Nat × Nat} {Q : Option (Option Value) → MH → Prop} {p len : Nat} {kd : Int32} (hL : Lay S R) (hl : I 2 1 = ii len) (hl2 : len ≤ 2000) (hp : p < len) (k : Q (some (some (.int (ii (rp (cgo kd) (I 3) len (p + 1)))))) (S, I, J, R, c)) : X xs L (d + 2) 85 0 [.ref 4, .int (ii p), .int kd, .null] [] (S, I, J, R, c) Q := by
  refine b_X9_stopOf_0 ?_
  rw [ii_add1]
  generalize hq : p + 1 = q at k ⊢
  have hq2 : q ≤ len := by omega
  clear hq
  induction hn : len - q generalizing q with
  | zero =>
    refine b_X9_stopOf_4 hL (fun h => ?_) (fun h => ?_)
    · refine b_X9_stopOf_36 ?_
      rw [rp_eq, if_neg (fun z => by omega)] at k
      exact k
    · rw [hl, ii_le (by omega) (by omega)] at h; omega
  | succ n ih =>
    refine b_X9_stopOf_4 hL (fun h => ?_) (fun h => ?_)
    · rw [hl, ii_le (by omega) (by omega)] at h; omega
    · refine b_X9_stopOf_15 hL (s_X8_byteAt hL (ii_inb (by omega) (by omega)) ?_)
      refine b_X9_stopOf_24 (s_X9_goesOn ?_)
      have e : f_X8_byteAt I (ii q) = I 3 q &&& 255 := by unfold f_X8_byteAt; rw [ii_nat (by omega)]
      rw [e]
      refine b_X9_stopOf_27 (fun h2 => ?_) (fun h2 => ?_)
      · refine b_X9_stopOf_36 ?_
        rw [rp_eq, if_neg (fun z => by have := z.2; unfold cgo at this; simp [h2] at this)] at k
        exact k
      · refine b_X9_stopOf_30 ?_
        rw [ii_add1]
        refine ih (q + 1) ?_ (by omega) (by omega)
        rw [rp_eq, if_pos ⟨by omega, by unfold cgo; simp [h2]⟩] at k
        exact k
