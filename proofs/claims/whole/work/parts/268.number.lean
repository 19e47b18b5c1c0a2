/-! ===== P2: numbers ===== -/
def nst (key : Int64) (sh x : Int32) : Int32 := if (((key >>> (sh.toInt64 &&& 63)).toInt32) &&& 255) = 0 then x else ((x * 10) + (((key >>> (sh.toInt64 &&& 63)).toInt32) &&& 255)) - 48
def f_X9_number (key : Int64) : Int32 := nst key 0 (nst key 8 (nst key 16 (nst key 24 0)))
theorem s_X9_number {xs : Nat → Int32} {L d : Nat} {S : Nat → Shp} {I : Nat → Nat → Int32} {J : Nat → Nat → Int64} {R : Nat → Nat → Nat} {c : Nat × Nat} {Q : Option (Option Value) → MH → Prop} {n : Nat} (hL : Lay S R) (hn : I 4 5 = ii n) (hn2 : n < 2001) (k : Q (some (some (.int (f_X9_number (J 7 n))))) (S, I, J, R, c)) : X xs L d 99 0 [.ref 4, .null, .null, .null] [] (S, I, J, R, c) Q := by
  have hb : inb (I 4 5) 2001 = true := by rw [hn]; exact ii_inb hn2 (by omega)
  have e : J 7 (I 4 5).toNatClampNeg = J 7 n := by rw [hn, ii_nat (by omega)]
  have hst : ∀ (x sh : Int32) (v3 : Value), ¬ sh < 0 → (∀ v3, X xs L d 99 5 [.ref 4, .int (nst (J 7 n) sh x), .int (sh + (-8)), v3] [] (S, I, J, R, c) Q) → X xs L d 99 5 [.ref 4, .int x, .int sh, v3] [] (S, I, J, R, c) Q := by
    intro x sh v3 hs hk
    unfold nst at hk
    refine b_X9_number_5 (fun z => absurd z hs) (fun _ => ?_)
    refine b_X9_number_9 hL hb (fun h1 => ?_) (fun h1 => ?_)
    · rw [e] at h1 ⊢
      rw [if_pos h1] at hk
      exact b_X9_number_40 (hk _)
    · rw [e] at h1 ⊢
      rw [if_neg h1] at hk
      exact b_X9_number_30 (b_X9_number_40 (hk _))
  refine b_X9_number_0 (hst _ _ _ (by decide) (fun _ => hst _ _ _ (by decide) (fun _ => hst _ _ _ (by decide) (fun _ => hst _ _ _ (by decide) (fun _ => ?_)))))
  exact b_X9_number_5 (fun _ => b_X9_number_46 k) (fun z => absurd (by decide) z)
def nchk (n v : Nat) : Bool := (f_X9_number (pk (fun i => ii (48 + v / 10 ^ (n - 1 - i) % 10)) 0 n) == ii v) && (dc (fun i => ii (48 + v / 10 ^ (n - 1 - i) % 10)) 0 n == Int64.ofNat v) && (if n = 1 then pk (fun i => ii (48 + v / 10 ^ (n - 1 - i) % 10)) 0 n == Int64.ofNat (48 + v) else !(pk (fun i => ii (48 + v / 10 ^ (n - 1 - i) % 10)) 0 n == 48) && !(pk (fun i => ii (48 + v / 10 ^ (n - 1 - i) % 10)) 0 n == 49))
theorem nchk_1 : (List.range 10).all (nchk 1) = true := by decide +kernel
theorem nchk_2 : (List.range 100).all (nchk 2) = true := by decide +kernel
theorem nchk_3 : (List.range 1000).all (nchk 3) = true := by decide +kernel
