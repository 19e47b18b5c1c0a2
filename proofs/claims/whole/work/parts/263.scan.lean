/-! ===== P2: addToken, scan ===== -/
theorem u2_u2 {α : Type} (f : Nat → Nat → α) (a k : Nat) (v w : α) : u2 (u2 f a k v) a k w = u2 f a k w := by
  funext b j; rw [u2_if, u2_if, u2_if]; split <;> rfl
def pk (b : Nat → Int32) (s : Nat) : Nat → Int64
  | 0 => 0
  | n + 1 => (pk b s n <<< ((8 : Int32).toInt64 &&& 63)) ||| ((b (s + n)) &&& 255).toInt64
def ckd (kd : Int32) (b : Nat → Int32) (p e : Nat) : Int32 := if ii (e - p) ≤ f_X9_longest kd then (if kd = 2 then (if f_X9_isReserved (pk b p (e - p)) = 0 then kd else 3) else kd) else 1
theorem s_X9_addToken {xs : Nat → Int32} {L d : Nat} {S : Nat → Shp} {I : Nat → Nat → Int32} {J : Nat → Nat → Int64} {R : Nat → Nat → Nat} {c : Nat × Nat} {Q : Option (Option Value) → MH → Prop} {p len n e : Nat} {kd : Int32} (hL : Lay S R) (hl : I 2 1 = ii len) (hl2 : len ≤ 2000) (hp : p < len) (hn : I 4 4 = ii n) (hn2 : n < 2001) (he : rp (cgo kd) (I 3) len (p + 1) = e) (k : Q (some (some (.int (ii e)))) (S, u2 (u2 (u2 I 5 n (ckd kd (I 3) p e)) 6 n (ii p)) 4 4 (ii (n + 1)), u2 J 7 n (pk (I 3) p (e - p)), R, c)) : X xs L (d + 3) 84 0 [.ref 4, .int (ii p), .int kd, .null, .null, .null, .null] [] (S, I, J, R, c) Q := by
  have hb : inb (ii n) 2001 = true := ii_inb hn2 (by omega)
  have he2 := rp_le (cgo kd) (I 3) len _ (p + 1) (Nat.le_refl _)
  rw [he] at he2
  refine b_X9_addToken_0 hL (s_X9_stopOf hL hl hl2 hp ?_)
  rw [he]
  refine b_X9_addToken_6 ?_
  have hfin : ∀ v : Int32, v = ckd kd (I 3) p e → X xs L (d + 3) 84 99 [.ref 4, .int (ii p), .int kd, .int (ii e), .long (pk (I 3) p (e - p)), .null, .int (ii e)] [] (S, u2 I 5 n v, J, R, c) Q := by
    intro v hv
    have e44 : (u2 I 5 n v) 4 4 = ii n := by rw [u2_a _ _ _ _ (by decide), hn]
    refine b_X9_addToken_99 hL (by rw [e44]; exact hb) (by rw [e44]; exact hb) ?_
    rw [e44, ii_nat (by omega), ii_add1, hv]
    exact k
  have hloop : ∀ (m q : Nat), e - q = m → p ≤ q → q ≤ e → X xs L (d + 3) 84 13 [.ref 4, .int (ii p), .int kd, .int (ii e), .long (pk (I 3) p (q - p)), .null, .int (ii q)] [] (S, I, J, R, c) Q := by
    intro m
    induction m with
    | zero =>
      intro q h1 h2 h3
      have hqe : q = e := by omega
      subst hqe
      refine b_X9_addToken_13 (fun h => ?_) (fun h => absurd (Int32.le_refl _) h)
      refine b_X9_addToken_43 hL (by rw [hn]; exact hb) (s_X9_longest ?_)
      rw [hn, ii_nat (by omega), ii_sub h2]
      have e44 : ∀ v, (u2 I 5 n v) 4 4 = ii n := by intro v; rw [u2_a _ _ _ _ (by decide), hn]
      refine b_X9_addToken_60 (fun h4 => ?_) (fun h4 => ?_)
      · refine b_X9_addToken_76 (fun h5 => ?_) (fun h5 => ?_)
        · exact hfin _ (by unfold ckd; rw [if_pos h4, if_neg h5])
        · refine b_X9_addToken_81 (s_X9_isReserved ?_)
          refine b_X9_addToken_86 (fun h6 => ?_) (fun h6 => ?_)
          · exact hfin _ (by unfold ckd; rw [if_pos h4, if_pos (Classical.not_not.1 h5), if_pos h6])
          · refine b_X9_addToken_89 hL (by rw [e44]; exact hb) ?_
            rw [e44, ii_nat (by omega), u2_u2]
            exact hfin _ (by unfold ckd; rw [if_pos h4, if_pos (Classical.not_not.1 h5), if_neg h6])
      · refine b_X9_addToken_63 hL (by rw [e44]; exact hb) ?_
        rw [e44, ii_nat (by omega), u2_u2]
        exact hfin _ (by unfold ckd; rw [if_neg h4])
    | succ m ih =>
      intro q h1 h2 h3
      refine b_X9_addToken_13 (fun h => ?_) (fun h => ?_)
      · rw [ii_le (by omega) (by omega)] at h; omega
      · refine b_X9_addToken_19 hL (s_X8_byteAt hL (ii_inb (by omega) (by omega)) ?_)
        have e1 : f_X8_byteAt I (ii q) = I 3 q &&& 255 := by unfold f_X8_byteAt; rw [ii_nat (by omega)]
        rw [e1]
        refine b_X9_addToken_33 ?_
        rw [ii_add1]
        have e2 : pk (I 3) p (q + 1 - p) = (pk (I 3) p (q - p) <<< ((8 : Int32).toInt64 &&& 63)) ||| ((I 3 q) &&& 255).toInt64 := by
          rw [show q + 1 - p = (q - p) + 1 by omega]
          show _ ||| ((I 3 (p + (q - p))) &&& 255).toInt64 = _
          rw [show p + (q - p) = q by omega]
        rw [← e2]
        exact ih (q + 1) (by omega) (by omega) (by omega)
  have := hloop (e - p) p rfl (Nat.le_refl _) (by omega)
  rw [Nat.sub_self] at this
  exact this
