/-! ===== P2: tokens of the model ===== -/
def wk (w : Int64) : Nat → Nat → Int32 → Int32
  | 0, _, t => t
  | f + 1, i, t => wk w f (i + 1) (if t = 1 ∧ lg_cmp ((jTab 2).getD i 0) w = 0 then (10 : Int32) + ii i else t)
def dc (b : Nat → Int32) (s : Nat) : Nat → Int64
  | 0 => 0
  | n + 1 => if n < 9 then (((10 : Int64) * dc b s n) + (b (s + n)).toInt64) - 48 else dc b s n
def mkd (b : Nat → Int32) (p e : Nat) : Int32 := if f_X14_small (b p) = 0 then (if f_X14_capital (b p) = 0 then (if f_X14_digit (b p) = 0 then (if ixOf (b p) < 0 then 4 else b p) else (if e - p ≤ 4 then 3 else 4)) else (if e - p ≤ 4 then 2 else 4)) else wk (pk b p (e - p)) 9 0 (if e - p ≤ 8 then 1 else 4)
def mwd (b : Nat → Int32) (p e : Nat) : Int64 := if f_X14_small (b p) = 0 then (if f_X14_capital (b p) = 0 then (if f_X14_digit (b p) = 0 then 0 else dc b p (e - p)) else pk b p (e - p)) else pk b p (e - p)
def MT (b : Nat → Int32) (I : Nat → Nat → Int32) (J : Nat → Nat → Int64) (T : List (Nat × Nat)) : Prop := ∀ (i : Nat) (t : Nat × Nat), T[i]? = some t → I 67 i = mkd b t.1 t.2 ∧ J 68 i = mwd b t.1 t.2 ∧ I 69 i = ii t.1 ∧ I 70 i = ii (t.2 - t.1)
def aMt (a k : Nat) : Prop := a = 67 ∨ a = 69 ∨ a = 70 ∨ (a = 65 ∧ (k = 6 ∨ k = 1))
def aMj (a _k : Nat) : Prop := a = 68
theorem MT_snoc {b : Nat → Int32} {I : Nat → Nat → Int32} {J : Nat → Nat → Int64} {T : List (Nat × Nat)} {p e n : Nat} {x : Int32} (h : MT b I J T) (hn : n = T.length) : MT b (u2 (u2 (u2 (u2 I 67 n (mkd b p e)) 69 n (ii p)) 70 n (ii (e - p))) 65 6 x) (u2 J 68 n (mwd b p e)) (T ++ [(p, e)]) := by
  intro i t ht
  rw [List.getElem?_append] at ht
  split at ht
  · rename_i hi
    have h1 := h i t ht
    have hne : i ≠ n := by omega
    simp only [u2_if, hne, and_false, if_false, false_and]
    simpa using h1
  · rename_i hi
    have h2 : i - T.length = 0 := by
      by_cases q : i - T.length = 0
      · exact q
      · rw [List.getElem?_cons, if_neg q] at ht; simp at ht
    have h3 : i = n := by omega
    rw [h2] at ht
    have ht' : (p, e) = t := by simpa using ht
    subst ht' h3
    simp [u2_if]
theorem bz_t {x : Int32} (h : ¬ x = 0) : bz x = true := by simp [bz, h]
theorem bz_f {x : Int32} (h : x = 0) : bz x = false := by simp [bz, h]
theorem s_X14_readTokens {xs : Nat → Int32} {L d : Nat} {S : Nat → Shp} {I : Nat → Nat → Int32} {J : Nat → Nat → Int64} {R : Nat → Nat → Nat} {c : Nat × Nat} {Q : Option (Option Value) → MH → Prop} {len : Nat} (hL : Lay S R) (hl : I 65 1 = ii len) (hl2 : len ≤ 2000) (hb : ∀ i, i < len → byt (I 66 i)) (k : ∀ I' J', fr aMt I I' → fr aMj J J' → MT (I 66) I' J' (tks (I 66) len len 0) → I' 67 (tks (I 66) len len 0).length = 0 → I' 69 (tks (I 66) len len 0).length = ii len → I' 65 1 = 0 → Q (some none) (S, I', J', R, c)) : X xs L (d + 8) 126 0 [.ref 65, .null, .null, .null, .null, .null, .null, .null] [] (S, I, J, R, c) Q := by
  refine b_X14_readTokens_0 hL ?_
  have hloop : ∀ (f q : Nat) (v2 v3 v4 v6 v7 : Value) (I' : Nat → Nat → Int32) (J' : Nat → Nat → Int64) (T : List (Nat × Nat)), len - q ≤ f → q ≤ len → T.length ≤ q → fr aMt I I' → fr aMj J J' → MT (I 66) I' J' T → I' 65 6 = ii T.length → I' 65 1 = ii len → T ++ tks (I 66) len f q = tks (I 66) len len 0 → X xs L (d + 8) 126 7 [.ref 65, .int (ii q), v2, v3, v4, .null, v6, v7] [] (S, I', J', R, c) Q := by
    intro f
    induction f with
    | zero =>
      intro q v2 v3 v4 v6 v7 I' J' T h1 h2 h3 h4 h5 h6 h7 hl' h9
      refine b_X14_readTokens_7 hL (fun h => ?_) (fun h => ?_)
      · have hb : inb (I' 65 6) 2001 = true := by rw [h7]; exact ii_inb (by omega) (by omega)
        refine b_X14_readTokens_380 hL hb hb ?_
        rw [h7, ii_nat (by omega), hl']
        rw [show tks (I 66) len 0 q = [] from rfl, List.append_nil] at h9
        refine k _ _ (fr_u _ (fr_u _ (fr_u _ h4 (Or.inl rfl)) (Or.inr (Or.inl rfl))) (Or.inr (Or.inr (Or.inr ⟨rfl, Or.inr rfl⟩)))) h5 ?_ ?_ ?_ ?_
        · rw [← h9]
          intro i t ht
          have hi : i ≠ T.length := fun q => by rw [q, List.getElem?_eq_none (Nat.le_refl _)] at ht; cases ht
          have := h6 i t ht
          simp only [u2_if, hi, and_false, if_false, false_and]
          simpa using this
        · rw [← h9, u2_a _ _ _ _ (by decide), u2_a _ _ _ _ (by decide), u2_e]
        · rw [← h9, u2_a _ _ _ _ (by decide), u2_e]
        · rw [u2_e]
      · rw [hl', ii_le (by omega) (by omega)] at h; omega
    | succ f ih =>
      intro q v2 v3 v4 v6 v7 I' J' T h1 h2 h3 h4 h5 h6 h7 hl' h9
      have h3' : I' 66 = I 66 := fr_row h4 66 (by intro k; unfold aMt; omega)
      rw [tks] at h9
      by_cases hq : q < len
      · rw [if_pos hq] at h9
        have hby := hb q hq
        refine b_X14_readTokens_7 hL (fun h => ?_) (fun h => ?_)
        · rw [hl', ii_le (by omega) (by omega)] at h; omega
        refine b_X14_readTokens_15 hL (ii_inb (by omega) (by omega)) (fun h10 => ?_) (fun h10 => ?_)
        · rw [ii_nat (by omega), h3'] at h10 ⊢
          rw [if_pos ((by_sp hby).2 (Or.inl h10))] at h9
          refine b_X14_readTokens_34 ?_
          rw [ii_add1]
          exact ih (q + 1) _ _ _ _ _ I' J' T (by omega) (by omega) (by omega) h4 h5 h6 h7 hl' h9
        rw [ii_nat (by omega), h3'] at h10 ⊢
        refine b_X14_readTokens_28 (fun h11 => ?_) (fun h11 => ?_)
        rotate_left
        · rw [if_pos ((by_sp hby).2 (Or.inr (Classical.not_not.1 h11)))] at h9
          refine b_X14_readTokens_34 ?_
          rw [ii_add1]
          exact ih (q + 1) _ _ _ _ _ I' J' T (by omega) (by omega) (by omega) h4 h5 h6 h7 hl' h9
        rw [if_neg (fun z => ((by_sp hby).1 z).elim h10 h11)] at h9
        have hr := rp_le (cgo (kdf (I 66 q))) (I 66) len _ (q + 1) (Nat.le_refl _)
        have hst : rp (cgo (kdf (I 66 q))) (I 66) len (q + 1) = (if cgo (kdf (I 66 q)) (I 66 q) = true then rp (cgo (kdf (I 66 q))) (I 66) len q else rp (cgo (kdf (I 66 q))) (I 66) len (q + 1)) := by
          split
          · rename_i z
            rw [rp_eq _ _ _ q, if_pos ⟨hq, z⟩]
          · rfl
        generalize he : rp (cgo (kdf (I 66 q))) (I 66) len (q + 1) = e at h9 hr hst
        have hend : ∀ (t : Int32) (w : Int64) (v7 : Value), t = mkd (I 66) q e → w = mwd (I 66) q e → X xs L (d + 8) 126 323 [.ref 65, .int (ii e), .int (I 66 q), .int (ii q), .long w, .null, .int t, v7] [] (S, I', J', R, c) Q := by
          intro t w v7 ht hw
          have hb : inb (I' 65 6) 2001 = true := by rw [h7]; exact ii_inb (by omega) (by omega)
          refine b_X14_readTokens_323 hL hb hb hb hb ?_
          rw [h7, ii_nat (by omega), ii_add1, ii_sub (by omega), ht, hw]
          refine ih e _ _ _ _ _ _ _ (T ++ [(q, e)]) (by omega) (by omega) (by rw [List.length_append, List.length_singleton]; omega) (fr_u _ (fr_u _ (fr_u _ (fr_u _ h4 (Or.inl rfl)) (Or.inr (Or.inl rfl))) (Or.inr (Or.inr (Or.inl rfl)))) (Or.inr (Or.inr (Or.inr ⟨rfl, Or.inl rfl⟩)))) (fr_u _ h5 rfl) (MT_snoc h6 rfl) ?_ ?_ ?_
          · rw [u2_e, List.length_append, List.length_singleton]
          · rw [u2_k _ _ _ _ (by decide), u2_a _ _ _ _ (by decide), u2_a _ _ _ _ (by decide), u2_a _ _ _ _ (by decide), hl']
          · rw [List.append_assoc]; exact h9
        have hmb : ∀ r, r < len → f_X14_byteAt I' (ii r) = I 66 r := by
          intro r hr2
          unfold f_X14_byteAt
          rw [hl', if_neg (by rw [ii_le (by omega) (by omega)]; omega), ii_nat (by omega), h3']
        have hme : f_X14_byteAt I' (ii len) = -1 := by
          unfold f_X14_byteAt
          rw [hl', if_pos (Int32.le_refl _)]
        have hib : ∀ r, r ≤ len → ¬ (I' 65 1 ≤ ii r) → inb (ii r) 2000 = true := by
          intro r hr2 h
          rw [hl', ii_le (by omega) (by omega)] at h
          exact ii_inb (by omega) (by omega)
        have hpk : ∀ r, q ≤ r → I 66 r &&& 255 = I 66 r → ((pk (I 66) q (r - q) <<< ((8 : Int32).toInt64 &&& 63)) ||| (I 66 r).toInt64) = pk (I 66) q (r + 1 - q) := by
          intro r hr2 hr3
          rw [show r + 1 - q = (r - q) + 1 by omega]
          show _ = _ ||| ((I 66 (q + (r - q))) &&& 255).toInt64
          rw [show q + (r - q) = r by omega, hr3]
        refine b_X14_readTokens_40 (s_X14_small ?_)
        refine b_X14_readTokens_52 (fun k1 => ?_) (fun k1 => ?_)
        rotate_left
        · -- small
          have hkd : kdf (I 66 q) = 2 := by rw [by_k hby, if_neg k1]
          rw [hkd, if_pos (by rw [by_2 hby, bz_t k1]; rfl)] at hst
          have hsm : ∀ (m r : Nat) , len - r = m → q ≤ r → r ≤ len → rp (cgo 2) (I 66) len r = e → ∀ (v7 : Value), X xs L (d + 8) 126 55 [.ref 65, .int (ii r), .int (I 66 q), .int (ii q), .long (pk (I 66) q (r - q)), .null, .int 4, v7] [] (S, I', J', R, c) Q := by
            intro m
            have hfin : ∀ (v7 : Value), X xs L (d + 8) 126 108 [.ref 65, .int (ii e), .int (I 66 q), .int (ii q), .long (pk (I 66) q (e - q)), .null, .int 4, v7] [] (S, I', J', R, c) Q := by
              intro v7
              have hw : ∀ (m i : Nat) (t : Int32), i + m = 9 → wk (pk (I 66) q (e - q)) m i t = mkd (I 66) q e → X xs L (d + 8) 126 126 [.ref 65, .int (ii e), .int (I 66 q), .int (ii q), .long (pk (I 66) q (e - q)), .null, .int t, .int (ii i)] [] (S, I', J', R, c) Q := by
                intro m
                induction m with
                | zero =>
                  intro i t hi ht
                  refine b_X14_readTokens_126 (fun _ => b_X14_readTokens_164 (hend _ _ _ ht ?_)) (fun h => ?_)
                  · unfold mwd; rw [if_neg k1]
                  · exact absurd ((ii_le (n := 9) (by omega) (by omega)).2 (by omega)) h
                | succ m ihm =>
                  intro i t hi ht
                  refine b_X14_readTokens_126 (fun h => ?_) (fun h => ?_)
                  · have := (ii_le (n := 9) (by omega) (by omega)).1 h; omega
                  refine b_X14_readTokens_133 (fun h12 => ?_) (fun h12 => ?_)
                  · refine b_X14_readTokens_158 ?_
                    rw [ii_add1]
                    refine ihm (i + 1) t (by omega) ?_
                    rw [← ht, wk, if_neg (fun z => h12 z.1)]
                  · have h12' := Classical.not_not.1 h12
                    refine b_X14_readTokens_139 (by show inb (ii i) 9 = true; exact ii_inb (by omega) (by omega)) (fun h13 => ?_) (fun h13 => ?_)
                    · refine b_X14_readTokens_158 ?_
                      rw [ii_add1]
                      rw [ii_nat (by omega)] at h13
                      refine ihm (i + 1) t (by omega) ?_
                      rw [← ht, wk, if_neg (fun z => h13 z.2)]
                    · refine b_X14_readTokens_151 (b_X14_readTokens_158 ?_)
                      rw [ii_add1]
                      rw [ii_nat (by omega)] at h13
                      refine ihm (i + 1) _ (by omega) ?_
                      rw [← ht, wk, if_pos ⟨h12', Classical.not_not.1 h13⟩]
              refine b_X14_readTokens_108 (fun h12 => b_X14_readTokens_120 (b_X14_readTokens_121 ?_)) (fun h12 => b_X14_readTokens_116 (b_X14_readTokens_121 ?_))
              · rw [ii_sub (by omega)] at h12
                have h12' := (ii_le (m := 8) (by omega) (by omega)).1 h12
                refine hw 9 0 _ rfl ?_
                unfold mkd
                rw [if_neg k1, if_pos h12']
              · rw [ii_sub (by omega)] at h12
                have h12' : ¬ e - q ≤ 8 := fun z => h12 ((ii_le (m := 8) (by omega) (by omega)).2 z)
                refine hw 9 0 _ rfl ?_
                unfold mkd
                rw [if_neg k1, if_neg h12']
            induction m with
            | zero =>
              intro r g1 g2 g3 g4 v7
              have hrl : r = len := by omega
              subst hrl
              rw [rp_eq, if_neg (fun z => by omega)] at g4
              subst g4
              refine b_X14_readTokens_55 hL (s_X14_byteAt hL (hib _ (Nat.le_refl _)) ?_)
              rw [hme]
              refine b_X14_readTokens_60 (s_X14_small ?_)
              refine b_X14_readTokens_63 (fun z => absurd (by decide) z) (fun _ => ?_)
              refine b_X14_readTokens_66 hL (s_X14_byteAt hL (hib _ (Nat.le_refl _)) ?_)
              rw [hme]
              refine b_X14_readTokens_71 (s_X14_digit ?_)
              refine b_X14_readTokens_74 (fun z => absurd (by decide) z) (fun _ => ?_)
              refine b_X14_readTokens_77 hL (s_X14_byteAt hL (hib _ (Nat.le_refl _)) ?_)
              rw [hme]
              exact b_X14_readTokens_82 (fun _ => hfin _) (fun z => absurd (by decide) z)
            | succ m ihm =>
              intro r g1 g2 g3 g4 v7
              have hbr := hb r (by omega)
              have hgo : cgo 2 (I 66 r) = true → X xs L (d + 8) 126 87 [.ref 65, .int (ii r), .int (I 66 q), .int (ii q), .long (pk (I 66) q (r - q)), .null, .int 4, v7] [] (S, I', J', R, c) Q := by
                intro hc
                refine b_X14_readTokens_87 hL (ii_inb (by omega) (by omega)) ?_
                rw [ii_nat (by omega), h3', hpk r g2 (by_m hbr (Or.inl hc)), ii_add1]
                refine ihm (r + 1) (by omega) (by omega) (by omega) ?_ _
                rw [rp_eq, if_pos ⟨by omega, hc⟩] at g4
                exact g4
              have e2 := by_2 hbr
              refine b_X14_readTokens_55 hL (s_X14_byteAt hL (hib _ g3) ?_)
              rw [hmb r (by omega)]
              refine b_X14_readTokens_60 (s_X14_small ?_)
              refine b_X14_readTokens_63 (fun z => hgo (by rw [e2, bz_t z]; rfl)) (fun z1 => ?_)
              refine b_X14_readTokens_66 hL (s_X14_byteAt hL (hib _ g3) ?_)
              rw [hmb r (by omega)]
              refine b_X14_readTokens_71 (s_X14_digit ?_)
              refine b_X14_readTokens_74 (fun z => hgo (by rw [e2, bz_t z, Bool.or_true]; rfl)) (fun z2 => ?_)
              refine b_X14_readTokens_77 hL (s_X14_byteAt hL (hib _ g3) ?_)
              rw [hmb r (by omega)]
              refine b_X14_readTokens_82 (fun z3 => ?_) (fun z3 => hgo (by rw [e2, Classical.not_not.1 z3]; simp))
              have hre : r = e := by
                rw [rp_eq, if_neg (fun z => by have := z.2; rw [e2, bz_f (Classical.not_not.1 z1), bz_f (Classical.not_not.1 z2)] at this; simp at this; exact z3 this)] at g4
                exact g4
              subst hre
              exact hfin _
          have := hsm (len - q) q rfl (Nat.le_refl _) (by omega) hst.symm v7
          rw [Nat.sub_self] at this
          exact this
        refine b_X14_readTokens_167 (s_X14_capital ?_)
        refine b_X14_readTokens_171 (fun k2 => ?_) (fun k2 => ?_)
        rotate_left
        · -- capital
          have hkd : kdf (I 66 q) = 4 := by rw [by_k hby, if_pos k1, if_neg k2]
          rw [hkd, if_pos (by rw [by_4 hby, bz_t k2]; rfl)] at hst
          have hsm : ∀ (m r : Nat) , len - r = m → q ≤ r → r ≤ len → rp (cgo 4) (I 66) len r = e → ∀ (v7 : Value), X xs L (d + 8) 126 174 [.ref 65, .int (ii r), .int (I 66 q), .int (ii q), .long (pk (I 66) q (r - q)), .null, .int 4, v7] [] (S, I', J', R, c) Q := by
            intro m
            have hfin : ∀ (v7 : Value), X xs L (d + 8) 126 217 [.ref 65, .int (ii e), .int (I 66 q), .int (ii q), .long (pk (I 66) q (e - q)), .null, .int 4, v7] [] (S, I', J', R, c) Q := by
              intro v7
              refine b_X14_readTokens_217 (fun h12 => b_X14_readTokens_228 (b_X14_readTokens_229 (hend _ _ _ ?_ ?_))) (fun h12 => b_X14_readTokens_224 (b_X14_readTokens_229 (hend _ _ _ ?_ ?_)))
              · rw [ii_sub (by omega)] at h12
                have h12' := (ii_le (m := 4) (by omega) (by omega)).1 h12
                unfold mkd
                rw [if_pos k1, if_neg k2, if_pos h12']
              · unfold mwd; rw [if_pos k1, if_neg k2]
              · rw [ii_sub (by omega)] at h12
                have h12' : ¬ e - q ≤ 4 := fun z => h12 ((ii_le (m := 4) (by omega) (by omega)).2 z)
                unfold mkd
                rw [if_pos k1, if_neg k2, if_neg h12']
              · unfold mwd; rw [if_pos k1, if_neg k2]
            induction m with
            | zero =>
              intro r g1 g2 g3 g4 v7
              have hrl : r = len := by omega
              subst hrl
              rw [rp_eq, if_neg (fun z => by omega)] at g4
              subst g4
              refine b_X14_readTokens_174 hL (s_X14_byteAt hL (hib _ (Nat.le_refl _)) ?_)
              rw [hme]
              refine b_X14_readTokens_179 (s_X14_capital ?_)
              refine b_X14_readTokens_182 (fun z => absurd (by decide) z) (fun _ => ?_)
              refine b_X14_readTokens_185 hL (s_X14_byteAt hL (hib _ (Nat.le_refl _)) ?_)
              rw [hme]
              refine b_X14_readTokens_190 (s_X14_digit ?_)
              exact b_X14_readTokens_193 (fun _ => hfin _) (fun z => absurd (by decide) z)
            | succ m ihm =>
              intro r g1 g2 g3 g4 v7
              have hbr := hb r (by omega)
              have hgo : cgo 4 (I 66 r) = true → X xs L (d + 8) 126 196 [.ref 65, .int (ii r), .int (I 66 q), .int (ii q), .long (pk (I 66) q (r - q)), .null, .int 4, v7] [] (S, I', J', R, c) Q := by
                intro hc
                refine b_X14_readTokens_196 hL (ii_inb (by omega) (by omega)) ?_
                rw [ii_nat (by omega), h3', hpk r g2 (by_m hbr (Or.inr (Or.inl hc))), ii_add1]
                refine ihm (r + 1) (by omega) (by omega) (by omega) ?_ _
                rw [rp_eq, if_pos ⟨by omega, hc⟩] at g4
                exact g4
              have e2 := by_4 hbr
              refine b_X14_readTokens_174 hL (s_X14_byteAt hL (hib _ g3) ?_)
              rw [hmb r (by omega)]
              refine b_X14_readTokens_179 (s_X14_capital ?_)
              refine b_X14_readTokens_182 (fun z => hgo (by rw [e2, bz_t z]; rfl)) (fun z1 => ?_)
              refine b_X14_readTokens_185 hL (s_X14_byteAt hL (hib _ g3) ?_)
              rw [hmb r (by omega)]
              refine b_X14_readTokens_190 (s_X14_digit ?_)
              refine b_X14_readTokens_193 (fun z2 => ?_) (fun z => hgo (by rw [e2, bz_t z, Bool.or_true]))
              have hre : r = e := by
                rw [rp_eq, if_neg (fun z => by have := z.2; rw [e2, bz_f (Classical.not_not.1 z1), bz_f z2] at this; simp at this)] at g4
                exact g4
              subst hre
              exact hfin _
          have := hsm (len - q) q rfl (Nat.le_refl _) (by omega) hst.symm v7
          rw [Nat.sub_self] at this
          exact this
        refine b_X14_readTokens_234 (s_X14_digit ?_)
        refine b_X14_readTokens_238 (fun k3 => ?_) (fun k3 => ?_)
        rotate_left
        · -- digit
          have hkd : kdf (I 66 q) = 5 := by rw [by_k hby, if_pos k1, if_pos k2, if_neg k3]
          rw [hkd, if_pos (by rw [by_5 hby, bz_t k3])] at hst
          have hsm : ∀ (m r : Nat) , len - r = m → q ≤ r → r ≤ len → rp (cgo 5) (I 66) len r = e → ∀ (v7 : Value), X xs L (d + 8) 126 241 [.ref 65, .int (ii r), .int (I 66 q), .int (ii q), .long (dc (I 66) q (r - q)), .null, .int 4, v7] [] (S, I', J', R, c) Q := by
            intro m
            have hfin : ∀ (v7 : Value), X xs L (d + 8) 126 291 [.ref 65, .int (ii e), .int (I 66 q), .int (ii q), .long (dc (I 66) q (e - q)), .null, .int 4, v7] [] (S, I', J', R, c) Q := by
              intro v7
              refine b_X14_readTokens_291 (fun h12 => b_X14_readTokens_302 (b_X14_readTokens_303 (hend _ _ _ ?_ ?_))) (fun h12 => b_X14_readTokens_298 (b_X14_readTokens_303 (hend _ _ _ ?_ ?_)))
              · rw [ii_sub (by omega)] at h12
                have h12' := (ii_le (m := 4) (by omega) (by omega)).1 h12
                unfold mkd
                rw [if_pos k1, if_pos k2, if_neg k3, if_pos h12']
              · unfold mwd; rw [if_pos k1, if_pos k2, if_neg k3]
              · rw [ii_sub (by omega)] at h12
                have h12' : ¬ e - q ≤ 4 := fun z => h12 ((ii_le (m := 4) (by omega) (by omega)).2 z)
                unfold mkd
                rw [if_pos k1, if_pos k2, if_neg k3, if_neg h12']
              · unfold mwd; rw [if_pos k1, if_pos k2, if_neg k3]
            induction m with
            | zero =>
              intro r g1 g2 g3 g4 v7
              have hrl : r = len := by omega
              subst hrl
              rw [rp_eq, if_neg (fun z => by omega)] at g4
              subst g4
              refine b_X14_readTokens_241 hL (s_X14_byteAt hL (hib _ (Nat.le_refl _)) ?_)
              rw [hme]
              refine b_X14_readTokens_246 (s_X14_digit ?_)
              exact b_X14_readTokens_249 (fun _ => hfin _) (fun z => absurd (by decide) z)
            | succ m ihm =>
              intro r g1 g2 g3 g4 v7
              have hbr := hb r (by omega)
              have e2 := by_5 hbr
              refine b_X14_readTokens_241 hL (s_X14_byteAt hL (hib _ g3) ?_)
              rw [hmb r (by omega)]
              refine b_X14_readTokens_246 (s_X14_digit ?_)
              refine b_X14_readTokens_249 (fun z2 => ?_) (fun z2 => ?_)
              · have hre : r = e := by
                  rw [rp_eq, if_neg (fun z => by have := z.2; rw [e2, bz_f z2] at this; simp at this)] at g4
                  exact g4
                subst hre
                exact hfin _
              · have hc : cgo 5 (I 66 r) = true := by rw [e2, bz_t z2]
                rw [rp_eq, if_pos ⟨by omega, hc⟩] at g4
                have hdc : dc (I 66) q (r + 1 - q) = if r - q < 9 then (((10 : Int64) * dc (I 66) q (r - q)) + (I 66 r).toInt64) - 48 else dc (I 66) q (r - q) := by
                  rw [show r + 1 - q = (r - q) + 1 by omega, dc, show q + (r - q) = r by omega]
                refine b_X14_readTokens_252 (fun h12 => ?_) (fun h12 => ?_)
                · rw [ii_sub (by omega)] at h12
                  have h12' := (ii_le (n := 9) (by omega) (by omega)).1 h12
                  refine b_X14_readTokens_281 (b_X14_readTokens_283 ?_)
                  rw [if_neg (by omega)] at hdc
                  rw [ii_add1, ← hdc]
                  exact ihm (r + 1) (by omega) (by omega) (by omega) g4 _
                · rw [ii_sub (by omega)] at h12
                  have h12' : ¬ 9 ≤ r - q := fun z => h12 ((ii_le (n := 9) (by omega) (by omega)).2 z)
                  refine b_X14_readTokens_260 hL (ii_inb (by omega) (by omega)) (b_X14_readTokens_283 ?_)
                  rw [if_pos (by omega)] at hdc
                  rw [ii_nat (by omega), h3', ii_add1, ← hdc]
                  exact ihm (r + 1) (by omega) (by omega) (by omega) g4 _
          have := hsm (len - q) q rfl (Nat.le_refl _) (by omega) hst.symm v7
          rw [Nat.sub_self] at this
          exact this
        have hkn : cgo (kdf (I 66 q)) (I 66 (q + 1)) = false := by
          refine cgo_no ?_ ?_ ?_ <;> rw [by_k hby, if_pos k1, if_pos k2, if_pos k3] <;> split
          · decide
          · rename_i z; rcases by_s hby z with h | h | h | h | h | h | h | h | h | h <;> rw [h] <;> decide
          · decide
          · rename_i z; rcases by_s hby z with h | h | h | h | h | h | h | h | h | h <;> rw [h] <;> decide
          · decide
          · rename_i z; rcases by_s hby z with h | h | h | h | h | h | h | h | h | h <;> rw [h] <;> decide
        have hee : e = q + 1 := by
          rw [← he, rp_eq, if_neg (fun z => by rw [hkn] at z; exact absurd z.2 (by decide))]
        have hmw : (0 : Int64) = mwd (I 66) q e := by unfold mwd; rw [if_pos k1, if_pos k2, if_pos k3]
        refine b_X14_readTokens_308 (fun h12 => b_X14_readTokens_320 ?_) (fun h12 => b_X14_readTokens_317 (b_X14_readTokens_320 ?_))
        · rw [ii_add1, ← hee]
          exact hend _ _ _ (by unfold mkd; rw [if_pos k1, if_pos k2, if_pos k3, if_pos h12]) hmw
        · rw [ii_add1, ← hee]
          exact hend _ _ _ (by unfold mkd; rw [if_pos k1, if_pos k2, if_pos k3, if_neg h12]) hmw
      · rw [if_neg hq] at h9
        exact ih q v2 v3 v4 v6 v7 I' J' T (by omega) h2 h3 h4 h5 h6 h7 hl' (by
          rw [show tks (I 66) len f q = [] by cases f with
            | zero => rfl
            | succ f => rw [tks, if_neg hq]]
          exact h9)
  refine hloop len 0 _ _ _ _ _ _ _ [] (by omega) (by omega) (by simp) ?_ (fr_refl _ _) ?_ ?_ ?_ rfl
  · exact fr_u _ (fr_refl _ _) (Or.inr (Or.inr (Or.inr ⟨rfl, Or.inl rfl⟩)))
  · intro i t ht; simp at ht
  · rw [u2_e]; rfl
  · rw [u2_k _ _ _ _ (by decide), hl]
