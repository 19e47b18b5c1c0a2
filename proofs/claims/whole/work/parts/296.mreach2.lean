/-! ===== P2: reach of the model ===== -/
def RB (I : Nat → Nat → Int32) (r : Nat → Bool) : Prop := ∀ x, x < 40 → I 118 x = if r x = true then 1 else 0
def wE (ns : List Nd) (l : List Int32) (w : Nat) (a b : Nat) : Prop := adj ns l a b = true ∧ (w = 1 → ndk ns b = 1)
abbrev bi (b : Bool) : Int32 := if b = true then 1 else 0
theorem bi_0 {b : Bool} : bi b = 0 ↔ b = false := by cases b <;> decide
theorem vpb0 : vp_nar .boolean 0 = 0 := rfl
theorem vpb1 : vp_nar .boolean 1 = 1 := rfl
section MREACH
variable {xs : Nat → Int32} {L d : Nat} {S : Nat → Shp} {I : Nat → Nat → Int32} {J : Nat → Nat → Int64} {R : Nat → Nat → Nat} {c : Nat × Nat} {Q : Option (Option Value) → MH → Prop} {N T : Nat} {ns : List Nd} {l : List Int32}
theorem MCr_of {I' : Nat → Nat → Int32} {J' : Nat → Nat → Int64} (h : MCr N T I J ns l) (e0 : I' N 4 = I N 4) (e1 : J' (N + 1) = J (N + 1)) (e2 : I' (N + 2) = I (N + 2)) (e3 : I' (N + 3) = I (N + 3)) (t1 : I' (T + 1) = I (T + 1)) (t2 : I' (T + 2) = I (T + 2)) (t3 : I' (T + 3) = I (T + 3)) : MCr N T I' J' ns l := by
  obtain ⟨h1, h2, h3, ⟨ht, a1, a2, a3⟩, h5, h6, h7⟩ := h
  exact ⟨by rw [e0]; exact h1, h2, fun i x hx => by rw [e1, e2]; exact h3 i x hx, ⟨ht, a1, a2, fun i x y q1 q2 q3 => by rw [e3, t2, t3]; exact a3 i x y q1 q2 q3⟩, fun i x hx => by rw [t1, t2]; exact h5 i x hx, h6, h7⟩
theorem s_Mreach {i0 w : Nat} (hL : Lay S R) (hT : R 65 17 = T) (hY : LyTr S R T) (hN : LyNo S R N) (hT2 : T < 112) (hN2 : N < 112) (h : MCr N T I J ns l) (hi : i0 < ns.length) (hw : w ≤ 1) (k : ∀ I', fr (fun x _ => x = 118) I I' → (∀ x, x < ns.length → ((I' 118 x = 0 ∧ ¬ Relation.TransGen (wE ns l w) i0 x) ∨ (I' 118 x = 1 ∧ Relation.TransGen (wE ns l w) i0 x))) → Q (some none) (S, I', J, R, c)) : X xs L (d + 702) 141 0 [.ref 65, .ref N, .int (ii i0), .int (ii w), .null, .null, .null, .null, .null] [] (S, I, J, R, c) Q := by
  have hn40 := h.2.1
  have hM : ∀ I', fr (fun x _ => x = 118) I I' → MCr N T I' J ns l := fun I' f => MCr_of h (f _ _ (by omega)) rfl (fr_row f _ (by intro k; omega)) (fr_row f _ (by intro k; omega)) (fr_row f _ (by intro k; omega)) (fr_row f _ (by intro k; omega)) (fr_row f _ (by intro k; omega))
  have inner : ∀ (x : Nat) (r : Nat → Bool) (I' : Nat → Nat → Int32) (mo : Int32), x < ns.length → fr (fun x _ => x = 118) I I' → RB I' r → (∀ (is : Bool) (v : Int32), (is = true → adj ns l i0 x = true ∨ ∃ y, r y = true ∧ adj ns l y x = true) → (is = false → adj ns l i0 x = false ∧ ∀ y, y < ns.length → r y = true → adj ns l y x = false) → X xs L (d + 702) 141 146 [.ref 65, .ref N, .int (ii i0), .int (ii w), .ref 118, .int mo, .int (ii x), .int (bi is), .int v] [] (S, I', J, R, c) Q) → ∀ (f y : Nat) (is : Bool), ns.length - y = f → y ≤ ns.length → (is = true → adj ns l i0 x = true ∨ ∃ y, r y = true ∧ adj ns l y x = true) → (is = false → adj ns l i0 x = false ∧ ∀ y', y' < y → r y' = true → adj ns l y' x = false) → X xs L (d + 702) 141 95 [.ref 65, .ref N, .int (ii i0), .int (ii w), .ref 118, .int mo, .int (ii x), .int (bi is), .int (ii y)] [] (S, I', J, R, c) Q := by
    intro x r I' mo hx hf hr kk f
    have hM' := hM I' hf
    induction f with
    | zero =>
      intro y is g1 g2 g3 g4
      have e : y = ns.length := by omega
      refine b_X14_reach_95 hN (fun _ => kk is _ g3 (by rw [← e]; exact g4)) (fun z => ?_)
      rw [hM'.1, e] at z; exact absurd (Int32.le_refl _) z
    | succ f ih =>
      intro y is g1 g2 g3 g4
      have hy : y < ns.length := by omega
      refine b_X14_reach_95 hN (fun z => ?_) (fun _ => ?_)
      · rw [hM'.1, ii_le (by omega) (by omega)] at z; omega
      refine b_X14_reach_104 (fun z => ?_) (fun z => ?_)
      · have his : is = true := by cases is with | true => rfl | false => exact absurd rfl z
        subst his
        exact kk true _ g3 (fun q => by cases q)
      · have his : is = false := bi_0.1 (Classical.not_not.1 z)
        subst his
        obtain ⟨g5, g6⟩ := g4 rfl
        have hb : inb (ii y) 40 = true := ii_inb (by omega) (by omega)
        refine b_X14_reach_109 hL hb (fun z2 => ?_) (fun z2 => ?_)
        · rw [ii_nat (by omega), hr y (by omega)] at z2
          have hry : r y = false := bi_0.1 z2
          refine b_X14_reach_137 (b_X14_reach_138 ?_)
          rw [ii_add1]
          refine ih (y + 1) false (by omega) (by omega) (fun q => by cases q) (fun _ => ⟨g5, fun y' hy' hr' => ?_⟩)
          by_cases e : y' = y
          · rw [e, hry] at hr'; cases hr'
          · exact g6 y' (by omega) hr'
        · rw [ii_nat (by omega), hr y (by omega)] at z2
          have hry : r y = true := by
            cases q : r y with
            | true => rfl
            | false => rw [q] at z2; exact absurd rfl z2
          refine b_X14_reach_117 hL hN hb ?_
          rw [ii_nat (by omega)]
          refine s_Mnm hL hT hY hM' hy hx ?_
          by_cases ha : adj ns l y x = true
          · rw [if_pos ha]
            refine b_X14_reach_130 (fun z3 => absurd z3 (by decide)) (fun _ => b_X14_reach_133 (b_X14_reach_138 ?_))
            rw [ii_add1]
            exact ih (y + 1) true (by omega) (by omega) (fun _ => Or.inr ⟨y, hry, ha⟩) (fun q => by cases q)
          · rw [if_neg ha]
            have ha' : adj ns l y x = false := by cases q : adj ns l y x with | false => rfl | true => exact absurd q ha
            refine b_X14_reach_130 (fun _ => b_X14_reach_137 (b_X14_reach_138 ?_)) (fun z3 => absurd rfl z3)
            rw [ii_add1]
            refine ih (y + 1) false (by omega) (by omega) (fun q => by cases q) (fun _ => ⟨g5, fun y' hy' hr' => ?_⟩)
            by_cases e : y' = y
            · rw [e]; exact ha'
            · exact g6 y' (by omega) hr'
  have hfin : ∀ (r : Nat → Bool) (I' : Nat → Nat → Int32), fr (fun x _ => x = 118) I I' → RB I' r → (∀ x, r x = true → Relation.TransGen (wE ns l w) i0 x) → (∀ x, x < ns.length → (w = 1 → ndk ns x = 1) → r x = false → adj ns l i0 x = false ∧ ∀ y, y < ns.length → r y = true → adj ns l y x = false) → Q (some none) (S, I', J, R, c) := by
    intro r I' hf hr hs hc
    refine k I' hf (fun x hx => ?_)
    rw [hr x (by omega)]
    cases hrx : r x with
    | true => exact Or.inr ⟨rfl, hs x hrx⟩
    | false =>
      refine Or.inl ⟨rfl, fun ht => ?_⟩
      have hall : ∀ z, Relation.TransGen (wE ns l w) i0 z → r z = true := by
        intro z hz
        induction hz with
        | single e =>
          cases q : r _ with
          | true => rfl
          | false => have := (hc _ (adj_lt e.1) e.2 q).1; rw [e.1] at this; cases this
        | tail h1 e ih =>
          rename_i b z
          cases q : r z with
          | true => rfl
          | false =>
            have hb : b < ns.length := by
              cases h1 with
              | single e => exact adj_lt e.1
              | tail _ e => exact adj_lt e.1
            have := (hc _ (adj_lt e.1) e.2 q).2 b hb ih; rw [e.1] at this; cases this
      rw [hall x ht] at hrx; cases hrx
  have outer : ∀ (f : Nat) (r : Nat → Bool) (I' : Nat → Nat → Int32) (v6 v7 v8 : Value), ns.length - fb_ct r ns.length ≤ f → fr (fun x _ => x = 118) I I' → RB I' r → (∀ x, r x = true → Relation.TransGen (wE ns l w) i0 x) → X xs L (d + 702) 141 31 [.ref 65, .ref N, .int (ii i0), .int (ii w), .ref 118, .int 1, v6, v7, v8] [] (S, I', J, R, c) Q := by
    intro f
    induction f with
    | zero =>
      intro r I' v6 v7 v8 g1 g2 g3 g4
      -- all of them are there: a pass changes nothing
      have hall : ∀ x, x < ns.length → r x = true := fb_ct_all.1 (by have := fb_ct_le r ns.length; omega)
      refine b_X14_reach_31 (fun z => absurd z (by decide)) (fun _ => b_X14_reach_36 ?_)
      have hM' := hM I' g2
      have pass : ∀ (g x : Nat) (v7 v8 : Value), ns.length - x = g → x ≤ ns.length → X xs L (d + 702) 141 42 [.ref 65, .ref N, .int (ii i0), .int (ii w), .ref 118, .int 0, .int (ii x), v7, v8] [] (S, I', J, R, c) Q := by
        intro g
        induction g with
        | zero =>
          intro x v7 v8 h1 h2
          refine b_X14_reach_42 hN (fun _ => b_X14_reach_169 (b_X14_reach_31 (fun _ => b_X14_reach_172 ?_) (fun z => absurd rfl z))) (fun z => ?_)
          · exact hfin r I' g2 g3 g4 (fun x hx _ q => by rw [hall x hx] at q; cases q)
          · rw [hM'.1, show x = ns.length by omega] at z; exact absurd (Int32.le_refl _) z
        | succ g ih =>
          intro x v7 v8 h1 h2
          have hx : x < ns.length := by omega
          refine b_X14_reach_42 hN (fun z => ?_) (fun _ => ?_)
          · rw [hM'.1, ii_le (by omega) (by omega)] at z; omega
          refine b_X14_reach_51 hL (ii_inb (by omega) (by omega)) (fun _ => b_X14_reach_163 ?_) (fun z => ?_)
          · rw [ii_add1]; exact ih (x + 1) v7 v8 (by omega) (by omega)
          · rw [ii_nat (by omega), g3 x (by omega), hall x hx] at z; exact absurd (by decide) z
      exact pass ns.length 0 v7 v8 (by omega) (by omega)
    | succ f ihO =>
      intro r I' v6 v7 v8 g1 g2 g3 g4
      refine b_X14_reach_31 (fun z => absurd z (by decide)) (fun _ => b_X14_reach_36 ?_)
      have pass : ∀ (g x : Nat) (r1 : Nat → Bool) (I1 : Nat → Nat → Int32) (mo : Bool) (v7 v8 : Value), ns.length - x = g → x ≤ ns.length → fr (fun x _ => x = 118) I I1 → RB I1 r1 → (∀ x, r1 x = true → Relation.TransGen (wE ns l w) i0 x) → fb_ct r ns.length ≤ fb_ct r1 ns.length → (mo = true → fb_ct r ns.length < fb_ct r1 ns.length) → (mo = false → ∀ x', x' < x → (w = 1 → ndk ns x' = 1) → r1 x' = false → adj ns l i0 x' = false ∧ ∀ y, y < ns.length → r1 y = true → adj ns l y x' = false) → X xs L (d + 702) 141 42 [.ref 65, .ref N, .int (ii i0), .int (ii w), .ref 118, .int (bi mo), .int (ii x), v7, v8] [] (S, I1, J, R, c) Q := by
        intro g
        induction g with
        | zero =>
          intro x r1 I1 mo v7 v8 h1 h2 h3 h4 h5 h6 h7 h8
          have hM' := hM I1 h3
          have e : x = ns.length := by omega
          refine b_X14_reach_42 hN (fun _ => b_X14_reach_169 ?_) (fun z => ?_)
          · cases mo with
            | true => exact ihO r1 I1 _ _ _ (by have := h7 rfl; have := fb_ct_le r1 ns.length; omega) h3 h4 h5
            | false =>
              refine b_X14_reach_31 (fun _ => b_X14_reach_172 ?_) (fun z => absurd rfl z)
              exact hfin r1 I1 h3 h4 h5 (fun x' hx' => h8 rfl x' (by omega))
          · rw [hM'.1, e] at z; exact absurd (Int32.le_refl _) z
        | succ g ih =>
          intro x r1 I1 mo v7 v8 h1 h2 h3 h4 h5 h6 h7 h8
          have hM' := hM I1 h3
          have hx : x < ns.length := by omega
          have hb : inb (ii x) 40 = true := ii_inb (by omega) (by omega)
          have hkx := hM'.2.2.1 x _ (ge_lt hx)
          refine b_X14_reach_42 hN (fun z => ?_) (fun _ => ?_)
          · rw [hM'.1, ii_le (by omega) (by omega)] at z; omega
          have hskip : (r1 x = true ∨ (w = 1 ∧ ¬ ndk ns x = 1)) → ∀ v7 v8, X xs L (d + 702) 141 163 [.ref 65, .ref N, .int (ii i0), .int (ii w), .ref 118, .int (bi mo), .int (ii x), v7, v8] [] (S, I1, J, R, c) Q := by
            intro hq v7 v8
            refine b_X14_reach_163 ?_
            rw [ii_add1]
            refine ih (x + 1) r1 I1 mo v7 v8 (by omega) (by omega) h3 h4 h5 h6 h7 (fun hm x' hx' hal hr' => ?_)
            by_cases e : x' = x
            · subst e
              rcases hq with q | q
              · rw [q] at hr'; cases hr'
              · exact absurd (hal q.1) q.2
            · exact h8 hm x' (by omega) hal hr'
          refine b_X14_reach_51 hL hb (fun z => ?_) (fun z => ?_)
          · rw [ii_nat (by omega), h4 x (by omega)] at z
            refine hskip (Or.inl ?_) v7 v8
            cases q : r1 x with
            | true => rfl
            | false => rw [q] at z; exact absurd rfl z
          · rw [ii_nat (by omega), h4 x (by omega)] at z
            have hrx : r1 x = false := bi_0.1 (Classical.not_not.1 z)
            have hmain : (w = 1 → ndk ns x = 1) → X xs L (d + 702) 141 78 [.ref 65, .ref N, .int (ii i0), .int (ii w), .ref 118, .int (bi mo), .int (ii x), v7, v8] [] (S, I1, J, R, c) Q := by
              intro hal
              refine b_X14_reach_78 hL hN (ii_inb (by omega) (by omega)) ?_
              rw [ii_nat (by omega)]
              refine s_Mnm hL hT hY hM' hi hx ?_
              refine b_X14_reach_90 ?_
              refine inner x r1 I1 (bi mo) hx h3 h4 (fun is v q1 q2 => ?_) ns.length 0 (adj ns l i0 x) (by omega) (by omega) (fun q => Or.inl q) (fun q => ⟨q, fun y' hy' => by omega⟩)
              refine b_X14_reach_146 (fun z5 => ?_) (fun z5 => ?_)
              · have his : is = true := by cases is with | true => rfl | false => exact absurd rfl z5
                have hq := q1 his
                refine b_X14_reach_154 hL hb ?_
                rw [ii_nat (by omega), vpb1]
                refine b_X14_reach_163 ?_
                rw [ii_add1]
                have hct := fb_ct_upd r1 true (i := x) (n := ns.length) hx
                rw [hrx] at hct
                have hct : fb_ct (fun k => if k = x then true else r1 k) ns.length = fb_ct r1 ns.length + 1 := by simpa using hct
                refine ih (x + 1) (fun k => if k = x then true else r1 k) _ true _ _ (by omega) (by omega) (fr_u _ h3 rfl) (fun y hy => ?_) (fun y hy => ?_) (by omega) (fun _ => by omega) (fun q => by cases q)
                · rw [u2_if]
                  show _ = if (if y = x then true else r1 y) = true then (1 : Int32) else 0
                  by_cases e : y = x
                  · rw [if_pos ⟨rfl, e⟩, if_pos e]; rfl
                  · rw [if_neg (by omega), if_neg e]; exact h4 y hy
                · by_cases e : y = x
                  · subst e
                    rcases hq with q | ⟨b, b1, b2⟩
                    · exact Relation.TransGen.single ⟨q, hal⟩
                    · exact Relation.TransGen.tail (h5 b b1) ⟨b2, hal⟩
                  · rw [if_neg e] at hy; exact h5 y hy
              · have his : is = false := bi_0.1 (Classical.not_not.1 z5)
                have hq := q2 his
                refine b_X14_reach_151 (b_X14_reach_163 ?_)
                rw [ii_add1]
                refine ih (x + 1) r1 I1 mo _ _ (by omega) (by omega) h3 h4 h5 h6 h7 (fun hm x' hx' hal' hr' => ?_)
                by_cases e : x' = x
                · rw [e]; exact hq
                · exact h8 hm x' (by omega) hal' hr'
            refine b_X14_reach_59 (fun z3 => ?_) (fun z3 => ?_)
            · refine hmain (fun e => ?_)
              rw [e] at z3; exact absurd z3 (by decide)
            · have hw1 : w = 1 := by
                by_cases e : w = 0
                · rw [e] at z3; exact absurd rfl z3
                · omega
              have hk2 := hkx.2.2
              refine b_X14_reach_63 hN hb (fun z4 => ?_) (fun z4 => ?_)
              · rw [ii_nat (by omega), hkx.2.1] at z4
                refine hmain (fun _ => ?_)
                rw [ndk_at (ge_lt hx)]
                have z4 : ii (ns[x].2.1 + 10) = ii 11 := z4
                rw [ii_inj (by omega) (by omega)] at z4; omega
              · rw [ii_nat (by omega), hkx.2.1] at z4
                refine b_X14_reach_75 (hskip (Or.inr ⟨hw1, fun e => z4 ?_⟩) v7 v8)
                rw [ndk_at (ge_lt hx)] at e
                rw [e]; rfl
      exact pass ns.length 0 r I' false v7 v8 (by omega) (by omega) g2 g3 g4 (Nat.le_refl _) (fun q => by cases q) (fun _ x' hx' => by omega)
  refine b_X14_reach_0 hL ?_
  have clr : ∀ (f x : Nat) (I' : Nat → Nat → Int32), 40 - x = f → x ≤ 40 → fr (fun x _ => x = 118) I I' → (∀ y, y < x → I' 118 y = 0) → X xs L (d + 702) 141 9 [.ref 65, .ref N, .int (ii i0), .int (ii w), .ref 118, .int (ii x), .null, .null, .null] [] (S, I', J, R, c) Q := by
    intro f
    induction f with
    | zero =>
      intro x I' g1 g2 g3 g4
      refine b_X14_reach_9 (fun _ => b_X14_reach_28 ?_) (fun z => ?_)
      · exact outer ns.length (fun _ => false) I' _ _ _ (by omega) g3 (fun y hy => by rw [g4 y (by omega)]; rfl) (fun y hy => by cases hy)
      · rw [show x = 40 by omega] at z; exact absurd (by decide) z
    | succ f ih =>
      intro x I' g1 g2 g3 g4
      refine b_X14_reach_9 (fun z => ?_) (fun _ => ?_)
      · have := (ii_le (n := 40) (by omega) (by omega)).1 z; omega
      refine b_X14_reach_16 hL (ii_inb (by omega) (by omega)) ?_
      rw [ii_nat (by omega), vpb0, ii_add1]
      refine ih (x + 1) _ (by omega) (by omega) (fr_u _ g3 rfl) (fun y hy => ?_)
      rw [u2_if]
      by_cases e : y = x
      · rw [if_pos ⟨rfl, e⟩]
      · rw [if_neg (by omega)]; exact g4 y (by omega)
  exact clr 40 0 I (by omega) (by omega) (fr_refl _ _) (fun y hy => by omega)
end MREACH
