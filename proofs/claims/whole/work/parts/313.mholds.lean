/-! ===== P2: the model reads a claim's formulas ===== -/
def bI (b : Bool) : Int32 := if b = true then 1 else 0
theorem bI_01 (b : Bool) : bI b = 0 ∨ bI b = 1 := by cases b <;> decide
theorem bI_0 {b : Bool} : bI b = 0 ↔ b = false := by cases b <;> decide
def bjo (x : Int32) (a b : Bool) : Bool := if x = -38 then a && b else if x = -124 then a || b else a != b
def lvA (nv a v : Nat) : Bool := a.testBit (nv - 1 - v)
theorem tbA {a e : Nat} (ha : a < 512) (he : e < 9) : ((ii a >>> (ii e &&& 31)) &&& 1) = 1 ↔ a.testBit e = true := by
  have : ∀ (a : Fin 512) (e : Fin 9), (((ii a.val >>> (ii e.val &&& 31)) &&& 1) = 1 ↔ a.val.testBit e.val = true) := by decide +kernel
  exact this ⟨a, ha⟩ ⟨e, he⟩
def foB (lv : Nat → Bool) (cds : List Int32) : Bool := match cds.foldl (stg false true (fun b => !b) bjo lv) [] with
  | a :: _ => a
  | [] => false
def sayB (lv : Nat → Bool) (l : List Int32) (x : Cl) : Bool := foB lv (seg l x.2.1 x.2.2.1)
def holB (lv : Nat → Bool) (l : List Int32) (x : Cl) : Bool := if x.2.2.1 < x.2.2.2.1 then foB lv (seg l x.2.2.1 x.2.2.2.1) else true
section MH1
variable {xs : Nat → Int32} {L : Nat} {S : Nat → Shp} {I : Nat → Nat → Int32} {J : Nat → Nat → Int64} {R : Nat → Nat → Nat} {c : Nat × Nat} {C T gv nv a : Nat} {cs : List Cl} {l : List Int32}
theorem s_Mvrb {d v : Nat} {Q : Option (Option Value) → MH → Prop} (hL : Lay S R) (hC : R 65 13 = C) (hYC : LyCs S R C) (h29 : I 65 29 = ii a) (ha : a < 512) (hv : I C 8 = ii nv) (hnv : nv ≤ 9) (hvn : v < nv) (k : Q (some (some (.int (bI (lvA nv a v))))) (S, I, J, R, c)) : X xs L d 149 0 [.ref 65, .int (ii v)] [] (S, I, J, R, c) Q := by
  have e : ((I 65 29) >>> ((((I C 8) - 1) - ii v) &&& 31)) &&& 1 = (ii a >>> (ii (nv - 1 - v) &&& 31)) &&& 1 := by
    rw [h29, hv, ii_one, ii_sub (by omega), ii_sub (by omega)]
  have hk := k
  unfold bI lvA at hk
  refine b_X14_variable__0 hL hC hYC (fun z => ?_) (fun z => ?_)
  · rw [e, tbA ha (by omega)] at z
    rw [if_neg z] at hk
    exact b_X14_variable__26 (b_X14_variable__27 (Or.inl rfl) hk)
  · rw [e, tbA ha (by omega)] at z
    rw [if_pos (Classical.not_not.1 z)] at hk
    exact b_X14_variable__22 (b_X14_variable__27 (Or.inr rfl) hk)
theorem s_Mholds (hL : Lay S R) (hT : R 65 15 = T) (hYT : LyTr S R T) (hC : R 65 13 = C) (hYC : LyCs S R C) (h29 : I 65 29 = ii a) (ha : a < 512) (hv : I C 8 = ii nv) (hnv : nv ≤ 9) (hr : RTc T l nv I) (hl : l.length ≤ 2000) : ∀ (f s t d : Nat) (Q : Option (Option Value) → MH → Prop), tre l (I (T + 2)) (I (T + 3)) f s t → Q (some (some (.int (bI (evg false true (fun b => !b) bjo (lvA nv a) l (I (T + 2)) f t))))) (S, I, J, R, c) → X xs L (d + f) 150 0 [.ref 65, .int (ii t)] [] (S, I, J, R, c) Q
  | 0, _, _, _, _, h, _ => absurd h (fun z => z)
  | f + 1, s, t, d, Q, h, k => by
    have hlt := tre_lt _ _ _ h
    have hb : inb (ii t) 2000 = true := ii_inb (by omega) (by omega)
    obtain ⟨x, hx, h⟩ := h
    rw [evg, hx] at k
    simp only at k
    have hop := (hr t x hx).1
    have hn : (ii t).toNatClampNeg = t := ii_nat (by omega)
    show X xs L ((d + f) + 1) 150 0 _ _ _ _
    rcases h with ⟨h1, h2⟩ | ⟨h1, u, h2, h3, h4⟩ | ⟨h1, u, q, h2, h3, h4, h5, h6⟩
    · rcases h1 with h1 | h1 | h1
      · obtain ⟨v, v1, v2, v3⟩ := (hr t x hx).2 h1
        have hnx : ¬ x < 0 := by rw [v1]; exact ii_nn (by omega)
        rw [if_neg hnx, v1, ii_nat (by omega)] at k
        rw [v1, opc_ii (by omega), if_neg (by decide)] at hop
        refine b_X14_holds_0 (tgt := 72) hL hT hYT hb (xnB_lk rfl (by rw [hn, hop]; rfl)) ?_
        refine b_X14_holds_72 hL hT hYT hb ?_
        rw [hn, v3]
        exact s_Mvrb hL hC hYC h29 ha hv hnv v2 (b_X14_holds_85 (bI_01 _) k)
      · subst h1
        exact b_X14_holds_0 (tgt := 68) hL hT hYT hb (xnB_lk rfl (by rw [hn, hop]; rfl)) (b_X14_holds_68 k)
      · subst h1
        exact b_X14_holds_0 (tgt := 70) hL hT hYT hb (xnB_lk rfl (by rw [hn, hop]; rfl)) (b_X14_holds_70 k)
    · subst h1
      refine b_X14_holds_0 (tgt := 86) hL hT hYT hb (xnB_lk rfl (by rw [hn, hop]; rfl)) ?_
      refine b_X14_holds_86 hL hT hYT hb ?_
      rw [hn, h3]
      rw [if_pos (by decide), if_neg (by decide), if_neg (by decide), if_pos rfl, h2, Nat.add_sub_cancel] at k
      refine s_Mholds hL hT hYT hC hYC h29 ha hv hnv hr hl f s u d _ h4 ?_
      revert k
      generalize evg false true (fun b => !b) bjo (lvA nv a) l (I (T + 2)) f u = b
      intro k
      cases b
      · exact b_X14_holds_99 (fun z => absurd rfl z) (fun _ => b_X14_holds_102 (b_X14_holds_107 (Or.inr rfl) k))
      · exact b_X14_holds_99 (fun _ => b_X14_holds_106 (b_X14_holds_107 (Or.inl rfl) k)) (fun z => absurd (by decide) z)
    · have hq1 := (tre_lt _ _ _ h5)
      have hq2 := (tre_lt _ _ _ h6)
      have e : (I (T + 2) t).toNatClampNeg = q := by rw [h3, ii_nat (by omega)]
      have eu : t - 1 = u := by omega
      rw [e, eu] at k
      have rec1 := fun d Q => s_Mholds (d := d) (Q := Q) hL hT hYT hC hYC h29 ha hv hnv hr hl f s q
      have rec2 := fun d Q => s_Mholds (d := d) (Q := Q) hL hT hYT hC hYC h29 ha hv hnv hr hl f (q + 1) u
      revert k rec1 rec2
      generalize evg false true (fun b => !b) bjo (lvA nv a) l (I (T + 2)) f q = b1
      generalize evg false true (fun b => !b) bjo (lvA nv a) l (I (T + 2)) f u = b2
      intro k rec1 rec2
      rcases h1 with h1 | h1 | h1 <;> subst h1
      · refine b_X14_holds_0 (tgt := 108) hL hT hYT hb (xnB_lk rfl (by rw [hn, hop]; rfl)) ?_
        refine b_X14_holds_108 hL hT hYT hb ?_
        rw [hn, h3]
        refine rec1 d _ h5 (b_X14_holds_121 hL hT hYT hb ?_)
        rw [hn, h4]
        refine rec2 d _ h6 (b_X14_holds_134 ?_ ?_)
        · cases b1 <;> cases b2 <;> decide
        · have e2 : bI b1 &&& bI b2 = bI (bjo (-38) b1 b2) := by cases b1 <;> cases b2 <;> decide
          rw [e2]; exact k
      · refine b_X14_holds_0 (tgt := 164) hL hT hYT hb (xnB_lk rfl (by rw [hn, hop]; rfl)) ?_
        refine b_X14_holds_164 hL hT hYT hb ?_
        rw [hn, h3]
        refine rec1 d _ h5 (b_X14_holds_177 hL hT hYT hb ?_)
        rw [hn, h4]
        refine rec2 d _ h6 (b_X14_holds_190 ?_ ?_)
        · cases b1 <;> cases b2 <;> decide
        · have e2 : bI b1 ^^^ bI b2 = bI (bjo (-94) b1 b2) := by cases b1 <;> cases b2 <;> decide
          rw [e2]; exact k
      · refine b_X14_holds_0 (tgt := 136) hL hT hYT hb (xnB_lk rfl (by rw [hn, hop]; rfl)) ?_
        refine b_X14_holds_136 hL hT hYT hb ?_
        rw [hn, h3]
        refine rec1 d _ h5 (b_X14_holds_149 hL hT hYT hb ?_)
        rw [hn, h4]
        refine rec2 d _ h6 (b_X14_holds_162 ?_ ?_)
        · cases b1 <;> cases b2 <;> decide
        · have e2 : bI b1 ||| bI b2 = bI (bjo (-124) b1 b2) := by cases b1 <;> cases b2 <;> decide
          rw [e2]; exact k
theorem foB_tre {lv : Nat → Bool} {lt rt : Nat → Int32} {f s e : Nat} (hl : l.length ≤ 2000) (hse : s < e) (h : tre l lt rt f s (e - 1)) : foB lv (seg l s e) = evg false true (fun b => !b) bjo lv l lt f (e - 1) := by
  have := run_tre (zz := false) (oo := true) (ng := fun b => !b) (jo := bjo) (lv := lv) hl f s (e - 1) [] h
  rw [show e - 1 + 1 = e by omega] at this
  unfold foB; rw [this]
theorem mix_lt {j : Nat} (hg : gv ≤ 24) (hc : cs.length ≤ gv + 24) (hj : j < cs.length) : mix gv j < 48 := by
  unfold mix; split <;> omega
theorem s_Msays {d j : Nat} {x : Cl} {Q : Option (Option Value) → MH → Prop} (hL : Lay S R) (hT : R 65 15 = T) (hYT : LyTr S R T) (hC : R 65 13 = C) (hYC : LyCs S R C) (h29 : I 65 29 = ii a) (ha : a < 512) (hq : QCl C T gv I cs l nv) (hx : cs[j]? = some x) (k : Q (some (some (.int (bI (sayB (lvA nv a) l x))))) (S, I, J, R, c)) : X xs L (d + 310) 150 0 [.ref 65, .int (I (C + 2) (mix gv j))] [] (S, I, J, R, c) Q := by
  obtain ⟨q1, q2, q3, q4, q5, q6, q7, q8, q9⟩ := hq
  obtain ⟨m1, m2, m3, m4, m5, m6, m7, m8, m9⟩ := q7 j x hx
  rw [m2]
  refine s_Mholds hL hT hYT hC hYC h29 ha q3 q4 q8 q9 310 _ _ d Q m8 ?_
  unfold sayB at k
  rw [foB_tre q9 m6 m8] at k
  exact k
theorem s_Mapp {d j : Nat} {x : Cl} {Q : Option (Option Value) → MH → Prop} (hL : Lay S R) (hT : R 65 15 = T) (hYT : LyTr S R T) (hC : R 65 13 = C) (hYC : LyCs S R C) (h29 : I 65 29 = ii a) (ha : a < 512) (hq : QCl C T gv I cs l nv) (hx : cs[j]? = some x) (hg : gv ≤ 24) (hc : cs.length ≤ gv + 24) (k : Q (some (some (.int (bI (holB (lvA nv a) l x))))) (S, I, J, R, c)) : X xs L (d + 311) 153 0 [.ref 65, .int (ii (mix gv j))] [] (S, I, J, R, c) Q := by
  obtain ⟨q1, q2, q3, q4, q5, q6, q7, q8, q9⟩ := hq
  obtain ⟨m1, m2, m3, m4, m5, m6, m7, m8, m9⟩ := q7 j x hx
  have hm := mix_lt hg hc (List.getElem?_eq_some_iff.1 hx).1
  have hb : inb (ii (mix gv j)) 48 = true := ii_inb hm (by omega)
  have hn : (ii (mix gv j)).toNatClampNeg = mix gv j := ii_nat (by omega)
  unfold holB at k
  refine b_X14_applies_0 hL hC hYC hb (fun z => ?_) (fun z => ?_)
  · rw [hn, m3] at z
    by_cases e : x.2.2.1 = x.2.2.2.1
    · rw [if_neg (by omega)] at k
      exact b_X14_applies_28 (b_X14_applies_33 (Or.inr rfl) k)
    · have := tre_lt _ _ _ (m9 (by omega))
      rw [if_neg e] at z; exact absurd z (ii_nn (by omega))
  · rw [hn, m3] at z
    by_cases e : x.2.2.1 = x.2.2.2.1
    · rw [if_pos e] at z; exact absurd (by decide) z
    · have hlt : x.2.2.1 < x.2.2.2.1 := by omega
      rw [if_pos hlt, foB_tre q9 hlt (m9 hlt)] at k
      refine b_X14_applies_12 hL hC hYC hb ?_
      rw [hn, m3, if_neg e]
      refine s_Mholds hL hT hYT hC hYC h29 ha q3 q4 q8 q9 310 _ _ d _ (m9 hlt) ?_
      revert k
      generalize evg false true (fun b => !b) bjo (lvA nv a) l (I (T + 2)) 310 (x.2.2.2.1 - 1) = b
      intro k
      cases b
      · exact b_X14_applies_25 (fun _ => b_X14_applies_32 (b_X14_applies_33 (Or.inl rfl) k)) (fun z => absurd rfl z)
      · exact b_X14_applies_25 (fun z => absurd z (by decide)) (fun _ => b_X14_applies_28 (b_X14_applies_33 (Or.inr rfl) k))
end MH1
