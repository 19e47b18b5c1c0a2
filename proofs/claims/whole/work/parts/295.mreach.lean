/-! ===== P2: names and reach of the model ===== -/
theorem TKM_mk {b : Nat → Int32} {len m : Nat} {kd : Nat → Int32} {key : Nat → Int64} {pl : Nat → Nat} {I : Nat → Nat → Int32} {J : Nat → Nat → Int64} (hl : len ≤ 2000) (hb : ∀ i, i < len → byt (b i)) (h : TKP b len kd key pl m) (h1 : MT b I J (tks b len len 0)) (h2 : I 67 m = 0) (h3 : I 69 m = ii len) : TKM kd key pl m I J := by
  obtain ⟨a1, a2, a3, a4, a5, a6⟩ := h
  have hlt : ∀ i, i < m → ∃ t, (tks b len len 0)[i]? = some t := fun i hi => ⟨_, List.getElem?_eq_getElem (by omega)⟩
  refine ⟨a2, a3, fun i hi => ?_, fun i hi => ?_⟩
  · rcases Nat.lt_or_ge i m with q | q
    · obtain ⟨t, ht⟩ := hlt i q
      obtain ⟨b1, b2, b3⟩ := a6 i t ht
      obtain ⟨c1, c2, c3, c4⟩ := h1 i t ht
      obtain ⟨e1, e2, e3⟩ := tks_mem b len len 0 t (List.mem_of_getElem? ht)
      have := tok_rel hb hl e1 e2
      rw [b1, b3, c1, c2, c4]
      exact Or.inl this
    · have e : i = m := by omega
      rw [e]; exact Or.inr ⟨h2, a3⟩
  · rcases Nat.lt_or_ge i m with q | q
    · obtain ⟨t, ht⟩ := hlt i q
      rw [(h1 i t ht).2.2.1, (a6 i t ht).2.1]
    · have e : i = m := by omega
      rw [e, h3, a4]
def RT (T : Nat) (l : List Int32) (I : Nat → Nat → Int32) : Prop := ∀ i x, l[i]? = some x → I (T + 1) i = opc 1 x ∧ (0 ≤ x → I (T + 2) i = x)
theorem opc_neg {md : Nat} {x : Int32} (h : x = -33 ∨ x = -38 ∨ x = -94 ∨ x = -124) : opc md x = -x := by
  unfold opc
  rcases h with q | q | q | q <;> subst q <;> rfl
section MNAMES
variable {xs : Nat → Int32} {L d : Nat} {S : Nat → Shp} {I : Nat → Nat → Int32} {J : Nat → Nat → Int64} {R : Nat → Nat → Nat} {c : Nat × Nat} {Q : Option (Option Value) → MH → Prop} {N T : Nat} {ns : List Nd} {l : List Int32}
theorem s_Mnames {j : Nat} (hL : Lay S R) (hT : R 65 17 = T) (hY : LyTr S R T) (hl : l.length ≤ 2000) (hr : RT T l I) (hj : j < 64) : ∀ (f s t : Nat) (d : Nat) (Q : Option (Option Value) → MH → Prop), tre l (I (T + 2)) (I (T + 3)) f s t → (hasL l s (t + 1) j → Q (some (some (.int 1))) (S, I, J, R, c)) → (¬ hasL l s (t + 1) j → Q (some (some (.int 0))) (S, I, J, R, c)) → X xs L (d + f) 140 0 [.ref 65, .int (ii t), .int (ii j)] [] (S, I, J, R, c) Q
  | 0, _, _, _, _, h, _, _ => absurd h (fun z => z)
  | f + 1, s, t, d, Q, h, k1, k0 => by
    have hlt := tre_lt _ _ _ h
    obtain ⟨x, hx, h⟩ := h
    obtain ⟨r1, r2⟩ := hr t x hx
    have hb : inb (ii t) 2000 = true := ii_inb (by omega) (by omega)
    have hnn : ¬ ii t < 0 := ii_nn (by omega)
    have e2 : d + (f + 1) = (d + f) + 1 := by omega
    rw [e2]
    refine b_X14_names_0 (fun z => absurd z hnn) (fun _ => ?_)
    rcases h with ⟨h1, h2⟩ | ⟨h1, u, h2, h3, h4⟩ | ⟨h1, u, q, h2, h3, h4, h5, h6⟩
    · have hself : hasL l s (t + 1) j ↔ x = ii j := by
        constructor
        · rintro ⟨p, p1, p2, p3⟩
          have : p = t := by omega
          rw [this, hx] at p3; simpa using p3
        · intro e; exact ⟨t, by omega, by omega, by rw [hx, e]⟩
      rcases h1 with h1 | h1
      · obtain ⟨v, hv, hxv⟩ : ∃ v, v < 2147483648 ∧ x = ii v := ⟨x.toNatClampNeg, by
          have := Int32.toInt_lt x
          have e : x.toNatClampNeg = x.toInt.toNat := rfl
          omega, ii_of h1⟩
        have hop : I (T + 1) t = 78 := by rw [r1, hxv, opc_ii hv]; rfl
        refine b_X14_names_4 hL hT hY hb (fun _ => ?_) (fun z => ?_)
        · refine b_X14_names_19 hL hT hY hb (fun z => ?_) (fun _ => ?_)
          · rw [ii_nat (by omega), hop] at z; exact absurd rfl z
          · refine b_X14_names_33 hL hT hY hb (fun z => ?_) (fun z => ?_)
            · rw [ii_nat (by omega), r2 h1] at z
              exact b_X14_names_50 (b_X14_names_51 (Or.inl rfl) (k0 (fun q => z (hself.1 q))))
            · rw [ii_nat (by omega), r2 h1] at z
              exact b_X14_names_46 (b_X14_names_51 (Or.inr rfl) (k1 (hself.2 (Classical.not_not.1 z))))
        · rw [ii_nat (by omega), hop] at z; exact absurd (by decide) z
      · have hop : ¬ 1 < I (T + 1) t := by rw [r1]; rcases h1 with e | e <;> rw [e] <;> decide
        refine b_X14_names_4 hL hT hY hb (fun z => ?_) (fun _ => b_X14_names_17 (k0 (fun q => ?_)))
        · rw [ii_nat (by omega)] at z; exact absurd z hop
        · have e := hself.1 q
          have : ¬ ii j < 0 := ii_nn (by omega)
          rw [← e] at this
          rcases h1 with e1 | e1 <;> rw [e1] at this <;> exact this (by decide)
    · have hop : I (T + 1) t = 33 := by rw [r1, opc_neg (Or.inl h1), h1]; rfl
      have hne : ¬ x = ii j := fun e => by
        have : ¬ ii j < 0 := ii_nn (by omega)
        rw [← e, h1] at this; exact this (by decide)
      have hsp : hasL l s (t + 1) j ↔ hasL l s (u + 1) j := by
        constructor
        · rintro ⟨p, p1, p2, p3⟩
          refine ⟨p, p1, ?_, p3⟩
          by_cases e : p = t
          · rw [e, hx] at p3; exact absurd (by simpa using p3) hne
          · omega
        · rintro ⟨p, p1, p2, p3⟩; exact ⟨p, p1, by omega, p3⟩
      refine b_X14_names_4 hL hT hY hb (fun _ => ?_) (fun z => ?_)
      · refine b_X14_names_19 hL hT hY hb (fun _ => ?_) (fun z => ?_)
        · refine b_X14_names_52 hL hT hY hb ?_
          rw [ii_nat (by omega), h3]
          refine s_Mnames hL hT hY hl hr hj f s u d _ h4 (fun q => ?_) (fun q => ?_)
          · exact b_X14_names_66 (fun _ => b_X14_names_100 (b_X14_names_105 (Or.inr rfl) (k1 (hsp.2 q)))) (fun z => absurd (by decide) z)
          · refine b_X14_names_66 (fun z => absurd rfl z) (fun _ => b_X14_names_69 hL hT hY hb (fun _ => b_X14_names_104 (b_X14_names_105 (Or.inl rfl) (k0 (fun q2 => q (hsp.1 q2))))) (fun z => ?_))
            rw [ii_nat (by omega), hop] at z; exact absurd rfl z
        · rw [ii_nat (by omega), hop] at z; exact absurd (by decide) z
      · rw [ii_nat (by omega), hop] at z; exact absurd (by decide) z
    · have hop : I (T + 1) t = 38 ∨ I (T + 1) t = 94 ∨ I (T + 1) t = 124 := by
        rw [r1, opc_neg (Or.inr h1)]
        rcases h1 with e | e | e <;> subst e
        · exact Or.inl rfl
        · exact Or.inr (Or.inl rfl)
        · exact Or.inr (Or.inr rfl)
      have hop2 : 1 < I (T + 1) t ∧ ¬ I (T + 1) t = 78 ∧ ¬ I (T + 1) t = 33 := by
        rcases hop with e | e | e <;> rw [e] <;> decide
      have hxn : x < 0 := by rcases h1 with e | e | e <;> rw [e] <;> decide
      have hne : ¬ x = ii j := fun e => by
        have : ¬ ii j < 0 := ii_nn (by omega)
        rw [← e] at this; exact this hxn
      have hq1 := (tre_lt _ _ _ h5).1
      have hq2 := (tre_lt _ _ _ h6).1
      have hsp : hasL l s (t + 1) j ↔ hasL l s (q + 1) j ∨ hasL l (q + 1) (u + 1) j := by
        constructor
        · rintro ⟨p, p1, p2, p3⟩
          by_cases e : p = t
          · rw [e, hx] at p3; exact absurd (by simpa using p3) hne
          · rcases Nat.lt_or_ge p (q + 1) with z | z
            · exact Or.inl ⟨p, p1, z, p3⟩
            · exact Or.inr ⟨p, z, by omega, p3⟩
        · rintro (⟨p, p1, p2, p3⟩ | ⟨p, p1, p2, p3⟩)
          · exact ⟨p, p1, by omega, p3⟩
          · exact ⟨p, by omega, by omega, p3⟩
      refine b_X14_names_4 hL hT hY hb (fun _ => ?_) (fun z => ?_)
      · refine b_X14_names_19 hL hT hY hb (fun _ => ?_) (fun z => ?_)
        · refine b_X14_names_52 hL hT hY hb ?_
          rw [ii_nat (by omega), h3]
          refine s_Mnames hL hT hY hl hr hj f s q d _ h5 (fun z => ?_) (fun z => ?_)
          · exact b_X14_names_66 (fun _ => b_X14_names_100 (b_X14_names_105 (Or.inr rfl) (k1 (hsp.2 (Or.inl z))))) (fun z => absurd (by decide) z)
          · refine b_X14_names_66 (fun z => absurd rfl z) (fun _ => b_X14_names_69 hL hT hY hb (fun z2 => ?_) (fun _ => ?_))
            · rw [ii_nat (by omega)] at z2; exact absurd z2 hop2.2.2
            · refine b_X14_names_83 hL hT hY hb ?_
              rw [ii_nat (by omega), h4]
              refine s_Mnames hL hT hY hl hr hj f (q + 1) u d _ h6 (fun z2 => ?_) (fun z2 => ?_)
              · exact b_X14_names_97 (fun z3 => absurd z3 (by decide)) (fun _ => b_X14_names_100 (b_X14_names_105 (Or.inr rfl) (k1 (hsp.2 (Or.inr z2)))))
              · exact b_X14_names_97 (fun _ => b_X14_names_104 (b_X14_names_105 (Or.inl rfl) (k0 (fun q2 => (hsp.1 q2).elim z z2)))) (fun z3 => absurd rfl z3)
        · rw [ii_nat (by omega)] at z; exact absurd (Classical.not_not.1 (fun q => z q)) hop2.2.1
      · rw [ii_nat (by omega)] at z; exact absurd hop2.1 z
/-- a circuit of the model: nodes N, trees T -/
def MCr (N T : Nat) (I : Nat → Nat → Int32) (J : Nat → Nat → Int64) (ns : List Nd) (l : List Int32) : Prop := I N 4 = ii ns.length ∧ ns.length ≤ 40 ∧ (∀ i x, ns[i]? = some x → J (N + 1) i = x.1 ∧ I (N + 2) i = ii (x.2.1 + 10) ∧ x.2.1 ≤ 2) ∧ MTr N T ns.length I ns l 300 ∧ RT T l I ∧ l.length ≤ 2000 ∧ ∀ y ∈ l, lvP ns.length y
theorem le_sum {ht : List Nat} {i h : Nat} (hh : ht[i]? = some h) : h ≤ ht.sum := by
  induction ht generalizing i with
  | nil => simp at hh
  | cons a ht ih =>
    rw [List.sum_cons]
    cases i with
    | zero => simp at hh; omega
    | succ i => simp at hh; have := ih hh; omega
theorem s_Mnm {i j : Nat} (hL : Lay S R) (hT : R 65 17 = T) (hY : LyTr S R T) (h : MCr N T I J ns l) (hi : i < ns.length) (hj : j < ns.length) (k : Q (some (some (.int (if adj ns l i j = true then 1 else 0)))) (S, I, J, R, c)) : X xs L (d + 701) 140 0 [.ref 65, .int (I (N + 3) i), .int (ii j)] [] (S, I, J, R, c) Q := by
  obtain ⟨h1, h2, h3, ⟨ht, t1, t2, t3⟩, h5, h6, h7⟩ := h
  have hx := ge_lt hi
  have hh : ht[i]? = some ht[i] := List.getElem?_eq_getElem (by omega)
  have hsum := le_sum hh
  obtain ⟨a1, a2⟩ := t3 i _ _ hi hx hh
  have hadj := adj_iff (l := l) (j := j) hx
  by_cases hk : ns[i].2.1 = 0
  · obtain ⟨b1, b2⟩ := a1 hk
    rw [b1]
    refine b_X14_names_0 (fun _ => b_X14_names_17 ?_) (fun z => absurd (by decide) z)
    have : ¬ adj ns l i j = true := fun q => by
      obtain ⟨-, p, p1, p2, -⟩ := hadj.1 q
      omega
    rw [if_neg this] at k
    exact k
  · obtain ⟨b1, b2, b3⟩ := a2 hk
    rw [b1]
    have e : d + 701 = (d + (701 - ht[i])) + ht[i] := by omega
    rw [e]
    refine s_Mnames hL hT hY h6 h5 (by omega) _ _ _ _ _ b3 (fun q => ?_) (fun q => ?_)
    · rw [show ns[i].2.2.2.2 - 1 + 1 = ns[i].2.2.2.2 by omega] at q
      rw [if_pos (hadj.2 ⟨hj, q⟩)] at k
      exact k
    · rw [show ns[i].2.2.2.2 - 1 + 1 = ns[i].2.2.2.2 by omega] at q
      rw [if_neg (fun z => q (hadj.1 z).2)] at k
      exact k
end MNAMES
