/-! ===== P2: finish and circuit of the model ===== -/
section FINB
variable {xs : Nat → Int32} {L d : Nat} {S : Nat → Shp} {I : Nat → Nat → Int32} {J : Nat → Nat → Int64} {R : Nat → Nat → Nat} {c : Nat × Nat} {Q : Option (Option Value) → MH → Prop}
set_option maxRecDepth 4000 in
theorem b_fin54 {x1 sx2 : Int32} {T : Nat} (hL : Lay S R) (hb : inb x1 2000 = true) (hT : R 65 17 = T) (hY : LyTr S R T) (kt : sx2 < 0 → X xs L (d + 8) 142 70 [.ref 65, .int x1] [] (S, (u2 I (T + 2) x1.toNatClampNeg sx2), J, R, c) Q) (kf : ¬ sx2 < 0 → X xs L (d + 8) 142 67 [.ref 65, .int x1] [] (S, (u2 I (T + 2) x1.toNatClampNeg sx2), J, R, c) Q) : X xs L (d + 8) 142 54 [.ref 65, .int x1] [.int sx2, .int x1, .ref (T + 2)] (S, I, J, R, c) Q := by
  refine X_iastore (show decode (mB 142) 54 = .ok (.iastore, 1) by decide +kernel) (pc' := 55) rfl hY.s2 hb ?_
  refine X_aload_n (q := 0) (show decode (mB 142) 55 = .ok (.aload_n 0, 1) by decide +kernel) (pc' := 56) rfl rfl rfl ?_
  refine X_getR (ci := 13) (f := 17) (q := T) (show decode (mB 142) 56 = .ok (.getfield 138, 3) by decide +kernel) (pc' := 59) rfl (ls_65 hL) (by decide +kernel) rfl hT ?_
  refine X_getR (ci := 12) (f := 1) (q := (T + 2)) (show decode (mB 142) 59 = .ok (.getfield 147, 3) by decide +kernel) (pc' := 62) rfl hY.s0 (by decide +kernel) rfl hY.r0_1 ?_
  refine X_iload_n (q := 1) (show decode (mB 142) 62 = .ok (.iload_n 1, 1) by decide +kernel) (pc' := 63) rfl rfl rfl ?_
  refine X_iaload (w := sx2) (show decode (mB 142) 63 = .ok (.iaload, 1) by decide +kernel) (pc' := 64) rfl hY.s2 hb (by simp [u2, u1]) ?_
  exact X_if_lt (tgt := 70) (show decode (mB 142) 64 = .ok (.ifCond .lt 6, 3) by decide +kernel) rfl (pc' := 67) rfl kt kf
end FINB
theorem rsl_at {vs : List Int64} {key : Nat → Int64} : ∀ (l : List Int32), (rsl vs key l).1 = none → ∀ (i : Nat) (x : Int32), l[i]? = some x → ∃ y : Int32, (rsl vs key l).2[i]? = some y ∧ ((x < 0 ∧ y = x) ∨ (¬ x < 0 ∧ ∃ v, v < vs.length ∧ y = ii v))
  | [], _, i, x, hx => by simp at hx
  | z :: l, h, i, x, hx => by
    rw [rsl] at h ⊢
    by_cases q : z < 0
    · rw [if_pos q] at h ⊢
      cases i with
      | zero =>
        have e : z = x := by simpa using hx
        exact ⟨z, by simp, Or.inl ⟨by rw [← e]; exact q, e⟩⟩
      | succ i =>
        obtain ⟨y, y1, y2⟩ := rsl_at l h i x (by simpa using hx)
        exact ⟨y, by simpa using y1, y2⟩
    · rw [if_neg q] at h ⊢
      cases hq : ixl (key z.toNatClampNeg) vs with
      | none => rw [hq] at h; cases h
      | some v =>
        rw [hq] at h
        simp only at h ⊢
        cases i with
        | zero =>
          have e : z = x := by simpa using hx
          exact ⟨ii v, by simp, Or.inr ⟨by rw [← e]; exact q, v, ixl_lt _ _ _ hq, rfl⟩⟩
        | succ i =>
          obtain ⟨y, y1, y2⟩ := rsl_at l h i x (by simpa using hx)
          exact ⟨y, by simpa using y1, y2⟩
theorem tre_rs {l l2 : List Int32} {lt rt lt' rt' : Nat → Int32} (hq : ∀ i x, l[i]? = some x → ∃ y, l2[i]? = some y ∧ (lfx x → lfx y) ∧ (x = -33 → y = x ∧ lt' i = lt i) ∧ (bop x → y = x ∧ lt' i = lt i ∧ rt' i = rt i)) : ∀ (f s t : Nat), tre l lt rt f s t → tre l2 lt' rt' f s t
  | 0, _, _, h => absurd h (fun z => z)
  | f + 1, s, t, h => by
    obtain ⟨x, hx, h⟩ := h
    obtain ⟨y, y1, y2, y3, y4⟩ := hq t x hx
    refine ⟨y, y1, ?_⟩
    rcases h with ⟨h1, h2⟩ | ⟨h1, u, h2, h3, h4⟩ | ⟨h1, u, q, h2, h3, h4, h5, h6⟩
    · exact Or.inl ⟨y2 h1, h2⟩
    · exact Or.inr (Or.inl ⟨by rw [(y3 h1).1]; exact h1, u, h2, by rw [(y3 h1).2]; exact h3, tre_rs hq f s u h4⟩)
    · exact Or.inr (Or.inr ⟨by rw [(y4 h1).1]; exact h1, u, q, h2, by rw [(y4 h1).2.1]; exact h3, by rw [(y4 h1).2.2]; exact h4, tre_rs hq f s q h5, tre_rs hq f (q + 1) u h6⟩)
theorem wE_loop {ns : List Nd} {l : List Int32} {n : Nat} (hk : ndk ns n = 1) : Relation.TransGen (wE ns l 1) n n ↔ wsh (wadj ns l) ns.length n n = true := by
  have hw : ∀ a b, wadj ns l a b = true ↔ (adj ns l a b = true ∧ ndk ns a = 1 ∧ ndk ns b = 1) := by
    intro a b; unfold wadj; simp [and_assoc]
  rw [wsh_iff _ _ (fun a b h => adj_lt ((hw a b).1 h).1)]
  constructor
  · intro h
    have : ∀ x, Relation.TransGen (wE ns l 1) n x → Relation.TransGen (fun a b => wadj ns l a b = true) n x ∧ ndk ns x = 1 := by
      intro x hx
      induction hx with
      | single e => exact ⟨Relation.TransGen.single ((hw _ _).2 ⟨e.1, hk, e.2 rfl⟩), e.2 rfl⟩
      | tail _ e ih => exact ⟨Relation.TransGen.tail ih.1 ((hw _ _).2 ⟨e.1, ih.2, e.2 rfl⟩), e.2 rfl⟩
    exact (this n h).1
  · intro h
    have : ∀ x, Relation.TransGen (fun a b => wadj ns l a b = true) n x → Relation.TransGen (wE ns l 1) n x := by
      intro x hx
      induction hx with
      | single e => exact Relation.TransGen.single ⟨((hw _ _).1 e).1, fun _ => ((hw _ _).1 e).2.2⟩
      | tail _ e ih => exact Relation.TransGen.tail ih ⟨((hw _ _).1 e).1, fun _ => ((hw _ _).1 e).2.2⟩
    exact this n h
theorem nw_loop {ns : List Nd} {l : List Int32} {n : Nat} (hk : ¬ ndk ns n = 1) : wsh (wadj ns l) ns.length n n = false := by
  cases q : wsh (wadj ns l) ns.length n n with
  | false => rfl
  | true =>
    have hw : ∀ a b, wadj ns l a b = true → (adj ns l a b = true ∧ ndk ns a = 1) := by
      intro a b h; unfold wadj at h; simp at h; exact ⟨h.1.1, h.1.2⟩
    have h := wsh_snd _ _ _ _ q
    have : ∀ x, Relation.TransGen (fun a b => wadj ns l a b = true) n x → ndk ns n = 1 := by
      intro x hx
      induction hx with
      | single e => exact (hw _ _ e).2
      | tail _ _ ih => exact ih
    exact absurd (this n h) hk
def aMf (T : Nat) (x k : Nat) : Prop := x = T + 2 ∨ x = 118 ∨ (x = 65 ∧ k = 8)
section MFIN
variable {xs : Nat → Int32} {L d : Nat} {S : Nat → Shp} {I : Nat → Nat → Int32} {J : Nat → Nat → Int64} {R : Nat → Nat → Nat} {c : Nat × Nat} {Q : Option (Option Value) → MH → Prop} {kd : Nat → Int32} {key : Nat → Int64} {pl : Nat → Nat} {m n N T : Nat} {ns : List Nd} {l : List Int32} {g : LeS}
theorem s_Mfinish (hB : NB N T S R) (h : MIt N T ns.length kd key pl m I J n ns l g) (hc : ∀ x ∈ l, cdP kd m x) (kF1 : ∀ t, (rsl (ns.map Prod.fst) key l).1 = some t → ∀ I', fr (aMf T) I I' → I' 65 8 = ii (pl t) → Q none (thM (S, I', J, R, c))) (kF2 : (rsl (ns.map Prod.fst) key l).1 = none → ∀ i x, ns[i]? = some x → wsh (wadj ns (rsl (ns.map Prod.fst) key l).2) ns.length i i = true → (∀ k, k < i → wsh (wadj ns (rsl (ns.map Prod.fst) key l).2) ns.length k k = false) → ∀ I', fr (aMf T) I I' → I' 65 8 = ii (pl x.2.2.1) → Q none (thM (S, I', J, R, c))) (kO : (rsl (ns.map Prod.fst) key l).1 = none → (∀ i, i < ns.length → wsh (wadj ns (rsl (ns.map Prod.fst) key l).2) ns.length i i = false) → ∀ I', fr (aMf T) I I' → MCr N T I' J ns (rsl (ns.map Prod.fst) key l).2 → Q (some none) (S, I', J, R, c)) : X xs L (d + 703) 142 0 [.ref 65, .null] [] (S, I, J, R, c) Q := by
  have h' := h
  obtain ⟨hL, hYN, hRN, hN1, hN2, hP, hT2⟩ := hB
  have hT1 := hP.2.2.2.1
  have hRT := hP.2.1
  have hYT := hP.2.2.1
  obtain ⟨h1, h2, h3, h4, h5, h6, h7, h8, h9, h10, h11⟩ := h
  have hm := h1.2.2.1
  have hnm := h1.2.1
  have hll : l.length ≤ 2000 := by omega
  have second : (rsl (ns.map Prod.fst) key l).1 = none → ∀ I', fr (aMf T) I I' → (∀ i x, ns[i]? = some x → I' (N + 4) i = ii (pl x.2.2.1)) → MCr N T I' J ns (rsl (ns.map Prod.fst) key l).2 → ∀ (f i : Nat) (I' : Nat → Nat → Int32), ns.length - i = f → i ≤ ns.length → fr (aMf T) I I' → (∀ i x, ns[i]? = some x → I' (N + 4) i = ii (pl x.2.2.1)) → MCr N T I' J ns (rsl (ns.map Prod.fst) key l).2 → (∀ k, k < i → wsh (wadj ns (rsl (ns.map Prod.fst) key l).2) ns.length k k = false) → X xs L (d + 703) 142 99 [.ref 65, .int (ii i)] [] (S, I', J, R, c) Q := by
    intro hno _ _ _ _ f
    induction f with
    | zero =>
      intro i I' g1 g2 g3 g3' g4 g5
      have e : i = ns.length := by omega
      refine b_X14_finish_99 hL hRN hYN (fun _ => b_X14_finish_176 (kO hno (fun k hk => g5 k (by omega)) I' g3 g4)) (fun z => ?_)
      rw [g4.1, e] at z; exact absurd (Int32.le_refl _) z
    | succ f ih =>
      intro i I' g1 g2 g3 g3' g4 g5
      have hi : i < ns.length := by omega
      have hb : inb (ii i) 40 = true := ii_inb (by omega) (by omega)
      have hki := g4.2.2.1 i _ (ge_lt hi)
      refine b_X14_finish_99 hL hRN hYN (fun z => ?_) (fun _ => ?_)
      · rw [g4.1, ii_le (by omega) (by omega)] at z; omega
      have hnext : ∀ I2, fr (aMf T) I I2 → (∀ i x, ns[i]? = some x → I2 (N + 4) i = ii (pl x.2.2.1)) → MCr N T I2 J ns (rsl (ns.map Prod.fst) key l).2 → wsh (wadj ns (rsl (ns.map Prod.fst) key l).2) ns.length i i = false → X xs L (d + 703) 142 170 [.ref 65, .int (ii i)] [] (S, I2, J, R, c) Q := by
        intro I2 q1 q1' q2 q3
        refine b_X14_finish_170 ?_
        rw [ii_add1]
        refine ih (i + 1) I2 (by omega) (by omega) q1 q1' q2 (fun k hk => ?_)
        by_cases e : k = i
        · rw [e]; exact q3
        · exact g5 k (by omega)
      refine b_X14_finish_110 hL hRN hYN hb (fun z => ?_) (fun z => ?_)
      · rw [ii_nat (by omega), hki.2.1] at z
        have hk1 : ndk ns i = 1 := by
          rw [ndk_at (ge_lt hi)]
          have z : ii (ns[i].2.1 + 10) = ii 11 := z
          have := hki.2.2
          rw [ii_inj (by omega) (by omega)] at z; omega
        refine b_X14_finish_127 hL hRN ?_
        refine s_Mreach (w := 1) hL hRT hYT hYN (by omega) (by omega) g4 hi (by omega) (fun I2 f2 hr => ?_)
        have F2 : fr (aMf T) I I2 := fr_trans g3 (fr_sub f2 (by intro x k e; unfold aMf; omega))
        have M2 : MCr N T I2 J ns (rsl (ns.map Prod.fst) key l).2 := MCr_of g4 (f2 _ _ (by omega)) rfl (fr_row f2 _ (by intro k; omega)) (fr_row f2 _ (by intro k; omega)) (fr_row f2 _ (by intro k; omega)) (fr_row f2 _ (by intro k; omega)) (fr_row f2 _ (by intro k; omega))
        have P2 : ∀ i x, ns[i]? = some x → I2 (N + 4) i = ii (pl x.2.2.1) := fun i x hx => by rw [f2 _ _ (by omega)]; exact g3' i x hx
        have hlp := wE_loop (l := (rsl (ns.map Prod.fst) key l).2) hk1
        refine b_X14_finish_137 hL hb (fun z2 => ?_) (fun z2 => ?_)
        · rw [ii_nat (by omega)] at z2
          have hyes : wsh (wadj ns (rsl (ns.map Prod.fst) key l).2) ns.length i i = true := by
            rcases hr i hi with q | q
            · exact absurd q.1 z2
            · exact hlp.1 q.2
          refine b_X14_finish_149 hL hRN hYN hb ?_
          rw [ii_nat (by omega), P2 i _ (ge_lt hi)]
          exact kF2 hno i _ (ge_lt hi) hyes g5 _ (fr_u _ F2 (by unfold aMf; omega)) (u2_e _ _ _ _)
        · rw [ii_nat (by omega)] at z2
          have hno2 : wsh (wadj ns (rsl (ns.map Prod.fst) key l).2) ns.length i i = false := by
            rcases hr i hi with q | q
            · cases e : wsh (wadj ns (rsl (ns.map Prod.fst) key l).2) ns.length i i with
              | false => rfl
              | true => exact absurd (hlp.2 e) q.2
            · rw [q.1] at z2; exact absurd (by decide) z2
          exact b_X14_finish_146 (hnext I2 F2 P2 M2 hno2)
      · rw [ii_nat (by omega), hki.2.1] at z
        refine b_X14_finish_124 (hnext I' g3 g3' g4 (nw_loop (fun e => z ?_)))
        rw [ndk_at (ge_lt hi)] at e
        rw [e]; rfl
  refine b_X14_finish_0 ?_
  have main : ∀ (rest pre rs : List Int32) (I' : Nat → Nat → Int32), pre.length = rs.length → l = pre ++ rest → fr (fun x _ => x = T + 2) I I' → (∀ i v, rs[i]? = some v → 0 ≤ v → I' (T + 2) i = v) → (∀ i x, l[i]? = some x → x < 0 → I' (T + 2) i = I (T + 2) i) → (rsl (ns.map Prod.fst) key l).1 = (rsl (ns.map Prod.fst) key rest).1 → ((rsl (ns.map Prod.fst) key rest).1 = none → (rsl (ns.map Prod.fst) key l).2 = rs ++ (rsl (ns.map Prod.fst) key rest).2) → X xs L (d + 703) 142 2 [.ref 65, .int (ii rs.length)] [] (S, I', J, R, c) Q := by
    intro rest
    induction rest with
    | nil =>
      intro pre rs I' g1 g2 g3 g4 g5 g6 g7
      have hcnt : I' T 5 = ii l.length := by rw [g3 _ _ (by omega)]; exact h6
      have hrs : rs.length = l.length := by rw [g2, List.append_nil]; omega
      refine b_X14_finish_2 hL hRT hYT (fun _ => b_X14_finish_97 ?_) (fun z => ?_)
      · have hno : (rsl (ns.map Prod.fst) key l).1 = none := g6
        have hl2 : (rsl (ns.map Prod.fst) key l).2 = rs := by rw [g7 rfl]; simp [rsl]
        have hat := rsl_at (vs := ns.map Prod.fst) (key := key) l hno
        rw [hl2] at hat
        rw [List.length_map] at hat
        have F : fr (aMf T) I I' := fr_sub g3 (by intro x k e; unfold aMf; omega)
        have P : ∀ i x, ns[i]? = some x → I' (N + 4) i = ii (pl x.2.2.1) := fun i x hx => by rw [g3 _ _ (by omega)]; exact (h4 i x hx).2.2.1
        have hM : MCr N T I' J ns (rsl (ns.map Prod.fst) key l).2 := by
          rw [hl2]
          obtain ⟨ht, t1, t2, t3⟩ := h5
          refine ⟨by rw [g3 _ _ (by omega)]; exact h2, h3, fun i x hx => by rw [g3 _ _ (by omega)]; exact ⟨(h4 i x hx).1, (h4 i x hx).2.1, (h4 i x hx).2.2.2⟩, ⟨ht, t1, by omega, fun i x y q1 q2 q3 => ?_⟩, fun i y hy => ?_, by omega, fun y hy => ?_⟩
          · have := t3 i x y q1 q2 q3
            rw [g3 _ _ (by omega)]
            refine ⟨this.1, fun z => ?_⟩
            obtain ⟨z1, z2, z3⟩ := this.2 z
            refine ⟨z1, z2, tre_rs (fun i x hx => ?_) _ _ _ z3⟩
            obtain ⟨y, y1, y2⟩ := hat i x hx
            refine ⟨y, y1, fun q => ?_, fun q => ?_, fun q => ?_⟩
            · rcases y2 with ⟨w1, w2⟩ | ⟨w1, v, w2, w3⟩
              · rw [w2]; exact q
              · rw [w3]; exact Or.inl (by rw [ii_zero, ii_le (by omega) (by omega)]; omega)
            · have hneg : x < 0 := by rw [q]; decide
              rcases y2 with ⟨w1, w2⟩ | ⟨w1, -⟩
              · exact ⟨w2, g5 i x hx hneg⟩
              · exact absurd hneg w1
            · have hneg : x < 0 := by rcases q with e | e | e <;> rw [e] <;> decide
              rcases y2 with ⟨w1, w2⟩ | ⟨w1, -⟩
              · exact ⟨w2, g5 i x hx hneg, g3 _ _ (by omega)⟩
              · exact absurd hneg w1
          · have hi : i < l.length := by have := (List.getElem?_eq_some_iff.1 hy).1; omega
            obtain ⟨y', y1, y2⟩ := hat i _ (ge_lt hi)
            rw [y1] at hy
            cases hy
            obtain ⟨b1, -⟩ := h11 i _ (ge_lt hi)
            rw [g3 _ _ (by omega), b1]
            refine ⟨?_, fun q => g4 i _ y1 q⟩
            rcases y2 with ⟨w1, w2⟩ | ⟨w1, v, w2, w3⟩
            · rw [w2]
            · rw [w3, opc_ii (by omega)]
              rcases hc _ (List.getElem_mem hi) with q | ⟨k, k1, k2, -⟩
              · exact absurd (cop_neg q) w1
              · rw [k2, opc_ii (by omega)]
          · rw [← hl2] at hy
            have := rsl_P (vs := ns.map Prod.fst) (key := key) l (cdP_neg hm hc) y hy
            rw [List.length_map] at this; exact this
        exact second hno I' F P hM ns.length 0 I' (by omega) (by omega) F P hM (fun k hk => by omega)
      · rw [hcnt, hrs] at z; exact absurd (Int32.le_refl _) z
    | cons x rest ih =>
      intro pre rs I' g1 g2 g3 g4 g5 g6 g7
      have hcnt : I' T 5 = ii l.length := by rw [g3 _ _ (by omega)]; exact h6
      have hlen : l.length = rs.length + (rest.length + 1) := by rw [g2, List.length_append, List.length_cons]; omega
      have hx : l[rs.length]? = some x := by rw [g2, List.getElem?_append, if_neg (by omega), g1]; simp
      have hmem : x ∈ l := List.mem_of_getElem? hx
      obtain ⟨b1, b2⟩ := h11 rs.length x hx
      have hb : inb (ii rs.length) 2000 = true := ii_inb (by omega) (by omega)
      have hop : I' (T + 1) rs.length = opc 1 x := by rw [g3 _ _ (by omega)]; exact b1
      refine b_X14_finish_2 hL hRT hYT (fun z => ?_) (fun _ => ?_)
      · rw [hcnt, ii_le (by omega) (by omega)] at z; omega
      refine b_X14_finish_13 hL hRT hYT hb (fun z => ?_) (fun z => ?_)
      · rw [ii_nat (by omega), hop] at z
        have hnn : ¬ x < 0 := by
          intro q
          rcases hc x hmem with e | ⟨k, k1, k2, -⟩
          · rcases e with e | e | e | e | e | e <;> rw [e] at z <;> exact absurd z (by decide)
          · rw [k2] at q; exact ii_nn (by omega) q
        obtain ⟨k, k1, k2, k3⟩ : ∃ k, k < m ∧ x = ii k ∧ kd k = 2 := by
          rcases hc x hmem with e | e
          · exact absurd (cop_neg e) hnn
          · exact e
        have h0x : 0 ≤ x := by rw [k2, ii_zero, ii_le (by omega) (by omega)]; omega
        obtain ⟨k', e1, e2, e3, e4, e5⟩ := (b2 h0x).1 rfl
        have hkk : k' = k := by rw [k2, ii_inj (by omega) (by omega)] at e1; exact e1.symm
        subst hkk
        have htn : x.toNatClampNeg = k' := by rw [k2, ii_nat (by omega)]
        rw [rsl, if_neg hnn, htn] at g6 g7
        refine b_X14_finish_30 hL hRT hYT hRN hb ?_
        rw [ii_nat (by omega), e4]
        refine s_X14_find (vs := ns.map Prod.fst) hYN (by rw [List.length_map, g3 _ _ (by omega)]; exact h2) (MIt_nl h') (by rw [List.length_map]; omega) (fun v q => ?_) (fun q => ?_)
        · have hv := ixl_lt _ _ _ q
          rw [List.length_map] at hv
          rw [q] at g6 g7
          refine b_fin54 hL hb hRT hYT (fun z2 => absurd z2 (ii_nn (by omega))) (fun _ => ?_)
          rw [ii_nat (by omega)]
          refine b_X14_finish_67 (b_X14_finish_91 ?_)
          rw [ii_add1]
          have := ih (pre ++ [x]) (rs ++ [ii v]) (u2 I' (T + 2) rs.length (ii v)) (by rw [List.length_append, List.length_append, g1]; rfl) (by rw [List.append_assoc]; exact g2) (fr_u _ g3 rfl) (fun i w hw h0 => ?_) (fun i w hw hn => ?_) g6 (fun q => by rw [g7 q, List.append_assoc]; rfl)
          · rw [List.length_append, List.length_singleton] at this
            exact this
          · rw [u2_if]
            rcases Nat.lt_or_ge i rs.length with hi | hi
            · rw [ge_app hi] at hw
              rw [if_neg (by omega)]; exact g4 i w hw h0
            · have hi2 : i = rs.length := by
                have := (List.getElem?_eq_some_iff.1 hw).1
                rw [List.length_append, List.length_singleton] at this; omega
              rw [hi2, ge_len] at hw
              cases hw
              rw [if_pos ⟨rfl, hi2⟩]
          · rw [u2_if, if_neg (fun q => by
              rw [q.2, hx] at hw
              cases hw
              exact hnn hn)]
            exact g5 i w hw hn
        · rw [q] at g6
          refine b_fin54 hL hb hRT hYT (fun _ => ?_) (fun z2 => absurd (by decide) z2)
          rw [ii_nat (by omega)]
          refine b_X14_finish_70 hL hRT hYT hb ?_
          rw [ii_nat (by omega), u2_a _ _ _ _ (by omega), g3 _ _ (by omega), e5]
          exact kF1 k' g6 _ (fr_u _ (fr_u _ (fr_sub g3 (by intro x k e; unfold aMf; omega)) (by unfold aMf; omega)) (by unfold aMf; omega)) (u2_e _ _ _ _)
      · rw [ii_nat (by omega), hop] at z
        have hneg : x < 0 := by
          rcases hc x hmem with e | ⟨k, k1, k2, -⟩
          · exact cop_neg e
          · rw [k2, opc_ii (by omega)] at z; exact absurd rfl z
        rw [rsl, if_pos hneg] at g6 g7
        refine b_X14_finish_27 (b_X14_finish_91 ?_)
        rw [ii_add1]
        have := ih (pre ++ [x]) (rs ++ [x]) I' (by rw [List.length_append, List.length_append, g1]) (by rw [List.append_assoc]; exact g2) g3 (fun i w hw h0 => ?_) g5 g6 (fun q => by rw [g7 q, List.append_assoc]; rfl)
        · rw [List.length_append, List.length_singleton] at this
          exact this
        · rcases Nat.lt_or_ge i rs.length with hi | hi
          · rw [ge_app hi] at hw; exact g4 i w hw h0
          · have hi2 : i = rs.length := by
              have := (List.getElem?_eq_some_iff.1 hw).1
              rw [List.length_append, List.length_singleton] at this; omega
            rw [hi2, ge_len] at hw
            cases hw
            exact absurd hneg (fun q => by rw [Int32.le_iff_toInt_le] at h0; rw [Int32.lt_iff_toInt_lt] at q; omega)
  exact main l [] [] I rfl rfl (fr_refl _ _) (fun i v hv => by simp at hv) (fun i x _ _ => rfl) rfl (fun _ => rfl)
end MFIN
