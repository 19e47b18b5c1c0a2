/-! ===== P2: the clauses of an assertion in the model ===== -/
section CLB
variable {xs : Nat → Int32} {L d : Nat} {S : Nat → Shp} {I : Nat → Nat → Int32} {J : Nat → Nat → Int64} {R : Nat → Nat → Nat} {c : Nat × Nat} {Q : Option (Option Value) → MH → Prop}
set_option maxRecDepth 4000 in
theorem b_cl174 {x1 x2 sx2 : Int32} {C : Nat} (hL : Lay S R) (hC : R 65 19 = C) (hY : LyCs S R C) (hb : inb x1 48 = true) (k : X xs L d 127 0 [.ref 65, .int 18] [] (S, (u2 (u2 I (C + 4) x1.toNatClampNeg sx2) (C + 5) x1.toNatClampNeg sx2), J, R, c) (Kc xs L (d + 1) 145 199 [.ref 65, .int x1, .int x2] [] Q)) : X xs L (d + 1) 145 174 [.ref 65, .int x1, .int x2] [.int sx2, .int x1, .ref (C + 4)] (S, I, J, R, c) Q := by
  refine X_iastore (show decode (mB 145) 174 = .ok (.iastore, 1) by decide +kernel) (pc' := 175) rfl hY.s4 hb ?_
  refine X_aload_n (q := 0) (show decode (mB 145) 175 = .ok (.aload_n 0, 1) by decide +kernel) (pc' := 176) rfl rfl rfl ?_
  refine X_getR (ci := 13) (f := 19) (q := C) (show decode (mB 145) 176 = .ok (.getfield 192, 3) by decide +kernel) (pc' := 179) rfl (ls_65 hL) (by decide +kernel) rfl hC ?_
  refine X_getR (ci := 10) (f := 4) (q := (C + 5)) (show decode (mB 145) 179 = .ok (.getfield 253, 3) by decide +kernel) (pc' := 182) rfl hY.s0 (by decide +kernel) rfl hY.r0_4 ?_
  refine X_iload_n (q := 1) (show decode (mB 145) 182 = .ok (.iload_n 1, 1) by decide +kernel) (pc' := 183) rfl rfl rfl ?_
  refine X_aload_n (q := 0) (show decode (mB 145) 183 = .ok (.aload_n 0, 1) by decide +kernel) (pc' := 184) rfl rfl rfl ?_
  refine X_getR (ci := 13) (f := 19) (q := C) (show decode (mB 145) 184 = .ok (.getfield 192, 3) by decide +kernel) (pc' := 187) rfl (ls_65 hL) (by decide +kernel) rfl hC ?_
  refine X_getR (ci := 10) (f := 3) (q := (C + 4)) (show decode (mB 145) 187 = .ok (.getfield 250, 3) by decide +kernel) (pc' := 190) rfl hY.s0 (by decide +kernel) rfl hY.r0_3 ?_
  refine X_iload_n (q := 1) (show decode (mB 145) 190 = .ok (.iload_n 1, 1) by decide +kernel) (pc' := 191) rfl rfl rfl ?_
  refine X_iaload (w := sx2) (show decode (mB 145) 191 = .ok (.iaload, 1) by decide +kernel) (pc' := 192) rfl hY.s4 hb (by simp [u2, u1]) ?_
  refine X_iastore (show decode (mB 145) 192 = .ok (.iastore, 1) by decide +kernel) (pc' := 193) rfl hY.s5 hb ?_
  refine X_aload_n (q := 0) (show decode (mB 145) 193 = .ok (.aload_n 0, 1) by decide +kernel) (pc' := 194) rfl rfl rfl ?_
  refine X_bipush (v := 18) (show decode (mB 145) 194 = .ok (.bipush 18, 2) by decide +kernel) (pc' := 196) rfl (by decide +kernel) ?_
  exact X_callV (y := 127) (n := 1) (st := [.int 18, .ref 65]) (as := [.ref 65, .int 18]) (rest := []) (ls0 := [.ref 65, .int 18]) (ci := 13) (show decode (mB 145) 196 = .ok (.invokevirtual 131, 3) by decide +kernel) (pc' := 199) rfl (by decide +kernel) (by decide +kernel) rfl (ls_65 hL) (by decide +kernel) rfl rfl rfl rfl (by decide +kernel) k
end CLB
theorem ij12 : ∀ i : Fin 12, (ii i.val).toInt64 = Int64.ofNat i.val ∧ (Int64.ofNat i.val).toInt32 = ii i.val := by decide +kernel
def mix (gv j : Nat) : Nat := if j < gv then j else j - gv + 24
def MCl (C T gv : Nat) (I : Nat → Nat → Int32) (cs : List Cl) (l : List Int32) : Prop := ∀ j x, cs[j]? = some x → I (C + 1) (mix gv j) = ii x.1 ∧ I (C + 2) (mix gv j) = ii (x.2.2.1 - 1) ∧ I (C + 3) (mix gv j) = (if x.2.2.1 = x.2.2.2.1 then -1 else ii (x.2.2.2.1 - 1)) ∧ I (C + 4) (mix gv j) = ii x.2.2.2.2.1 ∧ I (C + 5) (mix gv j) = ii x.2.2.2.2.2 ∧ x.2.1 < x.2.2.1 ∧ x.2.2.1 ≤ x.2.2.2.1 ∧ tre l (I (T + 2)) (I (T + 3)) 310 x.2.1 (x.2.2.1 - 1) ∧ (x.2.2.1 < x.2.2.2.1 → tre l (I (T + 2)) (I (T + 3)) 310 x.2.2.1 (x.2.2.2.1 - 1))
def QSt (C T gv : Nat) (kd : Nat → Int32) (key : Nat → Int64) (pl : Nat → Nat) (m : Nat) (I : Nat → Nat → Int32) (J : Nat → Nat → Int64) (n : Nat) (cs : List Cl) (l : List Int32) (g : LeS) : Prop := MSt 0 T C kd key pl m I J n 0 l g ∧ I C 9 = ii (lst cs) ∧ lst cs < 12 ∧ MCl C T gv I cs l
def aMq (C T : Nat) (x k : Nat) : Prop := (x = 65 ∧ (k = 7 ∨ k = 8 ∨ k = 21)) ∨ x = T + 1 ∨ x = T + 2 ∨ x = T + 3 ∨ x = T + 5 ∨ (x = T ∧ k = 5) ∨ (x = C ∧ (k = 8 ∨ k = 9)) ∨ x = C + 1 ∨ x = C + 2 ∨ x = C + 3 ∨ x = C + 4 ∨ x = C + 5
def aMqj (C T : Nat) (x _k : Nat) : Prop := x = T + 4 ∨ x = C + 6
def QB (C T N : Nat) (S : Nat → Shp) (R : Nat → Nat → Nat) : Prop := PB 0 T C S R ∧ R 65 11 = N ∧ LyNo S R N ∧ 82 < N ∧ N < 89 ∧ 99 < T ∧ 92 < C
section MCLS
variable {xs : Nat → Int32} {L d : Nat} {S : Nat → Shp} {I I' : Nat → Nat → Int32} {J J' : Nat → Nat → Int64} {R : Nat → Nat → Nat} {c : Nat × Nat} {Q : Option (Option Value) → MH → Prop} {kd : Nat → Int32} {key : Nat → Int64} {pl : Nat → Nat} {m n C T N gv : Nat} {vs : List Int64} {cs : List Cl} {l : List Int32} {g : LeS}
theorem s_Mnumber {least : Nat} (hL : Lay S R) (h : MC kd key pl m I J n) (hl : least < 12) (kT : tim kd key least n = none → Q none (thM (S, u2 I 65 8 (ii (pl n)), J, R, c))) (k : ∀ v, tim kd key least n = some v → n < m → least ≤ v → v < 12 → Q (some (some (.int (ii v)))) (S, u2 I 65 7 (ii (n + 1)), J, R, c)) : X xs L (d + 9) 144 0 [.ref 65, .int (ii least)] [] (S, I, J, R, c) Q := by
  have hm := h.2.2.1
  have hnm := h.2.1
  have hbad : tim kd key least n = none → X xs L (d + 9) 144 44 [.ref 65, .int (ii least)] [.ref 65] (S, I, J, R, c) Q := fun q =>
    b_X14_number_44 (b_X14_number_45 hL (s_check hL h (fun _ => kT q) (fun z => absurd rfl z)))
  have hte := TE_3 (MC_te h)
  refine b_X14_number_0 hL (s_here hL h ?_)
  refine b_X14_number_6 (fun z => hbad ?_) (fun z => ?_)
  · unfold tim; rw [if_neg (fun q => by rw [if_pos (hte.2 q.1)] at z; exact absurd z (by decide))]
  have hk : kd n = 5 := by
    apply hte.1
    by_cases e : I 67 n = 3
    · exact e
    · rw [if_neg e] at z; exact absurd rfl z
  obtain ⟨v, w1, w2, w3, -⟩ := TE_nx (MC_te h) hk
  have hn : n < m := MC_lt h (by rw [hk]; decide)
  have hle : (ii least).toInt64 = Int64.ofNat least := (ij12 ⟨least, hl⟩).1
  refine b_X14_number_9 hL (MC_in h) (fun z1 => hbad ?_) (fun z1 => ?_)
  · rw [MC_nat h, lgn, w3, hle, Int64.lt_iff_toInt_lt, jn w1, jn (by omega)] at z1
    unfold tim; rw [if_neg (fun q => q.2.1 (by rw [w2, ii_lt (by omega) (by omega)]; omega))]
  rw [MC_nat h, lgn, w3, hle, Int64.lt_iff_toInt_lt, jn w1, jn (by omega)] at z1
  have h12 : (12 : Int64).toInt = 12 := rfl
  refine b_X14_number_24 hL (MC_in h) (fun z2 => hbad ?_) (fun z2 => ?_)
  · have z2' : ¬ lg_cmp (J 68 n) 12 < 0 := by
      rw [MC_nat h] at z2
      intro q
      rw [Int32.lt_iff_toInt_lt] at q
      rw [Int32.le_iff_toInt_le] at z2
      omega
    rw [lgn, w3, Int64.lt_iff_toInt_lt, jn w1, h12] at z2'
    unfold tim; rw [if_neg (fun q => by
      have := q.2.2
      rw [w2] at this
      have := (ii_lt (m := 12) (by omega) (by omega)).1 this; omega)]
  · have z2' : lg_cmp (J 68 n) 12 < 0 := by
      rw [MC_nat h] at z2
      rw [Int32.lt_iff_toInt_lt]
      rw [Int32.le_iff_toInt_le] at z2
      omega
    rw [lgn, w3, Int64.lt_iff_toInt_lt, jn w1, h12] at z2'
    have hv : v < 12 := by omega
    have hv2 : (Int64.ofNat v).toInt32 = ii v := (ij12 ⟨v, hv⟩).2
    refine b_X14_number_40 (b_X14_number_45 hL (s_check hL h (fun q => absurd q (by decide)) (fun _ => ?_)))
    have e1 : I 65 7 + 1 - 1 = ii n := by rw [h.1, ii_add1, ii_one, ii_sub (by omega), Nat.add_sub_cancel]
    refine b_X14_number_48 hL (by rw [e1]; exact ii_inb (by omega) (by omega)) ?_
    rw [e1, ii_nat (by omega), w3, hv2, h.1, ii_add1]
    refine k v ?_ hn (by omega) hv
    unfold tim
    rw [if_pos ⟨hk, by rw [w2, ii_lt (by omega) (by omega)]; omega, by rw [w2]; exact (ii_lt (m := 12) (by omega) (by omega)).2 hv⟩, w2, ii_nat (by omega)]
theorem MCl_of (h : MCl C T gv I cs l) (hcs : cs.length ≤ gv + 24) (hgv : gv ≤ 24) {k0 : Nat} (e : ∀ x k, (x = C + 1 ∨ x = C + 2 ∨ x = C + 3 ∨ x = C + 4 ∨ x = C + 5) → ¬ k = k0 → I' x k = I x k) (hk0 : ∀ j, j < cs.length → ¬ mix gv j = k0) {l' : List Int32} (hl : ∀ i, i < l.length → l'[i]? = l[i]? ∧ I' (T + 2) i = I (T + 2) i ∧ I' (T + 3) i = I (T + 3) i) : MCl C T gv I' cs l' := by
  intro j x hx
  have hj := (List.getElem?_eq_some_iff.1 hx).1
  have hk := hk0 j hj
  obtain ⟨h1, h2, h3, h4, h5, h6, h7, h8, h9⟩ := h j x hx
  rw [e _ _ (by omega) hk, e _ _ (by omega) hk, e _ _ (by omega) hk, e _ _ (by omega) hk, e _ _ (by omega) hk]
  refine ⟨h1, h2, h3, h4, h5, h6, h7, ?_, fun q => ?_⟩
  · have := (tre_lt _ _ _ h8).2
    exact tre_ext _ _ _ (fun i hi => (hl i (by omega)).1) (fun i hi => (hl i (by omega)).2) h8
  · have h9 := h9 q
    have := (tre_lt _ _ _ h9).2
    exact tre_ext _ _ _ (fun i hi => (hl i (by omega)).1) (fun i hi => (hl i (by omega)).2) h9
theorem MSt_of {I' : Nat → Nat → Int32} (h : MSt 0 T C kd key pl m I J n 0 l g) (e : ∀ x k, ¬ (C + 1 ≤ x ∧ x ≤ C + 5) → ¬ (x = C ∧ k = 9) → I' x k = I x k) (hC : 92 < C) (hTC : T + 5 < C ∨ C + 6 < T) (hT : 99 < T) : MSt 0 T C kd key pl m I' J n 0 l g := by
  obtain ⟨h1, h2, h3, h4, h5, h6, h7, h8⟩ := h
  refine ⟨MC_of h1 (by rw [e _ _ (by omega) (by omega)]; exact h1.1) h1.2.1 (by funext j; exact e _ _ (by omega) (by omega)) (by funext j; exact e _ _ (by omega) (by omega)) (by funext j; exact e _ _ (by omega) (by omega)) rfl, by rw [e _ _ (by omega) (by omega)]; exact h2, h3, by rw [e _ _ (by omega) (by omega)]; exact h4, h5, by rw [e _ _ (by omega) (by omega)]; exact h6, TL_of h7 (by funext j; exact e _ _ (by omega) (by omega)) (by funext j; exact e _ _ (by omega) (by omega)) (by funext j; exact e _ _ (by omega) (by omega)) rfl, fun q => ⟨by rw [e _ _ (by omega) (by omega)]; exact (h8 q).1, (h8 q).2⟩⟩
theorem s_Mclause {r : KR} (hB : QB C T N S R) (hgv : gv ≤ 24) (hcs : cs.length < gv + 24) (h : QSt C T gv kd key pl m I J n cs l g) (hN4 : I N 4 = ii vs.length) (hNL : NL J (N + 1) vs) (hvs : vs.length ≤ 40) (hr : cla kd key m vs n cs l g = r) (kT : r.1 = false → ∀ I' J', fr (aMq C T) I I' → fr (aMqj C T) J J' → I' 65 8 = ii (pl r.2.1) → Q none (thM (S, I', J', R, c))) (k : r.1 = true → ∀ I' J', fr (aMq C T) I I' → fr (aMqj C T) J J' → n < r.2.1 → r.2.2.1.length = cs.length + 1 → QSt C T gv kd key pl m I' J' r.2.1 r.2.2.1 r.2.2.2.1 r.2.2.2.2 → Q (some none) (S, I', J', R, c)) : X xs L (d + 67) 145 0 [.ref 65, .int (ii (mix gv cs.length)), .null] [] (S, I, J, R, c) Q := by
  obtain ⟨hP, hR11, hYN, hN1, hN2, hT9, hC9⟩ := hB
  have hL := hP.1
  have hTC := hP.2.2.2.2.2.1
  obtain ⟨hR19, hYC⟩ := hP.2.2.2.2.2.2.2 rfl
  obtain ⟨hM, h9, hlst, hcl⟩ := h
  have h1 := hM.1
  have hm := h1.2.2.1
  have hkk : mix gv cs.length < 48 := by unfold mix; split <;> omega
  have hkn : ∀ j, j < cs.length → ¬ mix gv j = mix gv cs.length := by
    intro j hj; unfold mix; split <;> split <;> omega
  generalize hk0 : mix gv cs.length = k0 at hkk hkn ⊢
  have hb : inb (ii k0) 48 = true := ii_inb hkk (by omega)
  have fF : ∀ {I0 : Nat → Nat → Int32} {v : Int32}, fr (aMq C T) I I0 → fr (aMq C T) I (u2 I0 65 8 v) := fun q => fr_u _ q (by unfold aMq; omega)
  unfold cla at hr
  have hte := TE_1 (MC_te h1)
  refine b_X14_clause_0 hL (s_here hL h1 ?_)
  refine b_X14_clause_6 hL (s_check hL h1 (fun z => ?_) (fun z => ?_))
  · have hk : ¬ kd n = 2 := fun e => by rw [if_pos (hte.2 e)] at z; exact absurd z (by decide)
    rw [if_neg hk] at hr
    subst hr
    exact kT rfl _ _ (fF (fr_refl _ _)) (fr_refl _ _) (u2_e _ _ _ _)
  have hk : kd n = 2 := by
    apply hte.1
    by_cases e : I 67 n = 1
    · exact e
    · rw [if_neg e] at z; exact absurd rfl z
  rw [if_pos hk] at hr
  have hn : n < m := MC_lt h1 (by rw [hk]; decide)
  have hw : J 68 n = key n := TE_nm (MC_te h1) (Or.inl hk)
  refine b_X14_clause_9 hL hR11 (MC_in h1) ?_
  rw [MC_nat h1, hw]
  refine s_X14_find hYN hN4 hNL hvs (fun v w => ?_) (fun w => ?_)
  rotate_left
  · rw [w] at hr
    simp only at hr
    subst hr
    exact b_X14_clause_25 (fun _ => b_X14_clause_35 (b_X14_clause_36 hL (s_check hL h1 (fun _ => kT rfl _ _ (fF (fr_refl _ _)) (fr_refl _ _) (u2_e _ _ _ _)) (fun q => absurd rfl q)))) (fun z => absurd (by decide) z)
  have hv := ixl_lt _ _ _ w
  rw [w] at hr
  simp only at hr
  refine b_X14_clause_25 (fun z => absurd z (ii_nn (by omega))) (fun _ => b_X14_clause_31 (b_X14_clause_36 hL (s_check hL h1 (fun q => absurd q (by decide)) (fun _ => ?_))))
  refine b_X14_clause_39 hL hR19 hYC hb (by omega) ?_
  rw [ii_nat (by omega), h1.1, ii_add1]
  have eA : ∀ x k, ¬ x = C + 1 → u2 I (C + 1) k0 (ii v) x k = I x k := fun x k z => by rw [u2_a _ _ _ _ z]
  have M1 : MSt 0 T C kd key pl m (u2 I (C + 1) k0 (ii v)) J n 0 l g := MSt_of hM (fun x k z1 z2 => eA _ _ (by omega)) hC9 hTC hT9
  have M2 := MSt_adv (pd' := 0) hP M1 hn (by omega)
  have F2 : fr (aMq C T) I (u2 (u2 I (C + 1) k0 (ii v)) 65 7 (ii (n + 1))) := fr_u _ (fr_u _ (fr_refl _ _) (by unfold aMq; omega)) (by unfold aMq; omega)
  have V2 : u2 (u2 I (C + 1) k0 (ii v)) 65 7 (ii (n + 1)) (C + 1) k0 = ii v := by rw [u2_a _ _ _ _ (by omega), u2_e]
  have N2 : u2 (u2 I (C + 1) k0 (ii v)) 65 7 (ii (n + 1)) C 9 = ii (lst cs) := by rw [u2_a _ _ _ _ (by omega), u2_a _ _ _ _ (by omega)]; exact h9
  have C2 : MCl C T gv (u2 (u2 I (C + 1) k0 (ii v)) 65 7 (ii (n + 1))) cs l := MCl_of hcl (by omega) hgv (k0 := k0) (fun x k z1 z2 => by rw [u2_a _ _ _ _ (by omega), u2_if, if_neg (by omega)]) hkn (fun i _ => ⟨rfl, by rw [u2_a _ _ _ _ (by omega), u2_a _ _ _ _ (by omega)], by rw [u2_a _ _ _ _ (by omega), u2_a _ _ _ _ (by omega)]⟩)
  generalize u2 (u2 I (C + 1) k0 (ii v)) 65 7 (ii (n + 1)) = I2 at M2 F2 V2 N2 C2 ⊢
  clear M1 eA
  have hte2 := TE_w (j := 5) (MC_te M2.1) (by omega)
  rw [show (jTab 2).getD 5 0 = 26995 from rfl, show ii (10 + 5) = 15 from rfl] at hte2
  refine s_take hL M2.1 (fun z1 => ?_) (fun z1 => ?_)
  · rw [if_neg (fun e => z1 (hte2.2 e))] at hr
    subst hr
    exact kT rfl _ _ (fF F2) (fr_refl _ _) (u2_e _ _ _ _)
  have hk2 := hte2.1 z1
  rw [if_pos hk2] at hr
  have hn2 : n + 1 < m := MC_lt M2.1 (by rw [hk2.1]; decide)
  have M3 := MSt_adv (pd' := 0) hP M2 hn2 (by omega)
  have F3 : fr (aMq C T) I (u2 I2 65 7 (ii (n + 1 + 1))) := fr_u _ F2 (by unfold aMq; omega)
  have V3 : u2 I2 65 7 (ii (n + 1 + 1)) (C + 1) k0 = ii v := by rw [u2_a _ _ _ _ (by omega)]; exact V2
  have N3 : u2 I2 65 7 (ii (n + 1 + 1)) C 9 = ii (lst cs) := by rw [u2_a _ _ _ _ (by omega)]; exact N2
  have C3 : MCl C T gv (u2 I2 65 7 (ii (n + 1 + 1))) cs l := MCl_of C2 (by omega) hgv (k0 := k0) (fun x k z1 z2 => by rw [u2_a _ _ _ _ (by omega)]) hkn (fun i _ => ⟨rfl, by rw [u2_a _ _ _ _ (by omega)], by rw [u2_a _ _ _ _ (by omega)]⟩)
  generalize u2 I2 65 7 (ii (n + 1 + 1)) = I3 at M3 F3 V3 N3 C3 ⊢
  -- the end: times
  have h234 : ∀ (n6 v1 v2 s2 : Nat) (I6 : Nat → Nat → Int32) (J6 : Nat → Nat → Int64) (l6 : List Int32) (g6 : LeS), MSt 0 T C kd key pl m I6 J6 n6 0 l6 g6 → fr (aMq C T) I I6 → fr (aMqj C T) J J6 → I6 C 9 = ii (lst cs) → MCl C T gv I6 cs l6 → I6 (C + 1) k0 = ii v → I6 (C + 2) k0 = ii (s2 - 1) → I6 (C + 3) k0 = (if s2 = l6.length then -1 else ii (l6.length - 1)) → I6 (C + 4) k0 = ii v1 → I6 (C + 5) k0 = ii v2 → v1 ≤ v2 → v2 < 12 → l.length < s2 → s2 ≤ l6.length → tre l6 (I6 (T + 2)) (I6 (T + 3)) 310 l.length (s2 - 1) → (s2 < l6.length → tre l6 (I6 (T + 2)) (I6 (T + 3)) 310 s2 (l6.length - 1)) → n < n6 → (true, n6, cs ++ [(v, l.length, s2, l6.length, v1, v2)], l6, g6) = r → X xs L (d + 67) 145 234 [.ref 65, .int (ii k0), .int (ii v)] [] (S, I6, J6, R, c) Q := by
    intro n6 v1 v2 s2 I6 J6 l6 g6 a1 a2 a3 a4 a5 a6 a7 a8 a9 a10 a11 a12 a13 a14 a15 a16 a17 a18
    subst a18
    have hfin : ∀ (I7 : Nat → Nat → Int32), (∀ x k, ¬ (x = C ∧ k = 9) → I7 x k = I6 x k) → fr (aMq C T) I I7 → I7 C 9 = ii (max (lst cs) v2) → X xs L (d + 67) 145 269 [.ref 65, .int (ii k0), .int (ii v)] [] (S, I7, J6, R, c) Q := by
      intro I7 e7 f7 n7
      have t2 : I7 (T + 2) = I6 (T + 2) := by funext j; exact e7 _ _ (by omega)
      have t3 : I7 (T + 3) = I6 (T + 3) := by funext j; exact e7 _ _ (by omega)
      refine b_X14_clause_269 (k rfl I7 J6 f7 a3 a17 (by show (cs ++ [_]).length = _; rw [List.length_append]; rfl) ⟨MSt_of a1 (fun x k z1 z2 => e7 x k z2) hC9 hTC hT9, by rw [n7, lst_snoc], by rw [lst_snoc]; exact Nat.max_lt.2 ⟨hlst, a12⟩, fun j x hx => ?_⟩)
      rcases Nat.lt_or_ge j cs.length with hj | hj
      · rw [ge_app hj] at hx
        rw [t2, t3, e7 _ _ (by omega), e7 _ _ (by omega), e7 _ _ (by omega), e7 _ _ (by omega), e7 _ _ (by omega)]
        exact a5 j x hx
      · have hj2 : j = cs.length := by
          have := (List.getElem?_eq_some_iff.1 hx).1
          rw [List.length_append, List.length_singleton] at this; omega
        rw [hj2, ge_len] at hx
        cases hx
        rw [hj2, hk0, t2, t3, e7 _ _ (by omega), e7 _ _ (by omega), e7 _ _ (by omega), e7 _ _ (by omega), e7 _ _ (by omega)]
        exact ⟨a6, a7, a8, a9, a10, a13, a14, a15, a16⟩
    refine b_X14_clause_234 hL hR19 hYC hb (fun z => ?_) (fun z => ?_)
    · rw [ii_nat (by omega), a10, a4, ii_le (by omega) (by omega)] at z
      exact hfin I6 (fun _ _ _ => rfl) a2 (by rw [a4, Nat.max_eq_left z])
    · rw [ii_nat (by omega), a10, a4, ii_le (by omega) (by omega)] at z
      refine b_X14_clause_253 hL hR19 hYC hb ?_
      rw [ii_nat (by omega), a10]
      exact hfin _ (fun x k q => by rw [u2_if, if_neg q]) (fr_u _ a2 (by unfold aMq; omega)) (by rw [u2_e, Nat.max_eq_right (by omega)])
  have h142 : ∀ (n6 s2 : Nat) (I6 : Nat → Nat → Int32) (J6 : Nat → Nat → Int64) (l6 : List Int32) (g6 : LeS), MSt 0 T C kd key pl m I6 J6 n6 0 l6 g6 → fr (aMq C T) I I6 → fr (aMqj C T) J J6 → I6 C 9 = ii (lst cs) → MCl C T gv I6 cs l6 → I6 (C + 1) k0 = ii v → I6 (C + 2) k0 = ii (s2 - 1) → I6 (C + 3) k0 = (if s2 = l6.length then -1 else ii (l6.length - 1)) → I6 (C + 4) k0 = ii 0 → I6 (C + 5) k0 = ii 0 → l.length < s2 → s2 ≤ l6.length → tre l6 (I6 (T + 2)) (I6 (T + 3)) 310 l.length (s2 - 1) → (s2 < l6.length → tre l6 (I6 (T + 2)) (I6 (T + 3)) 310 s2 (l6.length - 1)) → n < n6 → clz kd key n6 v l.length s2 l6.length cs l6 g6 = r → X xs L (d + 67) 145 142 [.ref 65, .int (ii k0), .int (ii v)] [] (S, I6, J6, R, c) Q := by
    intro n6 s2 I6 J6 l6 g6 a1 a2 a3 a4 a5 a6 a7 a8 a9 a10 a13 a14 a15 a16 a17 a18
    unfold clz at a18
    generalize ht : tms kd key n6 = t at a18
    unfold tms at ht
    have hte7 := TE_w (j := 7) (MC_te a1.1) (by omega)
    rw [show (jTab 2).getD 7 0 = 24948 from rfl, show ii (10 + 7) = 17 from rfl] at hte7
    refine b_X14_clause_142 hL (s_here hL a1.1 ?_)
    refine b_X14_clause_148 (fun z => ?_) (fun z => ?_)
    · have hno : ¬ (kd n6 = 3 ∧ key n6 = 24948) := fun e => by rw [if_pos (hte7.2 e)] at z; exact absurd z (by decide)
      rw [if_neg hno] at ht
      subst ht
      exact h234 n6 0 0 s2 I6 J6 l6 g6 a1 a2 a3 a4 a5 a6 a7 a8 a9 a10 (Nat.le_refl _) (by omega) a13 a14 a15 a16 a17 a18
    have hyes : kd n6 = 3 ∧ key n6 = 24948 := by
      apply hte7.1
      by_cases e : I6 67 n6 = 17
      · exact e
      · rw [if_neg e] at z; exact absurd rfl z
    rw [if_pos hyes] at ht
    have hn6 : n6 < m := MC_lt a1.1 (by rw [hyes.1]; decide)
    refine b_X14_clause_151 hL hR19 hYC ?_
    rw [a1.1.1, ii_add1]
    have M7 := MSt_adv (pd' := 0) hP a1 hn6 (by omega)
    have fa : ∀ (v : Int32) (I9 : Nat → Nat → Int32), fr (aMq C T) I I9 → fr (aMq C T) I (u2 I9 65 7 v) := fun v I9 q => fr_u _ q (by unfold aMq; omega)
    refine s_Mnumber (least := 0) hL M7.1 (by omega) (fun q => ?_) (fun w1 q1 q2 q3 q4 => ?_)
    · rw [q] at ht
      simp only at ht
      subst ht
      subst a18
      exact kT rfl _ _ (fF (fa _ _ a2)) a3 (u2_e _ _ _ _)
    rw [q1] at ht
    simp only at ht
    have M8 := MSt_adv (pd' := 0) hP M7 q2 (by omega)
    have F8 := fa (ii (n6 + 1 + 1)) _ (fa (ii (n6 + 1)) _ a2)
    have E8 : ∀ x k, ¬ x = 65 → u2 (u2 I6 65 7 (ii (n6 + 1))) 65 7 (ii (n6 + 1 + 1)) x k = I6 x k := fun x k q => by rw [u2_a _ _ _ _ q, u2_a _ _ _ _ q]
    generalize u2 (u2 I6 65 7 (ii (n6 + 1))) 65 7 (ii (n6 + 1 + 1)) = I8 at M8 F8 E8 ⊢
    refine b_cl174 hL hR19 hYC hb ?_
    rw [ii_nat (by omega)]
    have EA : ∀ x k, ¬ (x = C + 4 ∧ k = k0) → ¬ (x = C + 5 ∧ k = k0) → u2 (u2 I8 (C + 4) k0 (ii w1)) (C + 5) k0 (ii w1) x k = I8 x k := fun x k z1 z2 => by rw [u2_if, if_neg z2, u2_if, if_neg z1]
    have M9 : MSt 0 T C kd key pl m (u2 (u2 I8 (C + 4) k0 (ii w1)) (C + 5) k0 (ii w1)) J6 (n6 + 1 + 1) 0 l6 g6 := MSt_of M8 (fun x k z1 z2 => EA _ _ (by omega) (by omega)) hC9 hTC hT9
    have F9 : fr (aMq C T) I (u2 (u2 I8 (C + 4) k0 (ii w1)) (C + 5) k0 (ii w1)) := fr_u _ (fr_u _ F8 (by unfold aMq; omega)) (by unfold aMq; omega)
    have W4 : u2 (u2 I8 (C + 4) k0 (ii w1)) (C + 5) k0 (ii w1) (C + 4) k0 = ii w1 := by rw [u2_a _ _ _ _ (by omega), u2_e]
    have W5 : u2 (u2 I8 (C + 4) k0 (ii w1)) (C + 5) k0 (ii w1) (C + 5) k0 = ii w1 := u2_e _ _ _ _
    have E9 : ∀ x k, ¬ x = 65 → ¬ (x = C + 4 ∧ k = k0) → ¬ (x = C + 5 ∧ k = k0) → u2 (u2 I8 (C + 4) k0 (ii w1)) (C + 5) k0 (ii w1) x k = I6 x k := fun x k z1 z2 z3 => by rw [EA x k z2 z3, E8 x k z1]
    generalize u2 (u2 I8 (C + 4) k0 (ii w1)) (C + 5) k0 (ii w1) = I9 at M9 F9 W4 W5 E9 ⊢
    clear EA
    have hte8 := TE_w (j := 8) (MC_te M9.1) (by omega)
    rw [show (jTab 2).getD 8 0 = 29807 from rfl, show ii (10 + 8) = 18 from rfl] at hte8
    have hcl9 : ∀ I9 : Nat → Nat → Int32, (∀ x k, ¬ x = 65 → ¬ (x = C + 4 ∧ k = k0) → ¬ (x = C + 5 ∧ k = k0) → I9 x k = I6 x k) → MCl C T gv I9 cs l6 := fun I9 e => MCl_of a5 (by omega) hgv (k0 := k0) (fun x k z1 z2 => e _ _ (by omega) (by omega) (by omega)) hkn (fun i _ => ⟨rfl, e _ _ (by omega) (by omega) (by omega), e _ _ (by omega) (by omega) (by omega)⟩)
    have hT2 : ∀ I9 : Nat → Nat → Int32, (∀ x k, ¬ x = 65 → ¬ (x = C + 4 ∧ k = k0) → ¬ (x = C + 5 ∧ k = k0) → I9 x k = I6 x k) → I9 (T + 2) = I6 (T + 2) ∧ I9 (T + 3) = I6 (T + 3) := fun I9 e => ⟨by funext j; exact e _ _ (by omega) (by omega) (by omega), by funext j; exact e _ _ (by omega) (by omega) (by omega)⟩
    refine s_here hL M9.1 ?_
    refine b_X14_clause_199 (fun z2 => ?_) (fun z2 => ?_)
    · have hno : ¬ (kd (n6 + 2) = 3 ∧ key (n6 + 2) = 29807) := fun e => by rw [if_pos (hte8.2 e)] at z2; exact absurd z2 (by decide)
      rw [if_neg hno] at ht
      subst ht
      refine h234 (n6 + 2) w1 w1 s2 I9 J6 l6 g6 M9 F9 a3 (by rw [E9 _ _ (by omega) (by omega) (by omega)]; exact a4) (hcl9 I9 E9) (by rw [E9 _ _ (by omega) (by omega) (by omega)]; exact a6) (by rw [E9 _ _ (by omega) (by omega) (by omega)]; exact a7) (by rw [E9 _ _ (by omega) (by omega) (by omega)]; exact a8) W4 W5 (Nat.le_refl _) q4 a13 a14 (by rw [(hT2 I9 E9).1, (hT2 I9 E9).2]; exact a15) (by rw [(hT2 I9 E9).1, (hT2 I9 E9).2]; exact a16) (by omega) a18
    have hyes2 : kd (n6 + 2) = 3 ∧ key (n6 + 2) = 29807 := by
      apply hte8.1
      by_cases e : I9 67 (n6 + 1 + 1) = 18
      · exact e
      · rw [if_neg e] at z2; exact absurd rfl z2
    rw [if_pos hyes2] at ht
    have hn8 : n6 + 1 + 1 < m := MC_lt M9.1 (by rw [show n6 + 1 + 1 = n6 + 2 from rfl, hyes2.1]; decide)
    refine b_X14_clause_202 hL hR19 hYC hb (by omega) ?_
    rw [ii_nat (by omega), W4, M9.1.1, ii_add1]
    have Ma := MSt_adv (pd' := 0) hP M9 hn8 (by omega)
    refine s_Mnumber hL Ma.1 q4 (fun q => ?_) (fun w2 p1 p2 p3 p4 => ?_)
    · rw [q] at ht
      simp only at ht
      subst ht
      subst a18
      exact kT rfl _ _ (fF (fa _ _ F9)) a3 (u2_e _ _ _ _)
    rw [p1] at ht
    simp only at ht
    subst ht
    have Mb := MSt_adv (pd' := 0) hP Ma p2 (by omega)
    have Fb := fa (ii (n6 + 1 + 1 + 1 + 1)) _ (fa (ii (n6 + 1 + 1 + 1)) _ F9)
    have Eb : ∀ x k, ¬ x = 65 → u2 (u2 I9 65 7 (ii (n6 + 1 + 1 + 1))) 65 7 (ii (n6 + 1 + 1 + 1 + 1)) x k = I9 x k := fun x k q => by rw [u2_a _ _ _ _ q, u2_a _ _ _ _ q]
    generalize u2 (u2 I9 65 7 (ii (n6 + 1 + 1 + 1))) 65 7 (ii (n6 + 1 + 1 + 1 + 1)) = Ib at Mb Fb Eb ⊢
    refine b_X14_clause_233 (n_sr0 := 48) hYC.1.2.2.2.2.2.1 hb ?_
    rw [ii_nat (by omega)]
    have Ec : ∀ x k, ¬ x = 65 → ¬ (x = C + 4 ∧ k = k0) → ¬ (x = C + 5 ∧ k = k0) → u2 Ib (C + 5) k0 (ii w2) x k = I6 x k := fun x k z1 z2 z3 => by rw [u2_if, if_neg z3, Eb x k z1, E9 x k z1 z2 z3]
    have Mc : MSt 0 T C kd key pl m (u2 Ib (C + 5) k0 (ii w2)) J6 (n6 + 1 + 1 + 1 + 1) 0 l6 g6 := MSt_of Mb (fun x k z1 z2 => by rw [u2_if, if_neg (by omega)]) hC9 hTC hT9
    exact h234 (n6 + 4) w1 w2 s2 _ J6 l6 g6 Mc (fr_u _ Fb (by unfold aMq; omega)) a3 (by rw [Ec _ _ (by omega) (by omega) (by omega)]; exact a4) (hcl9 _ Ec) (by rw [Ec _ _ (by omega) (by omega) (by omega)]; exact a6) (by rw [Ec _ _ (by omega) (by omega) (by omega)]; exact a7) (by rw [Ec _ _ (by omega) (by omega) (by omega)]; exact a8) (by rw [u2_a _ _ _ _ (by omega), Eb _ _ (by omega)]; exact W4) (u2_e _ _ _ _) p3 p4 a13 a14 (by rw [(hT2 _ Ec).1, (hT2 _ Ec).2]; exact a15) (by rw [(hT2 _ Ec).1, (hT2 _ Ec).2]; exact a16) (by omega) a18
  -- the formulas
  have hps : ∀ (n' : Nat) (l' : List Int32) (g' : LeS) (I' : Nat → Nat → Int32) (J' : Nat → Nat → Int64) (Q' : Option (Option Value) → MH → Prop), MSt 0 T C kd key pl m I' J' n' 0 l' g' → (∀ I2 J2 p, PTh 0 T C kd key pl m I' J' n' 0 l' g' 1 I2 J2 p → Q' none (thM (S, I2, J2, R, c))) → (∀ I2 J2 n2 l2 g2, PRt 0 T C kd key pl m I' J' n' 0 0 l' g' 1 I2 J2 n2 l2 g2 → Q' (some (some (.int (ii (l2.length - 1))))) (S, I2, J2, R, c)) → X xs L (d + 66) 131 0 [.ref 65, .int (ii 0), .null] [] (S, I', J', R, c) Q' := fun n' l' g' I' J' Q' q1 q2 q3 => (ps_all (xs := xs) (L := L) (c := c) (kd := kd) (key := key) (pl := pl) (m := m) hP (m + 1)).2 d 0 n' 0 l' g' I' J' Q' (by omega) (by omega) trivial q1 q2 q3
  have gle : ∀ {n' : Nat} {l' : List Int32} {g' : LeS} {I' : Nat → Nat → Int32} {J' : Nat → Nat → Int64}, MSt 0 T C kd key pl m I' J' n' 0 l' g' → g'.1 ≤ 300 := fun q => q.2.2.2.2.1
  have aMpq : ∀ x k, aMp 0 T C x k → aMq C T x k := by intro x k; unfold aMp aMq; omega
  have aMpqj : ∀ x k, aMpj 0 T C x k → aMqj C T x k := by intro x k; unfold aMpj aMqj; omega
  refine b_X14_clause_65 hL hR19 hYC ?_
  refine hps (n + 2) l g I3 J _ M3 (fun I4 J4 p q => ?_) (fun I4 J4 n4 l4 g4 q => ?_)
  · obtain ⟨q1, q2, q3, q4, q5⟩ := q
    have q6 := q5 [] wkl_nil
    rw [show lfM 0 kd key = lfK kd key from rfl] at q6
    rw [if_neg (by rw [q6.1]; decide), q6.2] at hr
    subst hr
    exact kT rfl I4 J4 (fr_trans F3 (fr_sub q1 aMpq)) (fr_sub q2 aMpqj) q4
  obtain ⟨q1, q2, q3, q4, q5, q6, q7, q8, q9, q10⟩ := q
  have hsy := q9 [] wkl_nil
  rw [show lfM 0 kd key = lfK kd key from rfl, sy_end q3.1.2.1 q10] at hsy
  rw [hsy] at hr
  rw [if_pos rfl] at hr
  simp only at hr
  have F4 := fr_trans F3 (fr_sub q1 aMpq)
  have G4 := fr_sub q2 aMpqj
  have t4 := tre_mono _ 310 _ _ (by have := gle q3; omega) q8
  refine b_X14_clause_78 (n_sr0 := 48) hL hYC.1.2.2.1 hb hR19 hYC hb hb hb ?_
  rw [ii_nat (by omega)]
  have E5 : ∀ x k, ¬ (x = C + 2 ∧ k = k0) → ¬ (x = C + 3 ∧ k = k0) → ¬ (x = C + 4 ∧ k = k0) → ¬ (x = C + 5 ∧ k = k0) → u2 (u2 (u2 (u2 I4 (C + 2) k0 (ii (l4.length - 1))) (C + 3) k0 (-1)) (C + 4) k0 0) (C + 5) k0 0 x k = I4 x k := fun x k z1 z2 z3 z4 => by rw [u2_if, if_neg z4, u2_if, if_neg z3, u2_if, if_neg z2, u2_if, if_neg z1]
  have W2 : u2 (u2 (u2 (u2 I4 (C + 2) k0 (ii (l4.length - 1))) (C + 3) k0 (-1)) (C + 4) k0 0) (C + 5) k0 0 (C + 2) k0 = ii (l4.length - 1) := by rw [u2_a _ _ _ _ (by omega), u2_a _ _ _ _ (by omega), u2_a _ _ _ _ (by omega), u2_e]
  have W3 : u2 (u2 (u2 (u2 I4 (C + 2) k0 (ii (l4.length - 1))) (C + 3) k0 (-1)) (C + 4) k0 0) (C + 5) k0 0 (C + 3) k0 = -1 := by rw [u2_a _ _ _ _ (by omega), u2_a _ _ _ _ (by omega), u2_e]
  have W4 : u2 (u2 (u2 (u2 I4 (C + 2) k0 (ii (l4.length - 1))) (C + 3) k0 (-1)) (C + 4) k0 0) (C + 5) k0 0 (C + 4) k0 = ii 0 := by rw [u2_a _ _ _ _ (by omega), u2_e]; rfl
  have W5 : u2 (u2 (u2 (u2 I4 (C + 2) k0 (ii (l4.length - 1))) (C + 3) k0 (-1)) (C + 4) k0 0) (C + 5) k0 0 (C + 5) k0 = ii 0 := by rw [u2_e]; rfl
  have F5 : fr (aMq C T) I (u2 (u2 (u2 (u2 I4 (C + 2) k0 (ii (l4.length - 1))) (C + 3) k0 (-1)) (C + 4) k0 0) (C + 5) k0 0) := fr_u _ (fr_u _ (fr_u _ (fr_u _ F4 (by unfold aMq; omega)) (by unfold aMq; omega)) (by unfold aMq; omega)) (by unfold aMq; omega)
  have M5 : MSt 0 T C kd key pl m (u2 (u2 (u2 (u2 I4 (C + 2) k0 (ii (l4.length - 1))) (C + 3) k0 (-1)) (C + 4) k0 0) (C + 5) k0 0) J4 n4 0 l4 g4 := MSt_of q3 (fun x k z1 z2 => E5 _ _ (by omega) (by omega) (by omega) (by omega)) hC9 hTC hT9
  have C5 : MCl C T gv (u2 (u2 (u2 (u2 I4 (C + 2) k0 (ii (l4.length - 1))) (C + 3) k0 (-1)) (C + 4) k0 0) (C + 5) k0 0) cs l4 := MCl_of C3 (by omega) hgv (k0 := k0) (fun x k z1 z2 => by rw [E5 _ _ (by omega) (by omega) (by omega) (by omega)]; exact q1 _ _ (by unfold aMp; omega)) hkn (fun i hi => ⟨(q6 i hi).1, by rw [E5 _ _ (by omega) (by omega) (by omega) (by omega)]; exact (q6 i hi).2.1, by rw [E5 _ _ (by omega) (by omega) (by omega) (by omega)]; exact (q6 i hi).2.2⟩)
  have V5 : u2 (u2 (u2 (u2 I4 (C + 2) k0 (ii (l4.length - 1))) (C + 3) k0 (-1)) (C + 4) k0 0) (C + 5) k0 0 (C + 1) k0 = ii v := by rw [E5 _ _ (by omega) (by omega) (by omega) (by omega), q1 _ _ (by unfold aMp; omega)]; exact V3
  have N5 : u2 (u2 (u2 (u2 I4 (C + 2) k0 (ii (l4.length - 1))) (C + 3) k0 (-1)) (C + 4) k0 0) (C + 5) k0 0 C 9 = ii (lst cs) := by rw [E5 _ _ (by omega) (by omega) (by omega) (by omega), q1 _ _ (by unfold aMp; omega)]; exact N3
  have t5 : tre l4 (u2 (u2 (u2 (u2 I4 (C + 2) k0 (ii (l4.length - 1))) (C + 3) k0 (-1)) (C + 4) k0 0) (C + 5) k0 0 (T + 2)) (u2 (u2 (u2 (u2 I4 (C + 2) k0 (ii (l4.length - 1))) (C + 3) k0 (-1)) (C + 4) k0 0) (C + 5) k0 0 (T + 3)) 310 l.length (l4.length - 1) := by
    have e2 : u2 (u2 (u2 (u2 I4 (C + 2) k0 (ii (l4.length - 1))) (C + 3) k0 (-1)) (C + 4) k0 0) (C + 5) k0 0 (T + 2) = I4 (T + 2) := by funext j; exact E5 _ _ (by omega) (by omega) (by omega) (by omega)
    have e3 : u2 (u2 (u2 (u2 I4 (C + 2) k0 (ii (l4.length - 1))) (C + 3) k0 (-1)) (C + 4) k0 0) (C + 5) k0 0 (T + 3) = I4 (T + 3) := by funext j; exact E5 _ _ (by omega) (by omega) (by omega) (by omega)
    rw [e2, e3]; exact t4
  generalize u2 (u2 (u2 (u2 I4 (C + 2) k0 (ii (l4.length - 1))) (C + 3) k0 (-1)) (C + 4) k0 0) (C + 5) k0 0 = I5 at W2 W3 W4 W5 F5 M5 C5 V5 N5 t5 ⊢
  clear E5
  have hte6 := TE_w (j := 6) (MC_te M5.1) (by omega)
  rw [show (jTab 2).getD 6 0 = 26982 from rfl, show ii (10 + 6) = 16 from rfl] at hte6
  refine s_here hL M5.1 ?_
  refine b_X14_clause_115 (fun z5 => ?_) (fun z5 => ?_)
  · have hno : ¬ (kd n4 = 3 ∧ key n4 = 26982) := fun e => by rw [if_pos (hte6.2 e)] at z5; exact absurd z5 (by decide)
    rw [if_neg hno] at hr
    exact h142 n4 l4.length I5 J4 l4 g4 M5 F5 G4 N5 C5 V5 W2 (by rw [if_pos rfl]; exact W3) W4 W5 q5 (Nat.le_refl _) t5 (fun q => by omega) (by omega) hr
  have hyes : kd n4 = 3 ∧ key n4 = 26982 := by
    apply hte6.1
    by_cases e : I5 67 n4 = 16
    · exact e
    · rw [if_neg e] at z5; exact absurd rfl z5
  rw [if_pos hyes] at hr
  have hn4 : n4 < m := MC_lt M5.1 (by rw [hyes.1]; decide)
  refine b_X14_clause_118 hL hR19 hYC ?_
  rw [M5.1.1, ii_add1]
  have M6 := MSt_adv (pd' := 0) hP M5 hn4 (by omega)
  have F6 : fr (aMq C T) I (u2 I5 65 7 (ii (n4 + 1))) := fr_u _ F5 (by unfold aMq; omega)
  have E6 : ∀ x k, ¬ x = 65 → u2 I5 65 7 (ii (n4 + 1)) x k = I5 x k := fun x k q => by rw [u2_a _ _ _ _ q]
  generalize u2 I5 65 7 (ii (n4 + 1)) = I6 at M6 F6 E6 ⊢
  refine hps (n4 + 1) l4 g4 I6 J4 _ M6 (fun I7 J7 p q => ?_) (fun I7 J7 n7 l7 g7 q => ?_)
  · obtain ⟨r1, r2, r3, r4, r5⟩ := q
    have r6 := r5 [] wkl_nil
    rw [show lfM 0 kd key = lfK kd key from rfl] at r6
    rw [if_neg (by rw [r6.1]; decide), r6.2] at hr
    subst hr
    exact kT rfl I7 J7 (fr_trans F6 (fr_sub r1 aMpq)) (fr_trans G4 (fr_sub r2 aMpqj)) r4
  obtain ⟨r1, r2, r3, r4, r5, r6, r7, r8, r9, r10⟩ := q
  have hsy2 := r9 [] wkl_nil
  rw [show lfM 0 kd key = lfK kd key from rfl, sy_end r3.1.2.1 r10] at hsy2
  rw [hsy2] at hr
  rw [if_pos rfl] at hr
  simp only at hr
  have t7 := tre_mono _ 310 _ _ (by have := gle r3; omega) r8
  refine b_X14_clause_141 (n_sr0 := 48) hYC.1.2.2.2.1 hb ?_
  rw [ii_nat (by omega)]
  have E8 : ∀ x k, ¬ (x = C + 3 ∧ k = k0) → u2 I7 (C + 3) k0 (ii (l7.length - 1)) x k = I7 x k := fun x k z1 => by rw [u2_if, if_neg z1]
  have e2 : u2 I7 (C + 3) k0 (ii (l7.length - 1)) (T + 2) = I7 (T + 2) := by funext j; exact E8 _ _ (by omega)
  have e3 : u2 I7 (C + 3) k0 (ii (l7.length - 1)) (T + 3) = I7 (T + 3) := by funext j; exact E8 _ _ (by omega)
  have hz : ∀ x k, ¬ aMp 0 T C x k → ¬ x = 65 → I7 x k = I5 x k := fun x k z1 z2 => by rw [r1 x k z1, E6 x k z2]
  refine h142 n7 l4.length _ J7 l7 g7 (MSt_of r3 (fun x k z1 z2 => E8 _ _ (by omega)) hC9 hTC hT9) (fr_u _ (fr_trans F6 (fr_sub r1 aMpq)) (by unfold aMq; omega)) (fr_trans G4 (fr_sub r2 aMpqj)) (by rw [E8 _ _ (by omega), hz _ _ (by unfold aMp; omega) (by omega)]; exact N5) (MCl_of C5 (by omega) hgv (k0 := k0) (fun x k z1 z2 => by rw [E8 _ _ (by omega)]; exact hz _ _ (by unfold aMp; omega) (by omega)) hkn (fun i hi => ⟨(r6 i hi).1, by rw [E8 _ _ (by omega), (r6 i hi).2.1, E6 _ _ (by omega)], by rw [E8 _ _ (by omega), (r6 i hi).2.2, E6 _ _ (by omega)]⟩)) (by rw [E8 _ _ (by omega), hz _ _ (by unfold aMp; omega) (by omega)]; exact V5) (by rw [E8 _ _ (by omega), hz _ _ (by unfold aMp; omega) (by omega)]; exact W2) (by rw [u2_e, if_neg (by omega)]) (by rw [E8 _ _ (by omega), hz _ _ (by unfold aMp; omega) (by omega)]; exact W4) (by rw [E8 _ _ (by omega), hz _ _ (by unfold aMp; omega) (by omega)]; exact W5) q5 (by omega) ?_ (fun _ => ?_) (by omega) hr
  · have hl := (tre_lt _ _ _ t5).2
    refine tre_ext _ _ _ (fun i hi => (r6 i (by omega)).1) (fun i hi => ?_) t5
    rw [e2, e3, (r6 i (by omega)).2.1, (r6 i (by omega)).2.2, E6 _ _ (by omega), E6 _ _ (by omega)]; exact ⟨rfl, rfl⟩
  · rw [e2, e3]; exact t7
end MCLS
