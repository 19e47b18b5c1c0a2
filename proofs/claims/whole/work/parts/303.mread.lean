/-! ===== P2: an assertion is read by the model ===== -/
def RTc (T : Nat) (l : List Int32) (nv : Nat) (I : Nat → Nat → Int32) : Prop := ∀ i x, l[i]? = some x → I (T + 1) i = opc 0 x ∧ (0 ≤ x → ∃ v, x = ii v ∧ v < nv ∧ I (T + 2) i = ii v)
/-- an assertion of the model as it stands -/
def QCl (C T gv : Nat) (I : Nat → Nat → Int32) (cs : List Cl) (l : List Int32) (nv : Nat) : Prop := I C 6 = ii gv ∧ I C 7 = ii (cs.length - gv) ∧ I C 8 = ii nv ∧ nv ≤ 9 ∧ I C 9 = ii (lst cs) ∧ lst cs < 12 ∧ MCl C T gv I cs l ∧ RTc T l nv I ∧ l.length ≤ 2000
theorem LyCs_u2 {S : Nat → Shp} {R : Nat → Nat → Nat} {a x y v : Nat} (h : LyCs S R a) (hx : x < a ∨ a + 6 < x) : LyCs S (u2 R x y v) a := by
  obtain ⟨h1, h2, h3, h4, h5, h6, h7⟩ := h
  have e : ∀ k, u2 R x y v a k = R a k := fun k => by rw [u2_a _ _ _ _ (by omega)]
  exact ⟨h1, by rw [e]; exact h2, by rw [e]; exact h3, by rw [e]; exact h4, by rw [e]; exact h5, by rw [e]; exact h6, by rw [e]; exact h7⟩
def aMa (C T : Nat) (x k : Nat) : Prop := (x = 65 ∧ (k = 1 ∨ k = 6 ∨ k = 7 ∨ k = 8 ∨ k = 20 ∨ k = 21)) ∨ x = 67 ∨ x = 69 ∨ x = 70 ∨ (T ≤ x ∧ x ≤ T + 5) ∨ (C ≤ x ∧ x ≤ C + 6)
def aMaj (C T : Nat) (x _k : Nat) : Prop := x = 68 ∨ (T ≤ x ∧ x ≤ T + 5) ∨ (C ≤ x ∧ x ≤ C + 6)
section MREAD
variable {xs : Nat → Int32} {L d : Nat} {S : Nat → Shp} {I : Nat → Nat → Int32} {J : Nat → Nat → Int64} {R : Nat → Nat → Nat} {c : Nat × Nat} {Q : Option (Option Value) → MH → Prop} {kd : Nat → Int32} {key : Nat → Int64} {pl : Nat → Nat} {m n C T N gv : Nat} {vs : List Int64} {cs : List Cl} {l : List Int32} {g : LeS}
theorem s_Mpart {r : KR} {off : Nat} (hB : QB C T N S R) (hgv : gv ≤ 24) (hcs : cs.length ≤ gv) (hoff : ∀ i, i < 24 → off + i = mix gv (cs.length + i)) (ho24 : off ≤ 24) (h : QSt C T gv kd key pl m I J n cs l g) (hN4 : I N 4 = ii vs.length) (hNL : NL J (N + 1) vs) (hvs : vs.length ≤ 40) (hr : pts kd key m vs 24 n cs l g = r) (kT : r.1 = false → ∀ I' J', fr (aMq C T) I I' → fr (aMqj C T) J J' → I' 65 8 = ii (pl r.2.1) → Q none (thM (S, I', J', R, c))) (k : r.1 = true → ∀ I' J', fr (aMq C T) I I' → fr (aMqj C T) J J' → n < r.2.1 → cs.length < r.2.2.1.length → r.2.2.1.length ≤ cs.length + 24 → QSt C T gv kd key pl m I' J' r.2.1 r.2.2.1 r.2.2.2.1 r.2.2.2.2 → Q (some (some (.int (ii (r.2.2.1.length - cs.length))))) (S, I', J', R, c)) : X xs L (d + 68) 146 0 [.ref 65, .int (ii off), .null, .null] [] (S, I, J, R, c) Q := by
  have hB' := hB
  obtain ⟨hP, hR11, hYN, hN1, hN2, hT9, hC9⟩ := hB'
  have hL := hP.1
  have hTC := hP.2.2.2.2.2.1
  refine b_X14_part_0 ?_
  have main : ∀ (f i : Nat) (I1 : Nat → Nat → Int32) (J1 : Nat → Nat → Int64) (n1 : Nat) (cs1 : List Cl) (l1 : List Int32) (g1 : LeS), f + i = 24 → cs1.length = cs.length + i → n + i ≤ n1 → fr (aMq C T) I I1 → fr (aMqj C T) J J1 → QSt C T gv kd key pl m I1 J1 n1 cs1 l1 g1 → pts kd key m vs f n1 cs1 l1 g1 = r → X xs L (d + 68) 146 4 [.ref 65, .int (ii off), .int (ii i), .int 1] [] (S, I1, J1, R, c) Q := by
    intro f
    induction f with
    | zero =>
      intro i I1 J1 n1 cs1 l1 g1 a1 a2 a3 a4 a5 a6 a7
      rw [pts] at a7
      subst a7
      refine b_X14_part_4 (fun z => absurd z (by decide)) (fun _ => ?_)
      refine b_X14_part_8 (fun _ => b_X14_part_19 (b_X14_part_20 hL (s_check hL a6.1.1 (fun _ => ?_) (fun q => absurd rfl q)))) (fun z => ?_)
      · exact kT rfl _ _ (fr_u _ a4 (by unfold aMq; omega)) a5 (u2_e _ _ _ _)
      · exact absurd ((ii_le (n := 24) (by omega) (by omega)).2 (by omega)) z
    | succ f ih =>
      intro i I1 J1 n1 cs1 l1 g1 a1 a2 a3 a4 a5 a6 a7
      rw [pts] at a7
      refine b_X14_part_4 (fun z => absurd z (by decide)) (fun _ => ?_)
      refine b_X14_part_8 (fun z => ?_) (fun _ => b_X14_part_15 (b_X14_part_20 hL (s_check hL a6.1.1 (fun q => absurd q (by decide)) (fun _ => ?_))))
      · have := (ii_le (n := 24) (by omega) (by omega)).1 z; omega
      refine b_X14_part_23 hL ?_
      rw [ii_add, hoff i (by omega), ← a2]
      refine s_Mclause hB hgv (by omega) a6 (by rw [a4 _ _ (by unfold aMq; omega)]; exact hN4) (NL_of hNL (fr_row a5 _ (by intro k; unfold aMqj; omega))) hvs rfl (fun q I2 J2 f1 f2 q3 => ?_) (fun q I2 J2 f1 f2 q3 q4 q5 => ?_)
      · rw [if_neg (by rw [q]; decide)] at a7
        subst a7
        exact kT q I2 J2 (fr_trans a4 f1) (fr_trans a5 f2) q3
      · rw [if_pos q] at a7
        generalize cla kd key m vs n1 cs1 l1 g1 = w at a7 q q3 q4 q5
        have hsg := TE_sg (MC_te q5.1.1) (c := 44) (by decide)
        refine b_X14_part_30 hL (s_here hL q5.1.1 ?_)
        rw [ii_add1]
        refine b_X14_part_39 (fun z => ?_) (fun z => ?_)
        · have hk : ¬ kd w.2.1 = 44 := fun e => by rw [if_pos (hsg.2 e)] at z; exact absurd z (by decide)
          rw [if_neg hk] at a7
          subst a7
          rw [z]
          refine b_X14_part_4 (fun _ => b_X14_part_57 ?_) (fun z => absurd rfl z)
          have := k q I2 J2 (fr_trans a4 f1) (fr_trans a5 f2) (by omega) (by omega) (by omega) q5
          rw [show w.2.2.1.length - cs.length = i + 1 by omega] at this
          exact this
        · have hyes : I2 67 w.2.1 = 44 := by
            by_cases e : I2 67 w.2.1 = 44
            · exact e
            · rw [if_neg e] at z; exact absurd rfl z
          have hk := hsg.1 hyes
          rw [if_pos hk] at a7
          have hn1 : w.2.1 < m := MC_lt q5.1.1 (by rw [hk]; decide)
          rw [if_pos hyes]
          refine b_X14_part_44 hL ?_
          rw [q5.1.1.1, ii_add1]
          have M2 := MSt_adv (pd' := 0) hP q5.1 hn1 (by omega)
          refine ih (i + 1) _ J2 _ _ _ _ (by omega) (by omega) (by omega) (fr_u _ (fr_trans a4 f1) (by unfold aMq; omega)) (fr_trans a5 f2) ⟨M2, by rw [u2_a _ _ _ _ (by omega)]; exact q5.2.1, q5.2.2.1, fun j x hx => ?_⟩ a7
          have e2 : u2 I2 65 7 (ii (w.2.1 + 1)) (T + 2) = I2 (T + 2) := by funext j; rw [u2_a _ _ _ _ (by omega)]
          have e3 : u2 I2 65 7 (ii (w.2.1 + 1)) (T + 3) = I2 (T + 3) := by funext j; rw [u2_a _ _ _ _ (by omega)]
          rw [e2, e3, u2_a _ _ _ _ (by omega), u2_a _ _ _ _ (by omega), u2_a _ _ _ _ (by omega), u2_a _ _ _ _ (by omega), u2_a _ _ _ _ (by omega)]
          exact q5.2.2.2 j x hx
  exact main 24 0 I J n cs l g rfl rfl (Nat.le_refl _) (fr_refl _ _) (fr_refl _ _) h hr
theorem s_Maparse {len : Nat} (hL : Lay S R) (hT : LyTr S R T) (hC : LyCs S R C) (hN : LyNo S R N) (hT1 : 99 < T) (hC1 : 92 < C) (hTC : T + 5 < C ∨ C + 6 < T) (hN1 : 82 < N) (hN2 : N < 89) (r16 : R 65 16 = T) (r14 : R 65 14 = C) (r11 : R 65 11 = N) (hc : 118 ≤ c.1) (hl : I 65 1 = ii len) (hl2 : len ≤ 2000) (hb : ∀ i, i < len → byt (I 66 i)) (hTK : TKP (I 66) len kd key pl m) (hN4 : I N 4 = ii vs.length) (hNL : NL J (N + 1) vs) (hvs : vs.length ≤ 40) (kF : (asr kd key m vs).1 = false → ∀ I' J', fr (aMa C T) I I' → fr (aMaj C T) J J' → I' 65 1 = 0 → Q (some (some (.int (ii (pl (asr kd key m vs).2.1))))) (u1 S (c.1 + 1) (.inl 14), I', J', u2 (u2 R 65 17 T) 65 19 C, c.1 + 1, c.2 + 6)) (kO : ∀ p cs gv l g, asr kd key m vs = (true, p, cs, gv, l, g) → ∀ I' J', fr (aMa C T) I I' → fr (aMaj C T) J J' → I' 65 1 = 0 → QCl C T gv I' cs l g.2.length → X xs L (d + 70) 147 120 [.ref 65, .null] [] (S, I', J', u2 (u2 R 65 17 T) 65 19 C, c) Q) : X xs L (d + 70) 147 0 [.ref 65, .null] [] (S, I, J, R, c) Q := by
  have hL1 : Lay S (u2 (u2 R 65 17 T) 65 19 C) := Lay_u2 (Lay_u2 hL (by decide +kernel)) (by decide +kernel)
  have hT' : LyTr S (u2 (u2 R 65 17 T) 65 19 C) T := LyTr_u2 (LyTr_u2 hT (by omega)) (by omega)
  have hC' : LyCs S (u2 (u2 R 65 17 T) 65 19 C) C := LyCs_u2 (LyCs_u2 hC (by omega)) (by omega)
  have hN' : LyNo S (u2 (u2 R 65 17 T) 65 19 C) N := LyNo_u2 (LyNo_u2 hN (by omega)) (by omega)
  have r19 : u2 (u2 R 65 17 T) 65 19 C 65 19 = C := u2_e _ _ _ _
  have hPB : PB 0 T C S (u2 (u2 R 65 17 T) 65 19 C) := ⟨hL1, by rw [u2_k _ _ _ _ (by decide), u2_e], hT', by omega, by omega, hTC, by omega, fun _ => ⟨r19, hC'⟩⟩
  have hQB : QB C T N S (u2 (u2 R 65 17 T) 65 19 C) := ⟨hPB, by rw [u2_k _ _ _ _ (by decide), u2_k _ _ _ _ (by decide)]; exact r11, hN', hN1, hN2, hT1, hC1⟩
  have thr : ∀ (I' : Nat → Nat → Int32) (J' : Nat → Nat → Int64) (v : Int32), I' 65 8 = v → Q (some (some (.int v))) (u1 S (c.1 + 1) (.inl 14), I', J', u2 (u2 R 65 17 T) 65 19 C, c.1 + 1, c.2 + 6) → X xs L (d + 70) 147 115 [.ref 65, .null] [] (thM (S, I', J', u2 (u2 R 65 17 T) 65 19 C, c)) Q := by
    intro I' J' v hv q
    subst hv
    exact b_X14_assertion_115 (Lay_th hL1 (show 118 < c.1 + 1 by omega)) q
  have aqa : ∀ x k, aMq C T x k → aMa C T x k := by intro x k; unfold aMq aMa; omega
  have aqaj : ∀ x k, aMqj C T x k → aMaj C T x k := by intro x k; unfold aMqj aMaj; omega
  refine b_X14_assertion_0 hL (s_X14_readTokens (len := len) hL hl hl2 hb ?_)
  intro I1 J1 f1 f2 t1 t2 t3 t4
  have hTm := hTK.1
  rw [← hTm] at t2 t3
  have hTKM := TKM_mk hl2 hb hTK t1 t2 t3
  refine b_X14_assertion_4 hL r16 hT r14 hC ?_
  have eo : ∀ x k, ¬ (x = T ∧ k = 5) → ¬ (x = C ∧ (k = 8 ∨ k = 9)) → ¬ (x = 65 ∧ (k = 20 ∨ k = 21 ∨ k = 7)) → (u2 (u2 (u2 (u2 (u2 (u2 I1 T 5 0) C 8 0) C 9 0) 65 20 0) 65 21 0) 65 7 0) x k = I1 x k := fun x k q1 q2 q3 => by
    rw [u2_if, if_neg (by omega), u2_if, if_neg (by omega), u2_if, if_neg (by omega), u2_if, if_neg (by omega), u2_if, if_neg (by omega), u2_if, if_neg (by omega)]
  have e7 : (u2 (u2 (u2 (u2 (u2 (u2 I1 T 5 0) C 8 0) C 9 0) 65 20 0) 65 21 0) 65 7 0) 65 7 = ii 0 := by rw [u2_e]; rfl
  have e21 : (u2 (u2 (u2 (u2 (u2 (u2 I1 T 5 0) C 8 0) C 9 0) 65 20 0) 65 21 0) 65 7 0) 65 21 = ii 0 := by rw [u2_k _ _ _ _ (by decide), u2_e]; rfl
  have e20 : (u2 (u2 (u2 (u2 (u2 (u2 I1 T 5 0) C 8 0) C 9 0) 65 20 0) 65 21 0) 65 7 0) 65 20 = 0 := by rw [u2_k _ _ _ _ (by decide), u2_k _ _ _ _ (by decide), u2_e]
  have eC9 : (u2 (u2 (u2 (u2 (u2 (u2 I1 T 5 0) C 8 0) C 9 0) 65 20 0) 65 21 0) 65 7 0) C 9 = ii 0 := by rw [u2_a _ _ _ _ (by omega), u2_a _ _ _ _ (by omega), u2_a _ _ _ _ (by omega), u2_e]; rfl
  have eC8 : (u2 (u2 (u2 (u2 (u2 (u2 I1 T 5 0) C 8 0) C 9 0) 65 20 0) 65 21 0) 65 7 0) C 8 = ii 0 := by rw [u2_a _ _ _ _ (by omega), u2_a _ _ _ _ (by omega), u2_a _ _ _ _ (by omega), u2_k _ _ _ _ (by decide), u2_e]; rfl
  have eT : (u2 (u2 (u2 (u2 (u2 (u2 I1 T 5 0) C 8 0) C 9 0) 65 20 0) 65 21 0) 65 7 0) T 5 = ii 0 := by rw [u2_a _ _ _ _ (by omega), u2_a _ _ _ _ (by omega), u2_a _ _ _ _ (by omega), u2_a _ _ _ _ (by omega), u2_a _ _ _ _ (by omega), u2_e]; rfl
  have F1 : fr (aMa C T) I (u2 (u2 (u2 (u2 (u2 (u2 I1 T 5 0) C 8 0) C 9 0) 65 20 0) 65 21 0) 65 7 0) := fr_u _ (fr_u _ (fr_u _ (fr_u _ (fr_u _ (fr_u _ (fr_sub f1 (by intro x k; unfold aMt aMa; omega)) (by unfold aMa; omega)) (by unfold aMa; omega)) (by unfold aMa; omega)) (by unfold aMa; omega)) (by unfold aMa; omega)) (by unfold aMa; omega)
  have e1 : (u2 (u2 (u2 (u2 (u2 (u2 I1 T 5 0) C 8 0) C 9 0) 65 20 0) 65 21 0) 65 7 0) 65 1 = 0 := by rw [eo _ _ (by omega) (by omega) (by omega)]; exact t4
  have G1 : fr (aMaj C T) J J1 := fr_sub f2 (by intro x k; unfold aMj aMaj; omega)
  generalize (u2 (u2 (u2 (u2 (u2 (u2 I1 T 5 0) C 8 0) C 9 0) 65 20 0) 65 21 0) 65 7 0) = I2 at eo e7 e21 e20 eC9 eC8 eT F1 e1 ⊢
  have M0 : MC kd key pl m I2 J1 0 := ⟨e7, by omega, TKM_of hTKM (by funext j; exact eo _ _ (by omega) (by omega) (by omega)) (by funext j; exact eo _ _ (by omega) (by omega) (by omega)) (by funext j; exact eo _ _ (by omega) (by omega) (by omega)) rfl⟩
  have hval : asr kd key m vs = asr kd key m vs := rfl
  conv at hval => rhs; unfold asr
  have hN4' : ∀ I', fr (aMa C T) I I' → I' N 4 = ii vs.length := fun I' q => by rw [q _ _ (by unfold aMa; omega)]; exact hN4
  have hNL' : ∀ J', fr (aMaj C T) J J' → NL J' (N + 1) vs := fun J' q => NL_of hNL (fr_row q _ (by intro k; unfold aMaj; omega))
  have hte3 := TE_w (j := 3) (MC_te M0) (by omega)
  rw [show (jTab 2).getD 3 0 = 444150998382 from rfl, show ii (10 + 3) = 13 from rfl] at hte3
  refine s_take hL1 M0 (fun z => ?_) (fun z => ?_)
  · rw [if_neg (fun e => z (hte3.2 e))] at hval
    have := kF (by rw [hval]) (u2 I2 65 8 (ii (pl 0))) J1 (fr_u _ F1 (by unfold aMa; omega)) G1 (by rw [u2_k _ _ _ _ (by decide)]; exact e1)
    rw [hval] at this
    exact thr _ J1 _ (u2_e _ _ _ _) this
  have hg := hte3.1 z
  rw [if_pos hg] at hval
  have hn0 : 0 < m := MC_lt M0 (by rw [hg.1]; decide)
  have eo3 : ∀ x k, ¬ (x = 65 ∧ k = 7) → u2 I2 65 7 (ii (0 + 1)) x k = I2 x k := fun x k q => by rw [u2_if, if_neg q]
  have F3 : fr (aMa C T) I (u2 I2 65 7 (ii (0 + 1))) := fr_u _ F1 (by unfold aMa; omega)
  have Q3 : QSt C T 24 kd key pl m (u2 I2 65 7 (ii (0 + 1))) J1 1 [] [] (0, []) := by
    refine ⟨⟨MC_of M0 (u2_e _ _ _ _) hn0 (by funext j; exact eo3 _ _ (by omega)) (by funext j; exact eo3 _ _ (by omega)) (by funext j; exact eo3 _ _ (by omega)) rfl, by rw [eo3 _ _ (by omega)]; exact eT, by simp, by rw [eo3 _ _ (by omega)]; exact e21, by simp only; omega, by rw [eo3 _ _ (by omega)]; exact e20, fun i x hx => by simp at hx, fun _ => ⟨by rw [eo3 _ _ (by omega)]; exact eC8, fun i x hx => by simp at hx, by simp⟩⟩, by rw [eo3 _ _ (by omega)]; exact eC9, by show 0 < 12; omega, fun j x hx => by simp at hx⟩
  have E3 : u2 I2 65 7 (ii (0 + 1)) 65 1 = 0 := by rw [eo3 _ _ (by omega)]; exact e1
  generalize u2 I2 65 7 (ii (0 + 1)) = I3 at F3 Q3 E3 ⊢
  clear eo eo3
  refine b_X14_assertion_65 hL1 r19 ?_
  refine s_Mpart (off := 0) (r := asr1 kd key m vs) hQB (by omega) (by simp) (fun i hi => by unfold mix; rw [if_pos (by simp; omega)]; simp) (by omega) Q3 (hN4' _ F3) (hNL' _ G1) hvs rfl (fun q I4 J4 g1 g2 g3 => ?_) (fun q I4 J4 g1 g2 g3 g4 g5 g6 => ?_)
  · rw [if_neg (by rw [q]; decide)] at hval
    have := kF (by rw [hval]) I4 J4 (fr_trans F3 (fr_sub g1 aqa)) (fr_trans G1 (fr_sub g2 aqaj)) (by rw [g1 _ _ (by unfold aMq; omega)]; exact E3)
    rw [hval] at this
    exact thr I4 J4 _ g3 this
  rw [if_pos q] at hval
  generalize hr1 : asr1 kd key m vs = r1 at hval q g3 g4 g5 g6 ⊢
  have hg24 : r1.2.2.1.length ≤ 24 := by simp at g5; exact g5
  have hg0 : 0 < r1.2.2.1.length := by simp at g4; exact g4
  refine b_X14_assertion_74 hL1 hC' ?_
  rw [show r1.2.2.1.length - ([] : List Cl).length = r1.2.2.1.length from rfl]
  have F4 := fr_trans F3 (fr_sub g1 aqa)
  have G4 := fr_trans G1 (fr_sub g2 aqaj)
  have E4 : I4 65 1 = 0 := by rw [g1 _ _ (by unfold aMq; omega)]; exact E3
  have eg : ∀ x k, ¬ (x = C ∧ k = 6) → u2 I4 C 6 (ii r1.2.2.1.length) x k = I4 x k := fun x k z => by rw [u2_if, if_neg z]
  have hQof : ∀ (gv k0 : Nat) (v : Int32) (I9 : Nat → Nat → Int32) (J9 : Nat → Nat → Int64) (n9 : Nat) (cs9 : List Cl) (l9 : List Int32) (g9 : LeS), (k0 = 6 ∨ k0 = 7) → QSt C T gv kd key pl m I9 J9 n9 cs9 l9 g9 → QSt C T gv kd key pl m (u2 I9 C k0 v) J9 n9 cs9 l9 g9 := by
    intro gv k0 v I9 J9 n9 cs9 l9 g9 hk h9
    obtain ⟨⟨h1, h2, h3, h4, h5, h6, h7, h8⟩, h9', h10, h11⟩ := h9
    have e : ∀ x k, ¬ (x = C ∧ k = k0) → u2 I9 C k0 v x k = I9 x k := fun x k z => by rw [u2_if, if_neg z]
    have e2 : u2 I9 C k0 v (T + 2) = I9 (T + 2) := by funext j; exact e _ _ (by omega)
    have e3 : u2 I9 C k0 v (T + 3) = I9 (T + 3) := by funext j; exact e _ _ (by omega)
    refine ⟨⟨MC_of h1 (by rw [e _ _ (by omega)]; exact h1.1) h1.2.1 (by funext j; exact e _ _ (by omega)) (by funext j; exact e _ _ (by omega)) (by funext j; exact e _ _ (by omega)) rfl, by rw [e _ _ (by omega)]; exact h2, h3, by rw [e _ _ (by omega)]; exact h4, h5, by rw [e _ _ (by omega)]; exact h6, TL_of h7 (by funext j; exact e _ _ (by omega)) e2 (by funext j; exact e _ _ (by omega)) rfl, fun q => ⟨by rw [e _ _ (by omega)]; exact (h8 q).1, (h8 q).2⟩⟩, by rw [e _ _ (by omega)]; exact h9', h10, fun j x hx => ?_⟩
    rw [e2, e3, e _ _ (by omega), e _ _ (by omega), e _ _ (by omega), e _ _ (by omega), e _ _ (by omega)]
    exact h11 j x hx
  have hQadv : ∀ (gv : Nat) (I9 : Nat → Nat → Int32) (J9 : Nat → Nat → Int64) (n9 : Nat) (cs9 : List Cl) (l9 : List Int32) (g9 : LeS), n9 < m → QSt C T gv kd key pl m I9 J9 n9 cs9 l9 g9 → QSt C T gv kd key pl m (u2 I9 65 7 (ii (n9 + 1))) J9 (n9 + 1) cs9 l9 g9 := by
    intro gv I9 J9 n9 cs9 l9 g9 hn9 h9
    obtain ⟨h1, h9', h10, h11⟩ := h9
    have e : ∀ x k, ¬ x = 65 → u2 I9 65 7 (ii (n9 + 1)) x k = I9 x k := fun x k z => by rw [u2_a _ _ _ _ z]
    have e2 : u2 I9 65 7 (ii (n9 + 1)) (T + 2) = I9 (T + 2) := by funext j; exact e _ _ (by omega)
    have e3 : u2 I9 65 7 (ii (n9 + 1)) (T + 3) = I9 (T + 3) := by funext j; exact e _ _ (by omega)
    refine ⟨MSt_adv hPB h1 hn9 (by omega), by rw [e _ _ (by omega)]; exact h9', h10, fun j x hx => ?_⟩
    rw [e2, e3, e _ _ (by omega), e _ _ (by omega), e _ _ (by omega), e _ _ (by omega), e _ _ (by omega)]
    exact h11 j x hx
  have Q5 := hQof 24 6 (ii r1.2.2.1.length) I4 J4 _ _ _ _ (Or.inl rfl) g6
  have F5 : fr (aMa C T) I (u2 I4 C 6 (ii r1.2.2.1.length)) := fr_u _ F4 (by unfold aMa; omega)
  have E5 : u2 I4 C 6 (ii r1.2.2.1.length) 65 1 = 0 := by rw [eg _ _ (by omega)]; exact E4
  have G5 : u2 I4 C 6 (ii r1.2.2.1.length) C 6 = ii r1.2.2.1.length := u2_e _ _ _ _
  generalize u2 I4 C 6 (ii r1.2.2.1.length) = I5 at Q5 F5 E5 G5 ⊢
  clear eg
  have hte4 := TE_w (j := 4) (MC_te Q5.1.1) (by omega)
  rw [show (jTab 2).getD 4 0 = 1952998766 from rfl, show ii (10 + 4) = 14 from rfl] at hte4
  refine s_take hL1 Q5.1.1 (fun z2 => ?_) (fun z2 => ?_)
  · rw [if_neg (fun e => z2 (hte4.2 e))] at hval
    have := kF (by rw [hval]) (u2 I5 65 8 (ii (pl r1.2.1))) J4 (fr_u _ F5 (by unfold aMa; omega)) G4 (by rw [u2_k _ _ _ _ (by decide)]; exact E5)
    rw [hval] at this
    exact thr _ J4 _ (u2_e _ _ _ _) this
  have hth := hte4.1 z2
  rw [if_pos hth] at hval
  have hn1 : r1.2.1 < m := MC_lt Q5.1.1 (by rw [hth.1]; decide)
  have Q6 := hQadv 24 I5 J4 r1.2.1 _ _ _ hn1 Q5
  have Q6' : QSt C T r1.2.2.1.length kd key pl m (u2 I5 65 7 (ii (r1.2.1 + 1))) J4 (r1.2.1 + 1) r1.2.2.1 r1.2.2.2.1 r1.2.2.2.2 := by
    refine ⟨Q6.1, Q6.2.1, Q6.2.2.1, fun j x hx => ?_⟩
    have hj := (List.getElem?_eq_some_iff.1 hx).1
    have hx2 := Q6.2.2.2 j x hx
    have em : mix r1.2.2.1.length j = mix 24 j := by unfold mix; rw [if_pos hj, if_pos (by omega)]
    rw [em]; exact hx2
  have F6 : fr (aMa C T) I (u2 I5 65 7 (ii (r1.2.1 + 1))) := fr_u _ F5 (by unfold aMa; omega)
  have E6 : u2 I5 65 7 (ii (r1.2.1 + 1)) 65 1 = 0 := by rw [u2_k _ _ _ _ (by decide)]; exact E5
  have G6 : u2 I5 65 7 (ii (r1.2.1 + 1)) C 6 = ii r1.2.2.1.length := by rw [u2_a _ _ _ _ (by omega)]; exact G5
  generalize u2 I5 65 7 (ii (r1.2.1 + 1)) = I6 at Q6' F6 E6 G6 ⊢
  refine b_X14_assertion_83 hL1 r19 ?_
  refine s_Mpart (off := 24) (r := asr2 kd key m vs) hQB hg24 (Nat.le_refl _) (fun i hi => by unfold mix; rw [if_neg (by omega)]; omega) (by omega) Q6' (hN4' _ F6) (hNL' _ G4) hvs (by unfold asr2; rw [hr1]) (fun q2 I7 J7 k1 k2 k3 => ?_) (fun q2 I7 J7 k1 k2 k3 k4 k5 k6 => ?_)
  · rw [if_neg (by rw [q2]; decide)] at hval
    have := kF (by rw [hval]) I7 J7 (fr_trans F6 (fr_sub k1 aqa)) (fr_trans G4 (fr_sub k2 aqaj)) (by rw [k1 _ _ (by unfold aMq; omega)]; exact E6)
    rw [hval] at this
    exact thr I7 J7 _ k3 this
  rw [if_pos q2] at hval
  generalize hr2 : asr2 kd key m vs = r2 at hval q2 k3 k4 k5 k6 ⊢
  refine b_X14_assertion_93 hL1 hC' ?_
  have Q8 := hQof r1.2.2.1.length 7 (ii (r2.2.2.1.length - r1.2.2.1.length)) I7 J7 _ _ _ _ (Or.inr rfl) k6
  have F8 : fr (aMa C T) I (u2 I7 C 7 (ii (r2.2.2.1.length - r1.2.2.1.length))) := fr_u _ (fr_trans F6 (fr_sub k1 aqa)) (by unfold aMa; omega)
  have G8 := fr_trans G4 (fr_sub k2 aqaj)
  have E8 : u2 I7 C 7 (ii (r2.2.2.1.length - r1.2.2.1.length)) 65 1 = 0 := by rw [u2_a _ _ _ _ (by omega), k1 _ _ (by unfold aMq; omega)]; exact E6
  have W6 : u2 I7 C 7 (ii (r2.2.2.1.length - r1.2.2.1.length)) C 6 = ii r1.2.2.1.length := by rw [u2_k _ _ _ _ (by decide), k1 _ _ (by unfold aMq; omega)]; exact G6
  have W7 : u2 I7 C 7 (ii (r2.2.2.1.length - r1.2.2.1.length)) C 7 = ii (r2.2.2.1.length - r1.2.2.1.length) := u2_e _ _ _ _
  generalize u2 I7 C 7 (ii (r2.2.2.1.length - r1.2.2.1.length)) = I8 at Q8 F8 E8 W6 W7 ⊢
  have hsg := TE_sg (MC_te Q8.1.1) (c := 46) (by decide)
  refine s_take hL1 Q8.1.1 (fun z3 => ?_) (fun z3 => ?_)
  · rw [if_neg (fun e => z3 (hsg.2 e))] at hval
    have := kF (by rw [hval]) (u2 I8 65 8 (ii (pl r2.2.1))) J7 (fr_u _ F8 (by unfold aMa; omega)) G8 (by rw [u2_k _ _ _ _ (by decide)]; exact E8)
    rw [hval] at this
    exact thr _ J7 _ (u2_e _ _ _ _) this
  have hdot := hsg.1 z3
  rw [if_pos hdot] at hval
  have hn2 : r2.2.1 < m := MC_lt Q8.1.1 (by rw [hdot]; decide)
  have Q9 := hQadv _ I8 J7 r2.2.1 _ _ _ hn2 Q8
  have F9 : fr (aMa C T) I (u2 I8 65 7 (ii (r2.2.1 + 1))) := fr_u _ F8 (by unfold aMa; omega)
  have E9 : u2 I8 65 7 (ii (r2.2.1 + 1)) 65 1 = 0 := by rw [u2_k _ _ _ _ (by decide)]; exact E8
  have V6 : u2 I8 65 7 (ii (r2.2.1 + 1)) C 6 = ii r1.2.2.1.length := by rw [u2_a _ _ _ _ (by omega)]; exact W6
  have V7 : u2 I8 65 7 (ii (r2.2.1 + 1)) C 7 = ii (r2.2.2.1.length - r1.2.2.1.length) := by rw [u2_a _ _ _ _ (by omega)]; exact W7
  generalize u2 I8 65 7 (ii (r2.2.1 + 1)) = I9 at Q9 F9 E9 V6 V7 ⊢
  have hte0 := TE_0 (MC_te Q9.1.1)
  refine b_X14_assertion_102 hL1 (s_here hL1 Q9.1.1 ?_)
  refine b_X14_assertion_108 hL1 (s_check hL1 Q9.1.1 (fun z4 => ?_) (fun z4 => ?_))
  · have hno : ¬ kd (r2.2.1 + 1) = 0 := fun e => by rw [if_pos (hte0.2 e)] at z4; exact absurd z4 (by decide)
    rw [if_neg hno] at hval
    have := kF (by rw [hval]) (u2 I9 65 8 (ii (pl (r2.2.1 + 1)))) J7 (fr_u _ F9 (by unfold aMa; omega)) G8 (by rw [u2_k _ _ _ _ (by decide)]; exact E9)
    rw [hval] at this
    exact thr _ J7 _ (u2_e _ _ _ _) this
  have hyes : kd (r2.2.1 + 1) = 0 := by
    apply hte0.1
    by_cases e : I9 67 (r2.2.1 + 1) = 0
    · exact e
    · rw [if_neg e] at z4; exact absurd rfl z4
  rw [if_pos hyes] at hval
  refine b_X14_assertion_111 ?_
  obtain ⟨⟨y1, y2, y3, y4, y5, y6, y7, y8⟩, y9, y10, y11⟩ := Q9
  refine kO _ _ _ _ _ hval I9 J7 F9 G8 E9 ⟨V6, V7, (y8 rfl).1, (y8 rfl).2.2, y9, y10, y11, fun i x hx => ⟨(y7 i x hx).1, fun q => ((y7 i x hx).2 q).2 rfl⟩, by have := y1.2.1; have := y1.2.2.1; omega⟩
end MREAD
