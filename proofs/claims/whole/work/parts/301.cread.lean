/-! ===== P2: an assertion is read by the class ===== -/
abbrev AR : Type := Bool × Nat × List Cl × Nat × List Int32 × LeS
def asr1 (kd : Nat → Int32) (key : Nat → Int64) (m : Nat) (vs : List Int64) : KR := pts kd key m vs 24 1 [] [] (0, [])
def asr2 (kd : Nat → Int32) (key : Nat → Int64) (m : Nat) (vs : List Int64) : KR := pts kd key m vs 24 ((asr1 kd key m vs).2.1 + 1) (asr1 kd key m vs).2.2.1 (asr1 kd key m vs).2.2.2.1 (asr1 kd key m vs).2.2.2.2
def asr (kd : Nat → Int32) (key : Nat → Int64) (m : Nat) (vs : List Int64) : AR := if kd 0 = 3 ∧ key 0 = 444150998382 then (if (asr1 kd key m vs).1 = true then (if kd (asr1 kd key m vs).2.1 = 3 ∧ key (asr1 kd key m vs).2.1 = 1952998766 then (if (asr2 kd key m vs).1 = true then (if kd (asr2 kd key m vs).2.1 = 46 then (if kd ((asr2 kd key m vs).2.1 + 1) = 0 then (true, (asr2 kd key m vs).2.1 + 1, (asr2 kd key m vs).2.2.1, (asr1 kd key m vs).2.2.1.length, (asr2 kd key m vs).2.2.2.1, (asr2 kd key m vs).2.2.2.2) else (false, (asr2 kd key m vs).2.1 + 1, [], 0, [], (0, []))) else (false, (asr2 kd key m vs).2.1, [], 0, [], (0, []))) else (false, (asr2 kd key m vs).2.1, [], 0, [], (0, []))) else (false, (asr1 kd key m vs).2.1, [], 0, [], (0, []))) else (false, (asr1 kd key m vs).2.1, [], 0, [], (0, []))) else (false, 0, [], 0, [], (0, []))
/-- an assertion of the class as it stands -/
def KCl (I : Nat → Nat → Int32) (q : Nat) (cs : List Cl) (gv : Nat) (l : List Int32) (g : LeS) : Prop := KRd I q cs ∧ I q 2 = ii gv ∧ I q 4 = ii (lst cs) ∧ lst cs < 12 ∧ CdL I (q + 8) l ∧ I q 0 = ii g.2.length ∧ g.2.length ≤ 9 ∧ 0 < gv ∧ gv ≤ 24 ∧ gv < cs.length ∧ cs.length ≤ gv + 24 ∧ l.length ≤ 2000
theorem LyCm_u2 {S : Nat → Shp} {R : Nat → Nat → Nat} {a x y v : Nat} (h : LyCm S R a) (hx : x < a ∨ a + 9 < x) : LyCm S (u2 R x y v) a := by
  obtain ⟨h1, h2, h3, h4, h5, h6, h7, h8, h9, h10⟩ := h
  have e : ∀ b k, a ≤ b → b ≤ a + 9 → u2 R x y v b k = R b k := fun b k q1 q2 => by rw [u2_a _ _ _ _ (by omega)]
  exact ⟨h1, by rw [e _ _ (by omega) (by omega)]; exact h2, by rw [e _ _ (by omega) (by omega)]; exact h3, by rw [e _ _ (by omega) (by omega)]; exact h4, by rw [e _ _ (by omega) (by omega)]; exact h5, by rw [e _ _ (by omega) (by omega)]; exact h6, by rw [e _ _ (by omega) (by omega)]; exact h7, by rw [e _ _ (by omega) (by omega)]; exact h8, by rw [e _ _ (by omega) (by omega)]; exact h9, by rw [e _ _ (by omega) (by omega)]; exact h10⟩
theorem LyCd_cm {S : Nat → Shp} {R : Nat → Nat → Nat} {a : Nat} (h : LyCm S R a) : LyCd S R (a + 8) := ⟨⟨h.1.2.2.2.2.2.2.2.2.1, h.1.2.2.2.2.2.2.2.2.2⟩, h.2.2.2.2.2.2.2.2.2⟩
def aKc (q : Nat) (x k : Nat) : Prop := x = 4 ∨ x = 5 ∨ x = 6 ∨ x = 12 ∨ (x = 11 ∧ (k = 2 ∨ k = 4 ∨ k = 5)) ∨ (q ≤ x ∧ x ≤ q + 9)
def aKcj (q : Nat) (x _k : Nat) : Prop := x = 7 ∨ x = q + 1
section KREAD
variable {xs : Nat → Int32} {L d : Nat} {S : Nat → Shp} {I : Nat → Nat → Int32} {J : Nat → Nat → Int64} {R : Nat → Nat → Nat} {c : Nat × Nat} {Q : Option (Option Value) → MH → Prop} {q b : Nat} {ns : List Nd}
theorem s_X4_read {len : Nat} (hL : Lay S R) (hY : LyCm S R q) (hq : 44 < q) (hq2 : q < 56) (hYb : LyCi S R b) (hb1 : b < 36) (hb2 : 12 < b) (hl : I 2 1 = ii len) (hl2 : len ≤ 2000) (hC : CRd I J b ns) (hn40 : ns.length ≤ 40) (kF : ∀ kd key pl m, TKP (I 3) len kd key pl m → (asr kd key m (ns.map Prod.fst)).1 = false → ∀ I' J', fr (aKc q) I I' → fr (aKcj q) J J' → Q (some (some (.int (ii (pl (asr kd key m (ns.map Prod.fst)).2.1))))) (S, I', J', u2 (u2 (u2 R 11 6 q) 11 7 b) 11 1 (q + 8), c)) (kO : ∀ kd key pl m p cs gv l g, TKP (I 3) len kd key pl m → asr kd key m (ns.map Prod.fst) = (true, p, cs, gv, l, g) → ∀ I' J', fr (aKc q) I I' → fr (aKcj q) J J' → KCl I' q cs gv l g → Q (some (some (.int (-2)))) (S, I', J', u2 (u2 (u2 R 11 6 q) 11 7 b) 11 1 (q + 8), c)) : X xs L (d + 7) 50 0 [.ref 11, .ref q, .ref b, .null] [] (S, I, J, R, c) Q := by
  have hL1 : Lay S (u2 (u2 R 11 6 q) 11 7 b) := Lay_u2 (Lay_u2 hL (by decide +kernel)) (by decide +kernel)
  have hY1 : LyCm S (u2 (u2 R 11 6 q) 11 7 b) q := LyCm_u2 (LyCm_u2 hY (by omega)) (by omega)
  have hL2 : Lay S (u2 (u2 (u2 R 11 6 q) 11 7 b) 11 1 (q + 8)) := Lay_u2 hL1 (by decide +kernel)
  have hY2 : LyCm S (u2 (u2 (u2 R 11 6 q) 11 7 b) 11 1 (q + 8)) q := LyCm_u2 hY1 (by omega)
  have hB : KB q b S (u2 (u2 (u2 R 11 6 q) 11 7 b) 11 1 (q + 8)) := ⟨hL2, hY2, by rw [u2_k _ _ _ _ (by decide), u2_k _ _ _ _ (by decide), u2_e], by rw [u2_e], hq, LyCd_cm hY2, by rw [u2_k _ _ _ _ (by decide), u2_e], LyCi_u2 (LyCi_u2 (LyCi_u2 hYb (by omega)) (by omega)) (by omega), hb1, hb2⟩
  refine b_X4_read_0 hL hY ?_
  refine b_X3_clear_0 hY1 ?_
  refine b_X4_read_17 hL1 (by rw [u2_k _ _ _ _ (by decide), u2_e]) hY1 ?_
  refine b_X6k_begin_0 hL1 ?_
  have ec : ∀ x k, ¬ (x = q ∧ (k = 0 ∨ k = 2 ∨ k = 3 ∨ k = 4)) → (u2 (u2 (u2 (u2 I q 0 0) q 2 0) q 3 0) q 4 0) x k = I x k := fun x k z => by
    rw [u2_if, if_neg (by omega), u2_if, if_neg (by omega), u2_if, if_neg (by omega), u2_if, if_neg (by omega)]
  have ec0 : (u2 (u2 (u2 (u2 I q 0 0) q 2 0) q 3 0) q 4 0) q 0 = ii 0 ∧ (u2 (u2 (u2 (u2 I q 0 0) q 2 0) q 3 0) q 4 0) q 3 = ii 0 ∧ (u2 (u2 (u2 (u2 I q 0 0) q 2 0) q 3 0) q 4 0) q 4 = ii 0 := by
    refine ⟨?_, ?_, ?_⟩
    · rw [u2_k _ _ _ _ (by decide), u2_k _ _ _ _ (by decide), u2_k _ _ _ _ (by decide), u2_e]; rfl
    · rw [u2_k _ _ _ _ (by decide), u2_e]; rfl
    · rw [u2_e]; rfl
  generalize (u2 (u2 (u2 (u2 I q 0 0) q 2 0) q 3 0) q 4 0) = I0 at ec ec0 ⊢
  refine s_X9_scan (len := len) hL1 (by rw [ec _ _ (by omega)]; exact hl) hl2 ?_
  intro I1 J1 f1 f2 t1 t2 t3 t4 t5
  have e3 : I0 3 = I 3 := by funext j; exact ec _ _ (by omega)
  rw [e3] at t1 t2 t3 t4
  refine b_X6k_begin_7 hL1 (LyCd_cm hY1) ?_
  have hTl : (tks (I 3) len len 0).length ≤ 2000 := by have := tks_len (I 3) len len 0 (by omega); omega
  generalize hm : (tks (I 3) len len 0).length = m at t2 t3 t4 hTl
  have eo : ∀ x k, ¬ (x = 11 ∧ k = 2) → ¬ (x = q + 8 ∧ k = 1) → u2 (u2 I1 11 2 0) (q + 8) 1 0 x k = I1 x k := fun x k q1 q2 => by rw [u2_if, if_neg q2, u2_if, if_neg q1]
  have F0 : fr (aKc q) I (u2 (u2 I1 11 2 0) (q + 8) 1 0) := by
    intro x k z
    rw [eo x k (by unfold aKc at z; omega) (by unfold aKc at z; omega), f1 x k (by unfold aKc at z; unfold aSc; omega), ec x k (by unfold aKc at z; omega)]
  have G0 : fr (aKcj q) J J1 := fr_sub f2 (by intro x k; unfold aSj aKcj; omega)
  have c0 : u2 (u2 I1 11 2 0) (q + 8) 1 0 q 0 = ii 0 := by rw [eo _ _ (by omega) (by omega), f1 _ _ (by unfold aSc; omega)]; exact ec0.1
  have c3 : u2 (u2 I1 11 2 0) (q + 8) 1 0 q 3 = ii 0 := by rw [eo _ _ (by omega) (by omega), f1 _ _ (by unfold aSc; omega)]; exact ec0.2.1
  have c4 : u2 (u2 I1 11 2 0) (q + 8) 1 0 q 4 = ii 0 := by rw [eo _ _ (by omega) (by omega), f1 _ _ (by unfold aSc; omega)]; exact ec0.2.2
  have e82 : u2 (u2 I1 11 2 0) (q + 8) 1 0 11 2 = ii 0 := by rw [u2_a _ _ _ _ (by omega), u2_e]; rfl
  have ea5 : u2 (u2 I1 11 2 0) (q + 8) 1 0 (q + 8) 1 = ii 0 := by rw [u2_e]; rfl
  have h4 : u2 (u2 I1 11 2 0) (q + 8) 1 0 4 5 = ii 0 ∧ u2 (u2 I1 11 2 0) (q + 8) 1 0 4 4 = ii (m + 1) := ⟨by rw [eo _ _ (by omega) (by omega)]; exact t5, by rw [eo _ _ (by omega) (by omega)]; exact t4⟩
  have h5 : ∀ j, u2 (u2 I1 11 2 0) (q + 8) 1 0 5 j = I1 5 j := fun j => eo _ _ (by omega) (by omega)
  have h6 : ∀ j, u2 (u2 I1 11 2 0) (q + 8) 1 0 6 j = I1 6 j := fun j => eo _ _ (by omega) (by omega)
  generalize u2 (u2 I1 11 2 0) (q + 8) 1 0 = I2 at F0 c0 c3 c4 e82 ea5 h4 h5 h6 ⊢
  clear eo
  have hpl : ∃ pl : Nat → Nat, (∀ i, i ≤ m → I1 6 i = ii (pl i)) ∧ pl m = len ∧ (∀ i, pl i ≤ 2000) ∧ ∀ i t, (tks (I 3) len len 0)[i]? = some t → pl i = t.1 := by
    refine ⟨fun i => match (tks (I 3) len len 0)[i]? with | some t => t.1 | none => len, fun i hi => ?_, ?_, fun i => ?_, fun i t ht => ?_⟩
    · show I1 6 i = ii (match (tks (I 3) len len 0)[i]? with | some t => t.1 | none => len)
      cases hq : (tks (I 3) len len 0)[i]? with
      | some t => exact (t1 i t hq).2.1
      | none =>
        have : i = m := by
          have := List.getElem?_eq_none_iff.1 hq
          omega
        rw [this]; exact t3
    · have : (tks (I 3) len len 0)[m]? = none := List.getElem?_eq_none (by omega)
      simp only [this]
    · show (match (tks (I 3) len len 0)[i]? with | some t => t.1 | none => len) ≤ 2000
      cases hq : (tks (I 3) len len 0)[i]? with
      | some t =>
        have h3 := tks_mem (I 3) len len 0 t (List.mem_of_getElem? hq)
        have := h3.1
        show t.1 ≤ 2000
        omega
      | none => exact hl2
    · simp only [ht]
  obtain ⟨pl, p1, p2, p4, p3⟩ := hpl
  have hTK : TKP (I 3) len (I1 5) (J1 7) pl m := ⟨hm.symm, hTl, t2, p2, p4, fun i t ht => ⟨(t1 i t ht).1, p3 i t ht, (t1 i t ht).2.2⟩⟩
  have hT : TkC I2 0 m := ⟨h4.1, h4.2, by omega, hTl, by rw [h5]; exact t2⟩
  have hCT : CTk (I1 5) (J1 7) pl m I2 J1 0 := ⟨hT, funext h5, rfl, fun i hi => by rw [h6]; exact p1 i hi⟩
  have hKS : KSt q (I1 5) (J1 7) pl m I2 J1 0 [] [] (0, []) := ⟨hCT, ⟨c3, fun i x hx => by simp at hx⟩, c4, by show 0 < 12; omega, ⟨ea5, fun i x hx => by simp at hx⟩, e82, by simp only; omega, c0, fun i x hx => by simp at hx, by simp, by simp⟩
  generalize I1 5 = kd at hTK hKS
  generalize J1 7 = key at hTK hKS
  clear hCT hT
  have hCx : ∀ (I' : Nat → Nat → Int32) (J' : Nat → Nat → Int64), fr (aKc q) I I' → fr (aKcj q) J J' → CRd I' J' b ns := fun I' J' z1 z2 => ⟨by rw [z1 _ _ (by unfold aKc; omega)]; exact hC.1, fun i x hx => by rw [z2 _ _ (by unfold aKcj; omega), z1 _ _ (by unfold aKc; omega), z1 _ _ (by unfold aKc; omega), z1 _ _ (by unfold aKc; omega)]; exact hC.2 i x hx⟩
  -- the end with a fault
  have hbad : ∀ (p : Nat) (I' : Nat → Nat → Int32) (J' : Nat → Nat → Int64) (x3 : Int32), CTk kd key pl m I' J' p → fr (aKc q) I I' → fr (aKcj q) J J' → (asr kd key m (ns.map Prod.fst)).1 = false → (asr kd key m (ns.map Prod.fst)).2.1 = p → X xs L (d + 7) 50 119 [.ref 11, .ref q, .ref b, .int x3] [] (S, I', J', u2 (u2 (u2 R 11 6 q) 11 7 b) 11 1 (q + 8), c) Q := by
    intro p I' J' x3 z1 z2 z3 z4 z5
    refine b_X4_read_119 (b_X4_read_120 (fun _ => ?_) (fun z => absurd rfl z))
    refine b_X4_read_130 hL2 (s_X9_place hL2 (TkC_in z1.1) ?_)
    rw [CTk_place z1, ← z5]
    exact b_X4_read_137 (kF kd key pl m hTK z4 I' J' z2 z3)
  have hbad2 : ∀ (p : Nat) (I' : Nat → Nat → Int32) (J' : Nat → Nat → Int64) (x3 : Int32), CTk kd key pl m I' J' p → fr (aKc q) I I' → fr (aKcj q) J J' → (asr kd key m (ns.map Prod.fst)).1 = false → (asr kd key m (ns.map Prod.fst)).2.1 = p → X xs L (d + 7) 50 90 [.ref 11, .ref q, .ref b, .int x3] [] (S, I', J', u2 (u2 (u2 R 11 6 q) 11 7 b) 11 1 (q + 8), c) Q := by
    intro p I' J' x3 z1 z2 z3 z4 z5
    exact b_X4_read_90 (b_X4_read_91 (fun _ => hbad p I' J' _ z1 z2 z3 z4 z5) (fun z => absurd rfl z))
  have hbad1 : ∀ (p : Nat) (I' : Nat → Nat → Int32) (J' : Nat → Nat → Int64), CTk kd key pl m I' J' p → fr (aKc q) I I' → fr (aKcj q) J J' → (asr kd key m (ns.map Prod.fst)).1 = false → (asr kd key m (ns.map Prod.fst)).2.1 = p → X xs L (d + 7) 50 49 [.ref 11, .ref q, .ref b, .null] [] (S, I', J', u2 (u2 (u2 R 11 6 q) 11 7 b) 11 1 (q + 8), c) Q := by
    intro p I' J' z1 z2 z3 z4 z5
    refine b_X4_read_49 (b_X4_read_50 hL2 hB.2.2.1 hY2 (fun _ => ?_) (fun z => absurd rfl z))
    exact hbad2 p _ J' _ (CTk_of z1 (TkC_of z1.1 (by rw [u2_a _ _ _ _ (by omega)]) (by rw [u2_a _ _ _ _ (by omega)]) (by funext j; rw [u2_a _ _ _ _ (by omega)])) (by funext j; rw [u2_a _ _ _ _ (by omega)]) (by funext j; rw [u2_a _ _ _ _ (by omega)]) rfl) (fr_u _ z2 (by unfold aKc; omega)) z3 z4 z5
  have hval : asr kd key m (ns.map Prod.fst) = asr kd key m (ns.map Prod.fst) := rfl
  conv at hval => rhs; unfold asr
  refine b_X4_read_28 hL2 (s_X6k_takeWord hL2 hKS.1.1 (fun z1 z2 z3 => ?_) (fun z1 => ?_))
  rotate_left
  · rw [hKS.1.2.1, hKS.1.2.2.1] at z1
    rw [if_neg z1] at hval
    exact b_X4_read_35 (fun _ => hbad1 0 I2 J1 hKS.1 F0 G0 (by rw [hval]) (by rw [hval])) (fun z => absurd rfl z)
  rw [hKS.1.2.1] at z1
  rw [hKS.1.2.2.1] at z2
  rw [if_pos ⟨z1, z2⟩] at hval
  refine b_X4_read_35 (fun z => absurd z (by decide)) (fun _ => ?_)
  have K1 := KSt_st hq hKS z3
  have F1 : fr (aKc q) I (u2 I2 4 5 (ii (0 + 1))) := fr_u _ F0 (by unfold aKc; omega)
  refine b_X4_read_38 hL2 (s_X4_takeClauses (ns := ns) hB K1 (by simp) (hCx _ _ F1 G0) hn40 (show _ = asr1 kd key m (ns.map Prod.fst) from rfl) (fun I3 J3 g1 g2 g3 g4 => ?_))
  generalize hr1 : asr1 kd key m (ns.map Prod.fst) = r1 at hval g3 g4 ⊢
  have F3 : fr (aKc q) I I3 := fr_trans F1 (fr_sub g1 (by intro x k; unfold aKr aKc; omega))
  have G3 : fr (aKcj q) J J3 := fr_trans G0 (fr_sub g2 (by intro x k; unfold aAtj aKcj; omega))
  by_cases hs1 : r1.1 = true
  rotate_left
  · rw [if_neg hs1] at hval ⊢
    exact b_X4_read_42 (fun _ => hbad1 r1.2.1 I3 J3 g3 F3 G3 (by rw [hval]) (by rw [hval])) (fun z => absurd rfl z)
  rw [if_pos hs1] at hval ⊢
  obtain ⟨-, k1, k2, k3⟩ := g4 hs1
  refine b_X4_read_42 (fun z => absurd z (by decide)) (fun _ => b_X4_read_45 (b_X4_read_50 hL2 hB.2.2.1 hY2 (fun z => absurd z (by decide)) (fun _ => ?_)))
  rw [k1.2.1.1]
  have eg : ∀ x k, ¬ (x = q ∧ k = 2) → u2 I3 q 2 (ii r1.2.2.1.length) x k = I3 x k := fun x k z => by rw [u2_if, if_neg z]
  have F4 : fr (aKc q) I (u2 I3 q 2 (ii r1.2.2.1.length)) := fr_u _ F3 (by unfold aKc; omega)
  have T4 : CTk kd key pl m (u2 I3 q 2 (ii r1.2.2.1.length)) J3 r1.2.1 := CTk_of k1.1 (TkC_of k1.1.1 (eg _ _ (by omega)) (eg _ _ (by omega)) (by funext j; exact eg _ _ (by omega))) (by funext j; exact eg _ _ (by omega)) (by funext j; exact eg _ _ (by omega)) rfl
  have K4 : KSt q kd key pl m (u2 I3 q 2 (ii r1.2.2.1.length)) J3 r1.2.1 r1.2.2.1 r1.2.2.2.1 r1.2.2.2.2 := by
    obtain ⟨-, y2, y3, y4, y5, y6, y7, y8, y9, y10, y11⟩ := k1
    refine ⟨T4, ⟨by rw [eg _ _ (by omega)]; exact y2.1, fun i x hx => ?_⟩, by rw [eg _ _ (by omega)]; exact y3, y4, CdL_of y5 (eg _ _ (by omega)) (by funext j; exact eg _ _ (by omega)), by rw [eg _ _ (by omega)]; exact y6, y7, by rw [eg _ _ (by omega)]; exact y8, y9, y10, y11⟩
    rw [eg _ _ (by omega), eg _ _ (by omega), eg _ _ (by omega), eg _ _ (by omega), eg _ _ (by omega), eg _ _ (by omega)]
    exact y2.2 i x hx
  have G4 : u2 I3 q 2 (ii r1.2.2.1.length) q 2 = ii r1.2.2.1.length := u2_e _ _ _ _
  generalize u2 I3 q 2 (ii r1.2.2.1.length) = I4 at F4 T4 K4 G4 ⊢
  clear eg
  refine b_X4_read_69 hL2 (s_X6k_takeWord hL2 T4.1 (fun y1 y2 y3 => ?_) (fun y1 => ?_))
  rotate_left
  · rw [T4.2.1, T4.2.2.1] at y1
    rw [if_neg y1] at hval
    exact b_X4_read_76 (fun _ => hbad2 r1.2.1 I4 J3 _ T4 F4 G3 (by rw [hval]) (by rw [hval])) (fun z => absurd rfl z)
  rw [T4.2.1] at y1
  rw [T4.2.2.1] at y2
  rw [if_pos ⟨y1, y2⟩] at hval
  refine b_X4_read_76 (fun z => absurd z (by decide)) (fun _ => ?_)
  have K5 := KSt_st hq K4 y3
  have F5 : fr (aKc q) I (u2 I4 4 5 (ii (r1.2.1 + 1))) := fr_u _ F4 (by unfold aKc; omega)
  have hk24 : r1.2.2.1.length ≤ 24 := by simp at k3; exact k3
  have hk0 : 0 < r1.2.2.1.length := by simp at k2; exact k2
  refine b_X4_read_79 hL2 (s_X4_takeClauses (ns := ns) (r := asr2 kd key m (ns.map Prod.fst)) hB K5 hk24 (hCx _ _ F5 G3) hn40 (by unfold asr2; rw [hr1]) (fun I6 J6 g5 g6 g7 g8 => ?_))
  generalize hr2 : asr2 kd key m (ns.map Prod.fst) = r2 at hval g7 g8 ⊢
  have F6 : fr (aKc q) I I6 := fr_trans F5 (fr_sub g5 (by intro x k; unfold aKr aKc; omega))
  have G6 : fr (aKcj q) J J6 := fr_trans G3 (fr_sub g6 (by intro x k; unfold aAtj aKcj; omega))
  by_cases hs2 : r2.1 = true
  rotate_left
  · rw [if_neg hs2] at hval ⊢
    exact b_X4_read_83 (fun _ => hbad2 r2.2.1 I6 J6 _ g7 F6 G6 (by rw [hval]) (by rw [hval])) (fun z => absurd rfl z)
  rw [if_pos hs2] at hval ⊢
  obtain ⟨-, k4, k5, k6⟩ := g8 hs2
  refine b_X4_read_83 (fun z => absurd z (by decide)) (fun _ => b_X4_read_86 (b_X4_read_91 (fun z => absurd z (by decide)) (fun _ => ?_)))
  refine b_X4_read_96 hL2 (s_X6k_takeSign hL2 g7.1 (by decide) (fun w1 w2 => ?_) (fun w1 => ?_))
  rotate_left
  · rw [g7.2.1] at w1
    rw [if_neg w1] at hval
    exact b_X4_read_102 (fun _ => hbad r2.2.1 I6 J6 _ g7 F6 G6 (by rw [hval]) (by rw [hval])) (fun z => absurd rfl z)
  rw [g7.2.1] at w1
  rw [if_pos w1] at hval
  refine b_X4_read_102 (fun z => absurd z (by decide)) (fun _ => ?_)
  have T7 := CTk_st g7 w2
  have F7 : fr (aKc q) I (u2 I6 4 5 (ii (r2.2.1 + 1))) := fr_u _ F6 (by unfold aKc; omega)
  have K7 := KSt_st hq k4 w2
  have G7 : u2 I6 4 5 (ii (r2.2.1 + 1)) q 2 = ii r1.2.2.1.length := by
    rw [u2_a _ _ _ _ (by omega), g5 _ _ (by unfold aKr; omega), u2_a _ _ _ _ (by omega)]; exact G4
  generalize u2 I6 4 5 (ii (r2.2.1 + 1)) = I7 at T7 F7 K7 G7 ⊢
  refine b_X4_read_105 hL2 (s_X9_kind hL2 (TkC_in T7.1) ?_)
  rw [CTk_kind T7]
  refine b_X4_read_112 (fun z => ?_) (fun z => ?_)
  · rw [if_neg z] at hval
    exact hbad (r2.2.1 + 1) I7 J6 _ T7 F7 G6 (by rw [hval]) (by rw [hval])
  · have z' := Classical.not_not.1 z
    rw [if_pos z'] at hval
    refine b_X4_read_115 (b_X4_read_120 (fun z => absurd z (by decide)) (fun _ => b_X4_read_125 (b_X4_read_137 ?_)))
    obtain ⟨-, y2, y3, y4, y5, y6, y7, y8, y9, y10, y11⟩ := K7
    have hm2 := T7.1.2.2.2.1
    have hn2 := T7.1.2.2.1
    exact kO kd key pl m (r2.2.1 + 1) r2.2.2.1 r1.2.2.1.length r2.2.2.2.1 r2.2.2.2.2 hTK hval I7 J6 F7 G6 ⟨y2, G7, y3, y4, y5, y8, y10, hk0, hk24, k5, k6, by omega⟩
end KREAD
