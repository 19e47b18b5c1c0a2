/-! ===== P2: circuit() of the class ===== -/
theorem Lay_u2 {S : Nat → Shp} {R : Nat → Nat → Nat} {x y v : Nat} (h : Lay S R) (hq : layR.all (fun p => !(p.1 == x && p.2.1 == y)) = true) : Lay S (u2 R x y v) := by
  refine ⟨h.1, fun p hp => ?_⟩
  have := List.all_eq_true.1 hq p hp
  rw [u2_if, if_neg]
  · exact h.2 p hp
  · rintro ⟨q1, q2⟩
    rw [q1, q2] at this
    simp at this
theorem LyCi_u2 {S : Nat → Shp} {R : Nat → Nat → Nat} {a x y v : Nat} (h : LyCi S R a) (hx : x < a ∨ a + 9 < x) : LyCi S (u2 R x y v) a := by
  obtain ⟨h1, h2, h3, h4, h5, h6, h7, h8, h9, h10⟩ := h
  have e : ∀ b k, a ≤ b → b ≤ a + 9 → u2 R x y v b k = R b k := fun b k q1 q2 => by rw [u2_a _ _ _ _ (by omega)]
  exact ⟨h1, by rw [e _ _ (by omega) (by omega)]; exact h2, by rw [e _ _ (by omega) (by omega)]; exact h3, by rw [e _ _ (by omega) (by omega)]; exact h4, by rw [e _ _ (by omega) (by omega)]; exact h5, by rw [e _ _ (by omega) (by omega)]; exact h6, by rw [e _ _ (by omega) (by omega)]; exact h7, by rw [e _ _ (by omega) (by omega)]; exact h8, by rw [e _ _ (by omega) (by omega)]; exact h9, by rw [e _ _ (by omega) (by omega)]; exact h10⟩
theorem LyCd_ci {S : Nat → Shp} {R : Nat → Nat → Nat} {a : Nat} (h : LyCi S R a) : LyCd S R (a + 5) := ⟨⟨h.1.2.2.2.2.2.1, h.1.2.2.2.2.2.2.1⟩, h.2.2.2.2.2.2.2.2.2⟩
/-- the tokens of a text -/
def TKP (b : Nat → Int32) (len : Nat) (kd : Nat → Int32) (key : Nat → Int64) (pl : Nat → Nat) (m : Nat) : Prop := m = (tks b len len 0).length ∧ m ≤ 2000 ∧ kd m = 0 ∧ pl m = len ∧ (∀ i, pl i ≤ 2000) ∧ ∀ i t, (tks b len len 0)[i]? = some t → kd i = ckd (kdf (b t.1)) b t.1 t.2 ∧ pl i = t.1 ∧ key i = pk b t.1 (t.2 - t.1)
def its0 (kd : Nat → Int32) (key : Nat → Int64) (m : Nat) : CR := its kd key m (m + 1) 0 [] [] (0, [])
def rsl0 (kd : Nat → Int32) (key : Nat → Int64) (m : Nat) : Option Nat × List Int32 := rsl ((its0 kd key m).2.2.1.map Prod.fst) key (its0 kd key m).2.2.2.1
/-- the token of the fault -/
def cFlt (kd : Nat → Int32) (key : Nat → Int64) (m p : Nat) : Prop := ((its0 kd key m).1 = false ∧ p = (its0 kd key m).2.1) ∨ ((its0 kd key m).1 = true ∧ (rsl0 kd key m).1 = some p) ∨ ((its0 kd key m).1 = true ∧ (rsl0 kd key m).1 = none ∧ ∃ n x, (its0 kd key m).2.2.1[n]? = some x ∧ p = x.2.2.1 ∧ wsh (wadj (its0 kd key m).2.2.1 (rsl0 kd key m).2) (its0 kd key m).2.2.1.length n n = true ∧ ∀ i, i < n → wsh (wadj (its0 kd key m).2.2.1 (rsl0 kd key m).2) (its0 kd key m).2.2.1.length i i = false)
def cOk (kd : Nat → Int32) (key : Nat → Int64) (m : Nat) (ns : List Nd) (l : List Int32) : Prop := (its0 kd key m).1 = true ∧ ns = (its0 kd key m).2.2.1 ∧ (rsl0 kd key m).1 = none ∧ l = (rsl0 kd key m).2 ∧ ∀ i, i < ns.length → wsh (wadj ns l) ns.length i i = false
theorem cFlt_un {kd : Nat → Int32} {key : Nat → Int64} {m p p' : Nat} (h : cFlt kd key m p) (h' : cFlt kd key m p') : p = p' := by
  rcases h with ⟨a1, a2⟩ | ⟨a1, a2⟩ | ⟨a1, a2, n, x, a3, a4, a5, a6⟩
  · rcases h' with ⟨b1, b2⟩ | ⟨b1, b2⟩ | ⟨b1, b2, _⟩
    · rw [a2, b2]
    · rw [a1] at b1; cases b1
    · rw [a1] at b1; cases b1
  · rcases h' with ⟨b1, b2⟩ | ⟨b1, b2⟩ | ⟨b1, b2, _⟩
    · rw [a1] at b1; cases b1
    · rw [a2] at b2; cases b2; rfl
    · rw [a2] at b2; cases b2
  · rcases h' with ⟨b1, b2⟩ | ⟨b1, b2⟩ | ⟨b1, b2, n', x', b3, b4, b5, b6⟩
    · rw [a1] at b1; cases b1
    · rw [a2] at b2; cases b2
    · have : n = n' := by
        rcases Nat.lt_trichotomy n n' with q | q | q
        · rw [b6 n q] at a5; cases a5
        · exact q
        · rw [a6 n' q] at b5; cases b5
      subst this
      rw [a3] at b3; cases b3
      rw [a4, b4]
theorem cFlt_ok {kd : Nat → Int32} {key : Nat → Int64} {m p : Nat} {ns : List Nd} {l : List Int32} (h : cFlt kd key m p) (h' : cOk kd key m ns l) : False := by
  obtain ⟨b1, b2, b3, b4, b5⟩ := h'
  rcases h with ⟨a1, a2⟩ | ⟨a1, a2⟩ | ⟨a1, a2, n, x, a3, a4, a5, a6⟩
  · rw [a1] at b1; cases b1
  · rw [a2] at b3; cases b3
  · have hn : n < ns.length := by rw [b2]; exact (List.getElem?_eq_some_iff.1 a3).1
    have := b5 n hn
    rw [b2, b4, a5] at this; cases this
def aCr (a : Nat) (x _k : Nat) : Prop := x = 4 ∨ x = 5 ∨ x = 6 ∨ x = 8 ∨ x = 9 ∨ x = 10 ∨ (a ≤ x ∧ x ≤ a + 9)
def aCc (a : Nat) (x k : Nat) : Prop := x = 4 ∨ x = 5 ∨ x = 6 ∨ x = 8 ∨ x = 9 ∨ x = 10 ∨ (a ≤ x ∧ x ≤ a + 9) ∨ (x = 2 ∧ k = 1) ∨ (x = 1 ∧ k = 8)
def aCcj (a : Nat) (x _k : Nat) : Prop := x = 7 ∨ (a ≤ x ∧ x ≤ a + 9)
/-- a circuit of the class as it stands -/
def CCi (I : Nat → Nat → Int32) (J : Nat → Nat → Int64) (a : Nat) (ns : List Nd) (l : List Int32) : Prop := CRd I J a ns ∧ CdL I (a + 5) l ∧ LK I J a ns l
section CCIRC
variable {xs : Nat → Int32} {L d : Nat} {S : Nat → Shp} {I : Nat → Nat → Int32} {J : Nat → Nat → Int64} {R : Nat → Nat → Nat} {c : Nat × Nat} {Q : Option (Option Value) → MH → Prop} {a : Nat}
theorem s_X2_read {len : Nat} (hL : Lay S R) (hY : LyCi S R a) (ha : 12 < a) (hl : I 2 1 = ii len) (hl2 : len ≤ 2000) (kF : ∀ kd key pl m p, TKP (I 3) len kd key pl m → cFlt kd key m p → ∀ I' J', fr (aCr a) I I' → fr (aCcj a) J J' → Q (some (some (.int (ii (pl p))))) (S, I', J', u2 (u2 R 8 6 a) 8 1 (a + 5), c)) (kO : ∀ kd key pl m ns l, TKP (I 3) len kd key pl m → cOk kd key m ns l → ∀ I' J', fr (aCr a) I I' → fr (aCcj a) J J' → CCi I' J' a ns l → Q (some (some (.int (-2)))) (S, I', J', u2 (u2 R 8 6 a) 8 1 (a + 5), c)) : X xs L (d + 7) 38 0 [.ref 8, .ref a, .null, .null] [] (S, I, J, R, c) Q := by
  have hL1 : Lay S (u2 R 8 6 a) := Lay_u2 hL (by decide +kernel)
  have hY1 : LyCi S (u2 R 8 6 a) a := LyCi_u2 hY (by omega)
  have hL2 : Lay S (u2 (u2 R 8 6 a) 8 1 (a + 5)) := Lay_u2 hL1 (by decide +kernel)
  have hY2 : LyCi S (u2 (u2 R 8 6 a) 8 1 (a + 5)) a := LyCi_u2 hY1 (by omega)
  have hB : CB a S (u2 (u2 R 8 6 a) 8 1 (a + 5)) := ⟨hL2, hY2, by rw [u2_k _ _ _ _ (by decide), u2_e], by rw [u2_e], ha, LyCd_ci hY2⟩
  refine b_X2_read_0 hL hY (by omega) ?_
  refine b_X6c_begin_0 hL1 ?_
  refine s_X9_scan (len := len) hL1 (by rw [u2_a _ _ _ _ (by omega)]; exact hl) hl2 ?_
  intro I1 J1 f1 f2 t1 t2 t3 t4 t5
  have e3 : u2 I a 0 0 3 = I 3 := by funext j; rw [u2_a _ _ _ _ (by omega)]
  rw [e3] at t1 t2 t3 t4
  refine b_X6c_begin_7 hL1 (LyCd_ci hY1) ?_
  refine b_X2_read_24 ?_
  have hTl : (tks (I 3) len len 0).length ≤ 2000 := by have := tks_len (I 3) len len 0 (by omega); omega
  generalize hm : (tks (I 3) len len 0).length = m at t2 t3 t4 hTl
  have eo : ∀ x k, ¬ (x = 8 ∧ k = 2) → ¬ (x = a + 5 ∧ k = 1) → u2 (u2 I1 8 2 0) (a + 5) 1 0 x k = I1 x k := fun x k q1 q2 => by rw [u2_if, if_neg q2, u2_if, if_neg q1]
  have F0 : fr (aCr a) I (u2 (u2 I1 8 2 0) (a + 5) 1 0) := by
    intro x k q
    rw [eo x k (by unfold aCr at q; omega) (by unfold aCr at q; omega), f1 x k (by unfold aCr at q; unfold aSc; omega), u2_if, if_neg (by unfold aCr at q; omega)]
  have G0 : fr (aCcj a) J J1 := fr_sub f2 (by intro x k; unfold aSj aCcj; omega)
  have c0 : u2 (u2 I1 8 2 0) (a + 5) 1 0 a 0 = ii 0 := by rw [eo _ _ (by omega) (by omega), f1 _ _ (by unfold aSc; omega), u2_e]; rfl
  have e82 : u2 (u2 I1 8 2 0) (a + 5) 1 0 8 2 = ii 0 := by rw [u2_a _ _ _ _ (by omega), u2_e]; rfl
  have ea5 : u2 (u2 I1 8 2 0) (a + 5) 1 0 (a + 5) 1 = ii 0 := by rw [u2_e]; rfl
  have h4 : u2 (u2 I1 8 2 0) (a + 5) 1 0 4 5 = ii 0 ∧ u2 (u2 I1 8 2 0) (a + 5) 1 0 4 4 = ii (m + 1) := ⟨by rw [eo _ _ (by omega) (by omega)]; exact t5, by rw [eo _ _ (by omega) (by omega)]; exact t4⟩
  have h5 : ∀ j, u2 (u2 I1 8 2 0) (a + 5) 1 0 5 j = I1 5 j := fun j => eo _ _ (by omega) (by omega)
  have h6 : ∀ j, u2 (u2 I1 8 2 0) (a + 5) 1 0 6 j = I1 6 j := fun j => eo _ _ (by omega) (by omega)
  generalize u2 (u2 I1 8 2 0) (a + 5) 1 0 = I2 at F0 c0 e82 ea5 h4 h5 h6 ⊢
  clear eo
  have hpl : ∃ pl : Nat → Nat, (∀ i, i ≤ m → I1 6 i = ii (pl i)) ∧ pl m = len ∧ (∀ i, pl i ≤ 2000) ∧ ∀ i t, (tks (I 3) len len 0)[i]? = some t → pl i = t.1 := by
    refine ⟨fun i => match (tks (I 3) len len 0)[i]? with | some t => t.1 | none => len, fun i hi => ?_, ?_, fun i => ?_, fun i t ht => ?_⟩
    · show I1 6 i = ii (match (tks (I 3) len len 0)[i]? with | some t => t.1 | none => len)
      cases hq : (tks (I 3) len len 0)[i]? with
      | some t => exact (t1 i t hq).2.1
      | none =>
        have : i = m := by
          have := List.getElem?_eq_none_iff.1 hq
          omega
        rw [this]; exact t3
    · have : (tks (I 3) len len 0)[m]? = none := List.getElem?_eq_none (by omega)
      simp only [this]
    · show (match (tks (I 3) len len 0)[i]? with | some t => t.1 | none => len) ≤ 2000
      cases hq : (tks (I 3) len len 0)[i]? with
      | some t =>
        have h3 := tks_mem (I 3) len len 0 t (List.mem_of_getElem? hq)
        have := h3.1
        show t.1 ≤ 2000
        omega
      | none => exact hl2
    · simp only [ht]
  obtain ⟨pl, p1, p2, p4, p3⟩ := hpl
  have hTK : TKP (I 3) len (I1 5) (J1 7) pl m := ⟨hm.symm, hTl, t2, p2, p4, fun i t ht => ⟨(t1 i t ht).1, p3 i t ht, (t1 i t ht).2.2⟩⟩
  have hT : TkC I2 0 m := ⟨h4.1, h4.2, by omega, hTl, by rw [h5]; exact t2⟩
  have hCT : CTk (I1 5) (J1 7) pl m I2 J1 0 := ⟨hT, funext h5, rfl, fun i hi => by rw [h6]; exact p1 i hi⟩
  have hCS : CSt a (I1 5) (J1 7) pl m I2 J1 0 [] [] (0, []) := ⟨hCT, ⟨c0, fun i x hx => by simp at hx⟩, fun i x hx => by simp at hx, by simp, ⟨ea5, fun i x hx => by simp at hx⟩, e82, by simp only; omega, by simp⟩
  generalize I1 5 = kd at hTK hCS
  generalize J1 7 = key at hTK hCS
  have h0 : kd m = 0 := hTK.2.2.1
  refine s_X2_items (r := its0 kd key m) hB hCS rfl (fun q I3 J3 g1 g2 g3 => ?_) (fun q I3 J3 i g1 g2 g3 => ?_)
  · have G3 : fr (aCr a) I I3 := fr_trans F0 (fr_sub g1 (by intro x k; unfold aRc aCr; omega))
    have H3 : fr (aCcj a) J J3 := fr_trans G0 (fr_sub g2 (by intro x k; unfold aRcj aCcj; omega))
    exact kF kd key pl m _ hTK (Or.inl ⟨q, rfl⟩) I3 J3 G3 H3
  · have G3 : fr (aCr a) I I3 := fr_trans F0 (fr_sub g1 (by intro x k; unfold aRc aCr; omega))
    have H3 : fr (aCcj a) J J3 := fr_trans G0 (fr_sub g2 (by intro x k; unfold aRcj aCcj; omega))
    have hP := its_P (key := key) h0 (m + 1) 0 [] [] (0, []) (by omega) (fun x hx => by simp at hx) q
    have hrg := its_rg (kd := kd) (key := key) (m := m) (m + 1) 0 [] [] (0, []) (fun x hx => by simp at hx)
    have hll : (its0 kd key m).2.2.2.1.length ≤ 2000 := by have := g3.2.2.2.2.2.2.2; have := g3.1.1.2.2.1; omega
    refine b_X2_read_64 hL2 (s_X2_putNodes hB g3 hP (fun t ht htm I4 k1 => ?_) (fun hno I4 k1 k2 => ?_))
    · have hpn : ¬ ii (pl t) = -2 := ii_n2 (by have := p4 t; omega)
      refine b_X2_read_68 (fun z => absurd z hpn) (fun _ => b_X2_read_75 ?_)
      exact kF kd key pl m t hTK (Or.inr (Or.inl ⟨q, ht⟩)) I4 J3 (fr_trans G3 (fr_sub k1 (by intro x k e; unfold aCr; omega))) H3
    · refine b_X2_read_68 (fun _ => ?_) (fun z => absurd rfl z)
      have hC4 : CRd I4 J3 a (its0 kd key m).2.2.1 := ⟨by rw [k1 _ _ (by omega)]; exact g3.2.1.1, fun i x hx => by rw [k1 _ _ (by omega), k1 _ _ (by omega), k1 _ _ (by omega)]; exact g3.2.1.2 i x hx⟩
      have hrl := rsl_len (its0 kd key m).2.2.2.1 hno
      have hlv : ∀ y ∈ (rsl0 kd key m).2, lvP (its0 kd key m).2.2.1.length y := fun y hy => by
        have := rsl_P (vs := (its0 kd key m).2.2.1.map Prod.fst) (key := key) (its0 kd key m).2.2.2.1 (cdP_neg hTl hP) y hy
        rw [List.length_map] at this; exact this
      refine b_X2_read_77 hL2 hB.2.2.1 hY2 (s_X1_link (l := (rsl0 kd key m).2) hY2 hB.2.2.2.2.2 hC4 g3.2.2.2.1 k2 (by show (rsl _ _ _).2.length ≤ 2000; rw [hrl]; exact hll) hlv (by show rgP _ (rsl _ _ _).2.length; rw [hrl]; exact hrg) (fun I5 J5 l1 l2 l3 => ?_))
      have hC5 : CRd I5 J5 a (its0 kd key m).2.2.1 := ⟨by rw [l1 _ _ (by omega)]; exact hC4.1, fun i x hx => by rw [l2 _ _ (by omega), l1 _ _ (by omega), l1 _ _ (by omega), l1 _ _ (by omega)]; exact hC4.2 i x hx⟩
      have G5 : fr (aCr a) I I5 := fr_trans (fr_trans G3 (fr_sub k1 (by intro x k e; unfold aCr; omega))) (fr_sub l1 (by intro x k e; unfold aCr; omega))
      have H5 : fr (aCcj a) J J5 := fr_trans H3 (fr_sub l2 (by intro x k e; unfold aCcj; omega))
      refine b_X2_read_84 hL2 hB.2.2.1 hY2 (s_X1_firstLoop (l := (rsl0 kd key m).2) hY2 hC5 g3.2.2.2.1 l3.2.1 (fun n hn hw1 hw2 => ?_) (fun hw => ?_))
      · have hn40 := g3.2.2.2.1
        refine b_X2_read_91 (fun _ => ?_) (fun z => absurd (ii_n2 (by omega)) z)
        refine b_X2_read_103 hL2 (ii_inb (by omega) (by omega)) ?_
        have hx := ge_lt hn
        rw [ii_nat (by omega), l1 _ _ (by omega), k1 _ _ (by omega), g3.2.2.1 n _ hx]
        exact b_X2_read_109 (kF kd key pl m _ hTK (Or.inr (Or.inr ⟨q, hno, n, _, hx, rfl, hw1, hw2⟩)) I5 J5 G5 H5)
      · refine b_X2_read_91 (fun z => absurd rfl z) (fun _ => b_X2_read_98 (b_X2_read_109 ?_))
        refine kO kd key pl m (its0 kd key m).2.2.1 (rsl0 kd key m).2 hTK ⟨q, rfl, hno, rfl, hw⟩ I5 J5 G5 H5 ⟨hC5, ?_, l3⟩
        exact CdL_of k2 (l1 _ _ (by omega)) (fr_row l1 _ (by intro k; omega))
theorem s_X10_circuit {len b : Nat} (hL : Lay S R) (hY : LyCi S R a) (ha : 12 < a) (hR : R 1 5 = a) (hR4 : R 1 4 = b) (hl : I 2 1 = ii len) (hl2 : len ≤ 2000) (kF : ∀ kd key pl m p, TKP (I 3) len kd key pl m → cFlt kd key m p → ∀ I' J', fr (aCc a) I I' → fr (aCcj a) J J' → I' 2 1 = ii 0 → I' 1 8 = I 1 8 → Q (some (some (.int (ii (pl p))))) (S, I', J', u2 (u2 R 8 6 a) 8 1 (a + 5), c)) (kO : ∀ kd key pl m ns l, TKP (I 3) len kd key pl m → cOk kd key m ns l → ∀ I' J', fr (aCc a) I I' → fr (aCcj a) J J' → I' 2 1 = ii 0 → I' 1 8 = 0 → CCi I' J' a ns l → Q (some (some (.int (-2)))) (S, I', J', u2 (u2 (u2 (u2 R 8 6 a) 8 1 (a + 5)) 1 4 a) 1 5 b, c)) : X xs L (d + 8) 104 0 [.ref 1, .null, .null] [] (S, I, J, R, c) Q := by
  have hL2 : Lay S (u2 (u2 R 8 6 a) 8 1 (a + 5)) := Lay_u2 (Lay_u2 hL (by decide +kernel)) (by decide +kernel)
  refine b_X10_circuit_0 hL hR (s_X2_read hL hY ha hl hl2 (fun kd key pl m p h1 h2 I1 J1 f1 f2 => ?_) (fun kd key pl m ns l h1 h2 I1 J1 f1 f2 h3 => ?_))
  · refine b_X10_circuit_11 hL2 (fun z => absurd z (ii_n2 (by have := h1.2.2.2.2.1 p; omega))) (fun _ => b_X10_circuit_26 ?_)
    exact kF kd key pl m p h1 h2 _ J1 (fr_u _ (fr_sub f1 (by intro x k; unfold aCr aCc; omega)) (by unfold aCc; omega)) f2 (u2_e _ _ _ _) (by rw [u2_a _ _ _ _ (by decide)]; exact f1 _ _ (by unfold aCr; omega))
  · refine b_X10_circuit_11 hL2 (fun _ => ?_) (fun z => absurd rfl z)
    refine b_X10_circuit_28 (q_1_4 := b) (q_1_5 := a) hL2 (by rw [u2_a _ _ _ _ (by decide), u2_a _ _ _ _ (by decide)]; exact hR4) (by rw [u2_a _ _ _ _ (by decide), u2_a _ _ _ _ (by decide)]; exact hR) ?_
    have eo : ∀ x k, 12 < x → u2 (u2 I1 2 1 0) 1 8 0 x k = I1 x k := fun x k hx => by rw [u2_a _ _ _ _ (by omega), u2_a _ _ _ _ (by omega)]
    refine kO kd key pl m ns l h1 h2 (u2 (u2 I1 2 1 0) 1 8 0) J1 (fr_u _ (fr_u _ (fr_sub f1 (by intro x k; unfold aCr aCc; omega)) (by unfold aCc; omega)) (by unfold aCc; omega)) f2 (by rw [u2_a _ _ _ _ (by decide), u2_e]; rfl) (u2_e _ _ _ _) ?_
    obtain ⟨c1, c2, c3, c4, c5⟩ := h3
    refine ⟨⟨by rw [eo _ _ (by omega)]; exact c1.1, fun i x hx => by rw [eo _ _ (by omega), eo _ _ (by omega), eo _ _ (by omega)]; exact c1.2 i x hx⟩, CdL_of c2 (eo _ _ (by omega)) (by funext j; exact eo _ _ (by omega)), c3, c4, fun n hn hr => by rw [eo _ _ (by omega)]; exact c5 n hn hr⟩
end CCIRC
