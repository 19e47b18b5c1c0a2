/-! ===== P2: shortfall of the class ===== -/
theorem a64 {a : Nat} (h : a < 512) : ii a / 64 = ii (a / 64) ∧ ii a - ii a / 64 * 64 = ii (a % 64) := by
  have : ∀ a : Fin 512, ii a.val / 64 = ii (a.val / 64) ∧ ii a.val - ii a.val / 64 * 64 = ii (a.val % 64) := by decide +kernel
  exact this ⟨a, h⟩
theorem isInE {y : Int64} {a : Nat} (h : a < 512) : f_X0_isIn y (ii a) = bI (tb y (a % 64)) := by
  unfold f_X0_isIn bI
  rw [(a64 h).2]
  have ht := tb_test (x := y) (n := a % 64) (by omega)
  by_cases e : tb y (a % 64) = true
  · rw [if_pos e, if_neg (fun z => z (ht.2 e))]
  · rw [if_neg e, if_pos (fun z => e (ht.1 z))]
section SHF
variable {xs : Nat → Int32} {L d : Nat} {S : Nat → Shp} {I : Nat → Nat → Int32} {J : Nat → Nat → Int64} {R : Nat → Nat → Nat} {c : Nat × Nat} {Q : Option (Option Value) → MH → Prop} {V q gv a : Nat} {cs : List Cl} {kl : List Int32} {g : LeS}
theorem s_wrongTime {u : Nat} {x : Cl} (hL : Lay S R) (hq : R 13 1 = q) (hY : LyCm S R q) (hK : KCl I q cs gv kl g) (hI : KI 40 cs kl g) (ha : a < 512) (hx : cs[u]? = some x) (kt : ∀ t, x.2.2.2.2.1 ≤ t → t ≤ x.2.2.2.2.2 → wrg J (a / 64) t u x (a % 64) → (∀ t', x.2.2.2.2.1 ≤ t' → t' < t → ¬ wrg J (a / 64) t' u x (a % 64)) → Q (some (some (.int (ii t)))) (S, I, J, R, c)) (kn : (∀ t, x.2.2.2.2.1 ≤ t → t ≤ x.2.2.2.2.2 → ¬ wrg J (a / 64) t u x (a % 64)) → Q (some (some (.int (-2)))) (S, I, J, R, c)) : X xs L (d + 2) 22 0 [.ref 13, .int (ii u), .int (ii a), .null] [] (S, I, J, R, c) Q := by
  obtain ⟨kr, kg, k4, klt, kc, kv, kv9, kg0, kg24, kgl, kcl, kl2⟩ := hK
  obtain ⟨a1, a2, a3, a4, a5, a6, a7, a8⟩ := kr.2 u x hx
  obtain ⟨b1, -⟩ := hI.1 x (List.mem_of_getElem? hx)
  have hu : u < 48 := by have := (List.getElem?_eq_some_iff.1 hx).1; omega
  have hb : inb (ii u) 48 = true := ii_inb hu (by omega)
  have hw : a / 64 < 8 := by omega
  have hj : a % 64 < 64 := by omega
  refine b_X0_wrongTime_0 hL hq hY hb ?_
  rw [ii_nat (by omega), a5]
  have main : ∀ (f t : Nat), x.2.2.2.2.2 + 1 - t = f → x.2.2.2.2.1 ≤ t → t ≤ x.2.2.2.2.2 + 1 → (∀ t', x.2.2.2.2.1 ≤ t' → t' < t → ¬ wrg J (a / 64) t' u x (a % 64)) → X xs L (d + 2) 22 10 [.ref 13, .int (ii u), .int (ii a), .int (ii t)] [] (S, I, J, R, c) Q := by
    intro f
    induction f with
    | zero =>
      intro t g1 g2 g3 g4
      refine b_X0_wrongTime_10 hL hq hY hb (fun _ => b_X0_wrongTime_48 (kn (fun t' r1 r2 => g4 t' r1 (by omega)))) (fun z => ?_)
      rw [ii_nat (by omega), a6, ii_lt (by omega) (by omega)] at z; omega
    | succ f ih =>
      intro t g1 g2 g3 g4
      have hix : ix (a / 64) t x.1 < 3840 := by unfold ix; omega
      refine b_X0_wrongTime_10 hL hq hY hb (fun z => ?_) (fun _ => b_X0_wrongTime_23 hL ?_)
      · rw [ii_nat (by omega), a6, ii_lt (by omega) (by omega)] at z; omega
      rw [(a64 ha).1]
      refine s_X0_wrongLanes hL (by rw [crowE hw]; exact ii_inb (by omega) (by omega)) hq hY hb (by rw [ii_nat (by omega), a1, rowE hw (by omega), ii_add]; exact ii_inb hix (by omega)) (b_X0_wrongTime_33 (s_X0_isIn ?_))
      rw [isInE ha]
      have hwr := wrongE (I := I) (J := J) (q := q) hw hu (show t < 12 by omega) b1 a1 hj
      refine b_X0_wrongTime_37 (fun z => ?_) (fun z => b_X0_wrongTime_40 (kt t g2 (by omega) (hwr.1 ?_) g4))
      · rw [bI_0] at z
        refine b_X0_wrongTime_42 ?_
        rw [ii_add1]
        refine ih (t + 1) (by omega) (by omega) (by omega) (fun t' r1 r2 => ?_)
        by_cases e : t' = t
        · rw [e]; intro w; rw [hwr.2 w] at z; cases z
        · exact g4 t' r1 (by omega)
      · rw [bI_0, Bool.not_eq_false] at z; exact z
  exact main _ _ rfl (Nat.le_refl _) (by omega) (fun t' r1 r2 => by omega)
/-- the first clause and time that is not met in a lane -/
def fwr (J : Nat → Nat → Int64) (cs : List Cl) (gv a u t : Nat) (x : Cl) : Prop := gv ≤ u ∧ cs[u]? = some x ∧ x.2.2.2.2.1 ≤ t ∧ t ≤ x.2.2.2.2.2 ∧ wrg J (a / 64) t u x (a % 64) ∧ ∀ u' x' t', gv ≤ u' → cs[u']? = some x' → x'.2.2.2.2.1 ≤ t' → t' ≤ x'.2.2.2.2.2 → bfr u t u' t' → ¬ wrg J (a / 64) t' u' x' (a % 64)
theorem s_fwc (hL : Lay S R) (hq : R 13 1 = q) (hY : LyCm S R q) (hK : KCl I q cs gv kl g) (hI : KI 40 cs kl g) (ha : a < 512) (h24 : tb (J 24 (a / 64)) (a % 64) = true → ∃ u x t, gv ≤ u ∧ cs[u]? = some x ∧ x.2.2.2.2.1 ≤ t ∧ t ≤ x.2.2.2.2.2 ∧ wrg J (a / 64) t u x (a % 64)) (kt : ∀ u x t, tb (J 24 (a / 64)) (a % 64) = true → fwr J cs gv a u t x → Q (some (some (.int (ii (u - gv))))) (S, I, J, R, c)) (kn : tb (J 24 (a / 64)) (a % 64) = false → Q (some (some (.int (-2)))) (S, I, J, R, c)) : X xs L (d + 3) 20 0 [.ref 13, .int (ii a), .null, .null] [] (S, I, J, R, c) Q := by
  have hK' := hK
  obtain ⟨kr, kg, k4, klt, kc, kv, kv9, kg0, kg24, kgl, kcl, kl2⟩ := hK'
  have hw : a / 64 < 8 := by omega
  refine b_X0_firstWrongClause_0 hL (by rw [(a64 ha).1]; exact ii_inb hw (by omega)) ?_
  rw [(a64 ha).1, ii_nat (by omega)]
  refine s_X0_isIn ?_
  rw [isInE ha]
  refine b_X0_firstWrongClause_15 (fun z => ?_) (fun z => b_X0_firstWrongClause_18 (kn (bI_0.1 (Classical.not_not.1 z))))
  rw [bI_0, Bool.not_eq_false] at z
  refine b_X0_firstWrongClause_21 hL hq hY ?_
  rw [kg]
  have main : ∀ (f u : Nat), cs.length - u = f → gv ≤ u → u ≤ cs.length → (∀ u' x' t', gv ≤ u' → u' < u → cs[u']? = some x' → x'.2.2.2.2.1 ≤ t' → t' ≤ x'.2.2.2.2.2 → ¬ wrg J (a / 64) t' u' x' (a % 64)) → X xs L (d + 3) 20 29 [.ref 13, .int (ii a), .int (ii (a / 64)), .int (ii u)] [] (S, I, J, R, c) Q := by
    intro f
    induction f with
    | zero =>
      intro u g1 g2 g3 g4
      exfalso
      obtain ⟨u', x', t', r1, r2, r3, r4, r5⟩ := h24 z
      exact g4 u' x' t' r1 (by have := (List.getElem?_eq_some_iff.1 r2).1; omega) r2 r3 r4 r5
    | succ f ih =>
      intro u g1 g2 g3 g4
      have hu : u < cs.length := by omega
      have hx := ge_lt hu
      refine b_X0_firstWrongClause_29 hL hq hY (fun w => ?_) (fun _ => b_X0_firstWrongClause_40 hL ?_)
      · rw [kr.1, ii_le (by omega) (by omega)] at w; omega
      refine s_wrongTime hL hq hY hK hI ha hx (fun t r1 r2 r3 r4 => ?_) (fun hno => ?_)
      · have a8 := (kr.2 u _ hx).2.2.2.2.2.2.2
        refine b_X0_firstWrongClause_46 (fun w => absurd w (ii_n2 (by omega))) (fun _ => b_X0_firstWrongClause_51 hL hq hY ?_)
        rw [kg, ii_sub (by omega)]
        refine kt u _ t z ⟨g2, hx, r1, r2, r3, fun u' x' t' s1 s2 s3 s4 s5 => ?_⟩
        rcases s5 with s5 | ⟨s5, s6⟩
        · exact g4 u' x' t' s1 s5 s2 s3 s4
        · subst s5
          rw [hx] at s2
          cases s2
          exact r4 t' s3 s6
      · refine b_X0_firstWrongClause_46 (fun _ => b_X0_firstWrongClause_61 ?_) (fun w => absurd rfl w)
        rw [ii_add1]
        refine ih (u + 1) (by omega) (by omega) (by omega) (fun u' x' t' s1 s2 s3 s4 s5 => ?_)
        by_cases e : u' = u
        · subst e
          rw [hx] at s3
          cases s3
          exact hno t' s4 s5
        · exact g4 u' x' t' s1 (by omega) s3 s4 s5
  exact main _ gv rfl (Nat.le_refl _) (by omega) (fun u' x' t' s1 s2 => by omega)
theorem s_fwt (hL : Lay S R) (hq : R 13 1 = q) (hY : LyCm S R q) (hK : KCl I q cs gv kl g) (hI : KI 40 cs kl g) (ha : a < 512) (h24 : tb (J 24 (a / 64)) (a % 64) = true → ∃ u x t, gv ≤ u ∧ cs[u]? = some x ∧ x.2.2.2.2.1 ≤ t ∧ t ≤ x.2.2.2.2.2 ∧ wrg J (a / 64) t u x (a % 64)) (kt : ∀ u x t, tb (J 24 (a / 64)) (a % 64) = true → fwr J cs gv a u t x → Q (some (some (.int (ii t)))) (S, I, J, R, c)) (kn : tb (J 24 (a / 64)) (a % 64) = false → Q (some (some (.int (-2)))) (S, I, J, R, c)) : X xs L (d + 4) 21 0 [.ref 13, .int (ii a), .null] [] (S, I, J, R, c) Q := by
  have hK' := hK
  obtain ⟨kr, kg, k4, klt, kc, kv, kv9, kg0, kg24, kgl, kcl, kl2⟩ := hK'
  refine b_X0_firstWrongTime_0 hL (s_fwc hL hq hY hK hI ha h24 (fun u x t hz hf => ?_) (fun hz => b_X0_firstWrongTime_5 (fun z => absurd rfl z) (fun _ => b_X0_firstWrongTime_12 (b_X0_firstWrongTime_31 (kn hz)))))
  obtain ⟨f1, f2, f3, f4, f5, f6⟩ := hf
  have hu := (List.getElem?_eq_some_iff.1 f2).1
  refine b_X0_firstWrongTime_5 (fun _ => b_X0_firstWrongTime_17 hL hq hY ?_) (fun z => absurd (ii_n2 (by omega)) z)
  rw [kg, ii_add, show gv + (u - gv) = u by omega]
  refine s_wrongTime hL hq hY hK hI ha f2 (fun t' r1 r2 r3 r4 => b_X0_firstWrongTime_31 ?_) (fun hno => absurd f5 (hno t f3 f4))
  refine kt u x t' hz ⟨f1, f2, r1, r2, r3, fun u' x' s s1 s2 s3 s4 s5 => ?_⟩
  rcases s5 with s5 | ⟨s5, s6⟩
  · exact f6 u' x' s s1 s2 s3 s4 (Or.inl s5)
  · subst s5
    rw [f2] at s2
    cases s2
    exact r4 s s3 s6
end SHF
