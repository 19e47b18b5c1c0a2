/-! ===== P2: Check of the class: trajectories ===== -/
theorem or_zero (x : Int64) : x ||| 0 = x := tb_ext (fun j _ => by rw [tb_or, tb_0, Bool.or_false])
/-- the rails at a time -/
def rlv (J : Nat → Nat → Int64) (w t : Nat) (v : Nat) : Rl := (J 21 (ix w t v), J 22 (ix w t v))
def ownR (ns : List Nd) (l : List Int32) (J : Nat → Nat → Int64) (w t n : Nat) : Rl := match ns[n]? with
  | some x => if x.2.1 = 1 then foR (rlv J w t) (seg l x.2.2.2.1 x.2.2.2.2) else if x.2.1 = 2 ∧ 0 < t then foR (rlv J w (t - 1)) (seg l x.2.2.2.1 x.2.2.2.2) else (0, 0)
  | none => (0, 0)
/-- what a circuit of the class keeps to -/
def CW (ns : List Nd) (l : List Int32) : Prop := ns.length ≤ 40 ∧ l.length ≤ 2000 ∧ (∀ y ∈ l, lvP ns.length y) ∧ rgP ns l.length ∧ OKn ns l ∧ acy ns l
def aJj (x _k : Nat) : Prop := x = 15 ∨ x = 16 ∨ x = 21 ∨ x = 22
section CHK3
variable {xs : Nat → Int32} {L d : Nat} {S : Nat → Shp} {I : Nat → Nat → Int32} {J : Nat → Nat → Int64} {R : Nat → Nat → Nat} {c : Nat × Nat} {Q : Option (Option Value) → MH → Prop} {b w t n : Nat} {ns : List Nd} {l : List Int32}
theorem s_X0_joinOwn (hL : Lay S R) (hb0 : R 13 0 = b) (hY : LyCi S R b) (hb16 : 16 < b) (hC : CRd I J b ns) (hcl : CdL I (b + 5) l) (hW : CW ns l) (hw : w < 8) (ht : t < 12) (hn : n < ns.length) (k : ∀ I' J', fr aSt I I' → fr aJj J J' → (∀ i, J' 21 i = if i = ix w t n then J 21 i ||| (ownR ns l J w t n).1 else J 21 i) → (∀ i, J' 22 i = if i = ix w t n then J 22 i ||| (ownR ns l J w t n).2 else J 22 i) → Q (some none) (S, I', J', R, c)) : X xs L (d + 4) 10 0 [.ref 13, .int (ii n), .int (ii t), .int (ii w), .null, .null, .null] [] (S, I, J, R, c) Q := by
  obtain ⟨w1, w2, w3, w4, w5, w6⟩ := hW
  have hx := ge_lt hn
  have hcd := LyCd_ci hY
  obtain ⟨c1, c2, c3, c4⟩ := hC.2 n _ hx
  obtain ⟨r1, r2, r3⟩ := w4 _ (List.getElem_mem hn)
  obtain ⟨o1, o2⟩ := w5 _ (List.getElem_mem hn)
  have hb : inb (ii n) 40 = true := ii_inb (by omega) (by omega)
  have hown : ownR ns l J w t n = if ns[n].2.1 = 1 then foR (rlv J w t) (seg l ns[n].2.2.2.1 ns[n].2.2.2.2) else if ns[n].2.1 = 2 ∧ 0 < t then foR (rlv J w (t - 1)) (seg l ns[n].2.2.2.1 ns[n].2.2.2.2) else (0, 0) := by
    unfold ownR; rw [hx]
  have hnone : ownR ns l J w t n = (0, 0) → Q (some none) (S, I, J, R, c) := by
    intro e
    refine k I J (fr_refl _ _) (fr_refl _ _) (fun i => ?_) (fun i => ?_)
    · rw [e]; split
      · exact (or_zero _).symm
      · rfl
    · rw [e]; split
      · exact (or_zero _).symm
      · rfl
  have hix : ix w t n < 3840 := by unfold ix; omega
  have hrun : ∀ t', t' < 12 → ownR ns l J w t n = foR (rlv J w t') (seg l ns[n].2.2.2.1 ns[n].2.2.2.2) → X xs L (d + 4) 10 44 [.ref 13, .int (ii n), .int (ii t), .int (ii w), .int (ii ns[n].2.1), .null, .null] [.int (ii (480 * w + 40 * t'))] (S, I, J, R, c) Q := by
    intro t' ht' e
    refine b_X0_joinOwn_44 hL hb0 hY hb hb ?_
    rw [ii_nat (by omega), c3, c4]
    refine s_X7_run (base := 480 * w + 40 * t') (nl := ns.length) (n4 := 3840) (n5 := 3840) hL hcd (by omega) hcl w2 r1 r2 (ls_21 hL) (ls_22 hL) (by omega) (by omega) (by omega) (by omega) (by omega) (by omega) w3 o2 (fun I2 J2 f1 f2 q1 q2 => ?_)
    have hst : hdR ((seg l ns[n].2.2.2.1 ns[n].2.2.2.2).foldl (stg rz ro rng rjo (fun v => (J 21 (480 * w + 40 * t' + v), J 22 (480 * w + 40 * t' + v)))) []) = ownR ns l J w t n := by rw [e]; rfl
    refine b_X0_joinOwn_88 (s_X0_row ?_)
    rw [rowE hw (by omega)]
    have eat : ii (480 * w + 40 * t) + ii n = ii (ix w t n) := by rw [ii_add]; rfl
    refine b_X0_joinOwn_93 hL (by rw [eat]; exact ii_inb hix (by omega)) (s_ones hL q1 q2 ?_)
    rw [eat, ii_nat (by omega), hst]
    have hbi : inb (ii (ix w t n)) 3840 = true := ii_inb hix (by omega)
    refine b_X0_joinOwn_112 hL hbi hbi ?_
    rw [ii_nat (by omega)]
    have q1' : StkL I2 (u2 J2 21 (ix w t n) (J2 21 (ix w t n) ||| (ownR ns l J w t n).1)) ((seg l ns[n].2.2.2.1 ns[n].2.2.2.2).foldl (stg rz ro rng rjo (fun v => (J 21 (480 * w + 40 * t' + v), J 22 (480 * w + 40 * t' + v)))) []) := ⟨q1.1, fun i v hv => by rw [u2_a _ _ _ _ (by decide), u2_a _ _ _ _ (by decide)]; exact q1.2 i v hv⟩
    refine s_zeros hL q1' q2 ?_
    rw [hst]
    refine b_X0_joinOwn_129 hL hbi ?_
    rw [ii_nat (by omega)]
    have e21 : J2 21 = J 21 := fr_row f2 21 (by intro k; unfold aStj; omega)
    have e22 : J2 22 = J 22 := fr_row f2 22 (by intro k; unfold aStj; omega)
    refine k I2 _ f1 (fr_u _ (fr_u _ (fr_sub f2 (by intro x k; unfold aStj aJj; omega)) (by unfold aJj; omega)) (by unfold aJj; omega)) (fun i => ?_) (fun i => ?_)
    · rw [u2_a _ _ _ _ (by decide), u2_if, e21]
      by_cases z : i = ix w t n
      · rw [if_pos ⟨rfl, z⟩, if_pos z, z]
      · rw [if_neg (by omega), if_neg z]
    · rw [u2_if]
      by_cases z : i = ix w t n
      · rw [if_pos ⟨rfl, z⟩, if_pos z, z, e22]
      · rw [if_neg (by omega), if_neg z, u2_a _ _ _ _ (by decide), e22]
  refine b_X0_joinOwn_0 hL hb0 hY hb (fun z => ?_) (fun z => ?_)
  · rw [ii_nat (by omega), c2, ii_zero, ii_inj (by omega) (by omega)] at z
    refine b_X0_joinOwn_26 (hnone ?_)
    rw [hown, if_neg (by omega), if_neg (by omega)]
  · rw [ii_nat (by omega), c2, ii_zero, ii_inj (by omega) (by omega)] at z
    rw [ii_nat (by omega), c2]
    have k2 : ∀ {m : Nat}, (ii ns[n].2.1 = (2 : Int32) ↔ ns[n].2.1 = 2) := by
      intro m
      rw [show (2 : Int32) = ii 2 from rfl, ii_inj (by omega) (by omega)]
    have hgo : ¬ (ns[n].2.1 = 2 ∧ t = 0) → X xs L (d + 4) 10 27 [.ref 13, .int (ii n), .int (ii t), .int (ii w), .int (ii ns[n].2.1), .null, .null] [] (S, I, J, R, c) Q := by
      intro hq
      refine b_X0_joinOwn_27 (fun z2 => ?_) (fun z2 => ?_)
      · have hk1 : ns[n].2.1 = 1 := by
          have : ¬ ns[n].2.1 = 2 := fun e => z2 ((k2 (m := 0)).2 e)
          omega
        refine b_X0_joinOwn_40 (b_X0_joinOwn_41 (s_X0_row ?_))
        rw [rowE hw (by omega)]
        exact hrun t ht (by rw [hown, if_pos hk1])
      · have hk2 : ns[n].2.1 = 2 := (k2 (m := 0)).1 (Classical.not_not.1 z2)
        refine b_X0_joinOwn_34 (b_X0_joinOwn_41 ?_)
        rw [ii_one, ii_sub (by omega)]
        refine s_X0_row ?_
        rw [rowE hw (by omega)]
        exact hrun (t - 1) (by omega) (by rw [hown, if_neg (by omega), if_pos ⟨hk2, by omega⟩])
    refine b_X0_joinOwn_16 (fun z2 => hgo (fun e => z2 ((k2 (m := 0)).2 e.1))) (fun z2 => ?_)
    have hk2 : ns[n].2.1 = 2 := (k2 (m := 0)).1 (Classical.not_not.1 z2)
    refine b_X0_joinOwn_22 (fun z3 => hgo (fun e => z3 (by rw [e.2]; rfl))) (fun z3 => b_X0_joinOwn_26 (hnone ?_))
    have ht0 : t = 0 := by
      have := Classical.not_not.1 z3
      rw [ii_zero, ii_inj (by omega) (by omega)] at this; exact this
    rw [hown, if_neg (by omega), if_neg (by omega)]
/-- a value of a node's own rests on the rails of its leaves alone -/
theorem own_congr {J' : Nat → Nat → Int64} (hW : CW ns l) (hn : n < ns.length) (h1 : ∀ v, ndk ns n = 1 → adj ns l n v = true → J' 21 (ix w t v) = J 21 (ix w t v) ∧ J' 22 (ix w t v) = J 22 (ix w t v)) (h2 : ∀ v, ndk ns n = 2 → 0 < t → v < ns.length → J' 21 (ix w (t - 1) v) = J 21 (ix w (t - 1) v) ∧ J' 22 (ix w (t - 1) v) = J 22 (ix w (t - 1) v)) : ownR ns l J' w t n = ownR ns l J w t n := by
  obtain ⟨w1, w2, w3, w4, w5, w6⟩ := hW
  have hx := ge_lt hn
  obtain ⟨r1, r2, r3⟩ := w4 _ (List.getElem_mem hn)
  have hleaf : ∀ y ∈ seg l ns[n].2.2.2.1 ns[n].2.2.2.2, ¬ y < 0 → adj ns l n y.toNatClampNeg = true ∧ y.toNatClampNeg < ns.length := by
    intro y hy hny
    unfold seg at hy
    obtain ⟨p, hp, hpe⟩ := List.mem_iff_getElem.1 hy
    have hp2 : p < ns[n].2.2.2.2 - ns[n].2.2.2.1 := by rw [List.length_take] at hp; omega
    have hpe2 : l[ns[n].2.2.2.1 + p]? = some y := by
      rw [← hpe, List.getElem_take, List.getElem_drop, List.getElem?_eq_getElem (by omega)]
    rcases w3 y (List.mem_of_getElem? hpe2) with z | ⟨v, v1, v2⟩
    · exact absurd (cop_neg z) hny
    · rw [v2, ii_nat (by omega)]
      refine ⟨(adj_iff hx).2 ⟨v1, ns[n].2.2.2.1 + p, by omega, by omega, by rw [hpe2, v2]⟩, v1⟩
  have hk := ndk_at hx
  unfold ownR
  rw [hx]
  simp only
  by_cases e1 : ns[n].2.1 = 1
  · rw [if_pos e1, if_pos e1]
    unfold foR
    rw [fold_congr _ _ (fun y hy hny => ?_)]
    have := h1 y.toNatClampNeg (by omega) (hleaf y hy hny).1
    unfold rlv; rw [this.1, this.2]
  · rw [if_neg e1, if_neg e1]
    by_cases e2 : ns[n].2.1 = 2 ∧ 0 < t
    · rw [if_pos e2, if_pos e2]
      unfold foR
      rw [fold_congr _ _ (fun y hy hny => ?_)]
      have := h2 y.toNatClampNeg (by omega) e2.2 (hleaf y hy hny).2
      unfold rlv; rw [this.1, this.2]
    · rw [if_neg e2, if_neg e2]
end CHK3
