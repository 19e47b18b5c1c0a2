/-! ===== P2: names in lists; variable of the class ===== -/
def ixl (key : Int64) : List Int64 → Option Nat
  | [] => none
  | x :: l => if x = key then some 0 else (ixl key l).map (· + 1)
/-- the longs of an array from 0 on -/
def NL (J : Nat → Nat → Int64) (a : Nat) (l : List Int64) : Prop := ∀ i x, l[i]? = some x → J a i = x
theorem NL_add {J : Nat → Nat → Int64} {a n : Nat} {l : List Int64} {x : Int64} (h : NL J a l) (hn : n = l.length) : NL (u2 J a n x) a (l ++ [x]) := by
  intro i y hy
  rw [List.getElem?_append] at hy
  split at hy
  · rename_i hi
    rw [u2_k _ _ _ _ (by omega)]; exact h i y hy
  · rename_i hi
    have h2 : i - l.length = 0 := by
      by_cases q : i - l.length = 0
      · exact q
      · rw [List.getElem?_cons, if_neg q] at hy; simp at hy
    have h3 : i = n := by omega
    rw [h2] at hy
    have : x = y := by simpa using hy
    rw [h3, u2_e, this]
theorem ixl_drop (key : Int64) (l : List Int64) (i : Nat) (h : i < l.length) : (ixl key (l.drop i)).map (· + i) = if l[i] = key then some i else (ixl key (l.drop (i + 1))).map (· + (i + 1)) := by
  rw [List.drop_eq_getElem_cons h, ixl]
  split
  · simp
  · rw [Option.map_map]
    congr 1
    funext j
    show j + 1 + i = j + (i + 1)
    omega
theorem s_X3_variable {xs : Nat → Int32} {L d : Nat} {S : Nat → Shp} {I : Nat → Nat → Int32} {J : Nat → Nat → Int64} {R : Nat → Nat → Nat} {c : Nat × Nat} {Q : Option (Option Value) → MH → Prop} {r : Nat} {y : Int64} {vs : List Int64} (hr : LyCm S R r) (hn : I r 0 = ii vs.length) (hv : NL J (r + 1) vs) (hv2 : vs.length ≤ 9) (k1 : ∀ v, ixl y vs = some v → Q (some (some (.int (ii v)))) (S, I, J, R, c)) (k2 : ixl y vs = none → vs.length < 9 → Q (some (some (.int (ii vs.length)))) (S, u2 I r 0 (ii (vs.length + 1)), u2 J (r + 1) vs.length y, R, c)) (k3 : ixl y vs = none → ¬ vs.length < 9 → Q (some (some (.int (-2)))) (S, I, J, R, c)) : X xs L d 47 0 [.ref r, .long y, .null, .null] [] (S, I, J, R, c) Q := by
  refine b_X3_variable_0 ?_
  have main : ∀ (f i : Nat), vs.length - i = f → i ≤ vs.length → ixl y vs = (ixl y (vs.drop i)).map (· + i) → X xs L d 47 2 [.ref r, .long y, .null, .int (ii i)] [] (S, I, J, R, c) Q := by
    intro f
    induction f with
    | zero =>
      intro i h1 h2 h3
      have hno : ixl y vs = none := by rw [h3, List.drop_eq_nil_of_le (by omega)]; rfl
      refine b_X3_variable_2 hr (fun _ => ?_) (fun z => ?_)
      · refine b_X3_variable_29 hr (fun z => ?_) (fun z => b_X3_variable_38 (k3 hno (fun q => z ?_)))
        · rw [hn] at z
          have z' := (ii_lt (m := 9) (by omega) (by omega)).1 z
          refine b_X3_variable_41 hr (by rw [hn]; exact ii_inb z' (by omega)) ?_
          rw [hn, ii_nat (by omega), ii_add1, ii_one, ii_sub (by omega), Nat.add_sub_cancel]
          exact k2 hno z'
        · rw [hn]; exact (ii_lt (m := 9) (by omega) (by omega)).2 q
      · rw [hn, ii_le (by omega) (by omega)] at z; omega
    | succ f ih =>
      intro i h1 h2 h3
      have hi : i < vs.length := by omega
      refine b_X3_variable_2 hr (fun z => ?_) (fun _ => ?_)
      · rw [hn, ii_le (by omega) (by omega)] at z; omega
      have e : J (r + 1) i = vs[i] := hv i _ (List.getElem?_eq_getElem hi)
      rw [ixl_drop y vs i hi] at h3
      refine b_X3_variable_10 hr (ii_inb (by omega) (by omega)) (fun z => ?_) (fun z => ?_)
      · rw [ii_nat (by omega), e, lgc] at z
        rw [if_neg z] at h3
        refine b_X3_variable_23 ?_
        rw [ii_add1]
        exact ih (i + 1) (by omega) (by omega) h3
      · rw [ii_nat (by omega), e, lgc] at z
        rw [if_pos (Classical.not_not.1 z)] at h3
        exact b_X3_variable_21 (k1 i h3)
  exact main vs.length 0 rfl (by omega) (by simp)
