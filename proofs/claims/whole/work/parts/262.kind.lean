/-! ===== P2: switches, kindOf ===== -/
theorem xnB_lk {pc : Nat} {df : Int} {ps : Array (Int × Int)} {x : Int32} {st : List Value} {g : Nat} (hs : (ps.toList.zip (ps.toList.drop 1)).all (fun (a, next) => a.1 < next.1) = true) (hg : tg pc (Op.lookupswitch.offset ps.toList df x.toInt) = some g) : xnB pc (.lookupswitch df ps) (.int x :: st) = some (g, st) := by
  show (if _ then _ else _) = _
  rw [if_pos hs, hg]; rfl
theorem ne_int {x y : Int32} (h : ¬ x = y) : ¬ y.toInt = x.toInt := fun q => h (Int32.toInt_inj.1 q.symm)
def sgn (x : Int32) : Bool := x == 33 || x == 38 || x == 40 || x == 41 || x == 44 || x == 46 || x == 59 || x == 61 || x == 94 || x == 124
def f_X9_kindOf (x0 : Int32) : Int32 := if f_X9_isSmall x0 = 0 then (if f_X9_isCapital x0 = 0 then (if f_X9_isDigit x0 = 0 then (if sgn x0 = true then x0 else 1) else 5) else 4) else 2
theorem s_X9_kindOf {xs : Nat → Int32} {L d : Nat} {S : Nat → Shp} {I : Nat → Nat → Int32} {J : Nat → Nat → Int64} {R : Nat → Nat → Nat} {c : Nat × Nat} {Q : Option (Option Value) → MH → Prop} {x0 : Int32} (k : Q (some (some (.int (f_X9_kindOf x0)))) (S, I, J, R, c)) : X xs L (d + 1) 87 0 [.int x0] [] (S, I, J, R, c) Q := by
  unfold f_X9_kindOf at k
  refine b_X9_kindOf_0 (s_X9_isSmall ?_)
  refine b_X9_kindOf_4 (fun h1 => ?_) (fun h1 => ?_)
  · rw [if_pos h1] at k
    refine b_X9_kindOf_9 (s_X9_isCapital ?_)
    refine b_X9_kindOf_13 (fun h2 => ?_) (fun h2 => ?_)
    · rw [if_pos h2] at k
      refine b_X9_kindOf_18 (s_X9_isDigit ?_)
      refine b_X9_kindOf_22 (fun h3 => ?_) (fun h3 => ?_)
      · rw [if_pos h3] at k
        by_cases hs : sgn x0 = true
        · rw [if_pos hs] at k
          refine b_X9_kindOf_27 (tgt := 120) (xnB_lk rfl ?_) (b_X9_kindOf_120 k)
          simp only [sgn, Bool.or_eq_true, beq_iff_eq] at hs
          clear k h1 h2 h3
          rcases hs with ((((((((h | h) | h) | h) | h) | h) | h) | h) | h) | h <;> subst h <;> rfl
        · rw [if_neg hs] at k
          refine b_X9_kindOf_27 (tgt := 122) (xnB_lk rfl ?_) (b_X9_kindOf_122 k)
          simp only [sgn, Bool.or_eq_true, beq_iff_eq, not_or] at hs
          obtain ⟨⟨⟨⟨⟨⟨⟨⟨⟨a1, a2⟩, a3⟩, a4⟩, a5⟩, a6⟩, a7⟩, a8⟩, a9⟩, a10⟩ := hs
          show tg 28 (Op.lookupswitch.offset [(33, 92), (38, 92), (40, 92), (41, 92), (44, 92), (46, 92), (59, 92), (61, 92), (94, 92), (124, 92)] 94 x0.toInt) = some 122
          simp only [Op.lookupswitch.offset_cons, Op.lookupswitch.offset_nil]
          rw [if_neg (show ¬ (33 : Int) = x0.toInt from ne_int a1), if_neg (show ¬ (38 : Int) = x0.toInt from ne_int a2), if_neg (show ¬ (40 : Int) = x0.toInt from ne_int a3), if_neg (show ¬ (41 : Int) = x0.toInt from ne_int a4), if_neg (show ¬ (44 : Int) = x0.toInt from ne_int a5), if_neg (show ¬ (46 : Int) = x0.toInt from ne_int a6), if_neg (show ¬ (59 : Int) = x0.toInt from ne_int a7), if_neg (show ¬ (61 : Int) = x0.toInt from ne_int a8), if_neg (show ¬ (94 : Int) = x0.toInt from ne_int a9), if_neg (show ¬ (124 : Int) = x0.toInt from ne_int a10)]
          rfl
      · rw [if_neg h3] at k
        exact b_X9_kindOf_25 k
    · rw [if_neg h2] at k
      exact b_X9_kindOf_16 k
  · rw [if_neg h1] at k
    exact b_X9_kindOf_7 k
