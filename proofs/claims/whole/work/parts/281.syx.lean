/-! ===== P3: steps of the pure machine, for a reader that goes down ===== -/
def wkl (lev : Nat) (w : List Int32) : Prop := ∀ a w', w = a :: w' → strg a < lev
def nop (lev : Nat) (x : Int32) : Prop := isOp x = true → strg x < lev
section SYX
variable {kd : Nat → Int32} {lf : Nat → LeS → Option (Int32 × LeS)} {m n dp : Nat} {w l : List Int32} {g : LeS} {a : Int32}
theorem fre_c {s : Nat} (h : s ≤ strg a) (h3 : ¬ a = 33) : fre s (a :: w) dp = ((fre s w dp).1, (fre s w dp).2.1, -a :: (fre s w dp).2.2) := by
  rw [fre, if_pos h, if_neg h3]
theorem fre_n {s : Nat} (h : s ≤ 4) : fre s (33 :: w) (dp + 1) = ((fre s w dp).1, (fre s w dp).2.1, -33 :: (fre s w dp).2.2) := by
  rw [fre, if_pos (by exact h), if_pos rfl]; rfl
theorem fre_w {s : Nat} (h : wkl s w) : fre s w dp = (w, dp, []) := by
  cases w with
  | nil => rfl
  | cons a w => rw [fre, if_neg (by have := h a w rfl; omega)]
theorem sy_not (h : n ≤ m) : sy1 kd lf m false n (33 :: w) (dp + 1) l g = sy1 kd lf m false n w dp (l ++ [-33]) g := by
  rw [sy_a h, sy_a h, fre_n (by omega), fre_n (s := strg (kd n)) (by have := strg_lt (kd n); omega)]
  simp only [List.append_assoc, List.singleton_append]
theorem sy_fop (h : n ≤ m) (ha : isOp a = true) (hk : isOp (kd n) = true → strg (kd n) ≤ strg a) : sy1 kd lf m false n (a :: w) dp l g = sy1 kd lf m false n w dp (l ++ [-a]) g := by
  have h3 : ¬ a = 33 := by intro q; rw [q] at ha; exact absurd ha (by decide)
  have h1 : 1 ≤ strg a := by rcases isOp_iff.1 ha with q | q | q <;> rw [q] <;> decide
  rw [sy_a h, sy_a h, fre_c h1 h3]
  by_cases h41 : kd n = 41
  · rw [if_pos h41, if_pos h41]
    simp only [List.append_assoc, List.singleton_append]
  · rw [if_neg h41, if_neg h41]
    by_cases ho : isOp (kd n) = true
    · rw [if_pos ho, if_pos ho, fre_c (hk ho) h3]
      simp only [List.append_assoc, List.singleton_append]
    · rw [if_neg ho, if_neg ho]
      simp only [List.append_assoc, List.singleton_append]
theorem sy_oop (h : n ≤ m) (ha : isOp a = true) (hk : kd n = a) (hw : wkl (strg a) w) : sy1 kd lf m false n w dp l g = sy1 kd lf m true (n + 1) (a :: w) dp l g := by
  rw [sy_a h, hk, if_neg (by intro q; rw [q] at ha; exact absurd ha (by decide)), if_pos ha, fre_w hw]
  simp
theorem wkl_40 : wkl 1 (40 :: w) := by intro a w' e; cases e; decide
theorem sy_cl (h : n ≤ m) (hk : kd n = 41) : sy1 kd lf m false n (40 :: w) (dp + 1) l g = sy1 kd lf m false (n + 1) w dp l g := by
  rw [sy_a h, if_pos hk, fre_w wkl_40, if_neg (by simp)]
  simp
theorem sy_bad (h : n ≤ m) (hk : ¬ kd n = 41) (ho : nop 1 (kd n)) : sy1 kd lf m false n (40 :: w) dp l g = (false, n, l, g) := by
  have ho2 : ¬ isOp (kd n) = true := by
    intro q
    have h1 := ho q
    rcases isOp_iff.1 q with z | z | z <;> rw [z] at h1 <;> exact absurd h1 (by decide)
  rw [sy_a h, if_neg hk, if_neg ho2, fre_w wkl_40]
  simp
theorem sy_end (h : n ≤ m) (ho : nop 1 (kd n)) : sy1 kd lf m false n [] dp l g = (true, n, l, g) := by
  have ho2 : ¬ isOp (kd n) = true := by
    intro q
    have h1 := ho q
    rcases isOp_iff.1 q with z | z | z <;> rw [z] at h1 <;> exact absurd h1 (by decide)
  rw [sy_a h, fre_nil]
  by_cases hk : kd n = 41
  · rw [if_pos hk, if_pos rfl]; simp
  · rw [if_neg hk, if_neg ho2]; simp
theorem wkl_mono {i j : Nat} (h : wkl i w) (hij : i ≤ j) : wkl j w := fun a w' e => by have := h a w' e; omega
theorem wkl_nil {i : Nat} : wkl i [] := fun a w' e => by cases e
theorem wkl_5 : wkl 5 w := fun a w' _ => strg_lt a
theorem wkl_c {i : Nat} (h : strg a < i) : wkl i (a :: w) := fun b w' e => by cases e; exact h
theorem nop_5 {x : Int32} : nop 5 x := fun _ => strg_lt x
end SYX
/-! ===== P3: a formula in the code and in the trees ===== -/
def lfx (x : Int32) : Prop := 0 ≤ x ∨ x = -48 ∨ x = -49
def bop (x : Int32) : Prop := x = -38 ∨ x = -94 ∨ x = -124
def tre (l : List Int32) (lt rt : Nat → Int32) : Nat → Nat → Nat → Prop
  | 0, _, _ => False
  | f + 1, s, t => ∃ x, l[t]? = some x ∧ ((lfx x ∧ s = t) ∨ (x = -33 ∧ ∃ u, t = u + 1 ∧ lt t = ii u ∧ tre l lt rt f s u) ∨ (bop x ∧ ∃ u q, t = u + 1 ∧ lt t = ii q ∧ rt t = ii u ∧ tre l lt rt f s q ∧ tre l lt rt f (q + 1) u))
theorem tre_mono {l : List Int32} {lt rt : Nat → Int32} : ∀ (f f' s t : Nat), f ≤ f' → tre l lt rt f s t → tre l lt rt f' s t
  | 0, _, _, _, _, h => absurd h (fun z => z)
  | f + 1, 0, _, _, hf, _ => by omega
  | f + 1, f' + 1, s, t, hf, h => by
    obtain ⟨x, hx, h⟩ := h
    refine ⟨x, hx, ?_⟩
    rcases h with h | ⟨h1, u, h2, h3, h4⟩ | ⟨h1, u, q, h2, h3, h4, h5, h6⟩
    · exact Or.inl h
    · exact Or.inr (Or.inl ⟨h1, u, h2, h3, tre_mono f f' s u (by omega) h4⟩)
    · exact Or.inr (Or.inr ⟨h1, u, q, h2, h3, h4, tre_mono f f' s q (by omega) h5, tre_mono f f' (q + 1) u (by omega) h6⟩)
theorem tre_lt {l : List Int32} {lt rt : Nat → Int32} : ∀ (f s t : Nat), tre l lt rt f s t → s ≤ t ∧ t < l.length
  | 0, _, _, h => absurd h (fun z => z)
  | f + 1, s, t, h => by
    obtain ⟨x, hx, h⟩ := h
    have h0 : t < l.length := (List.getElem?_eq_some_iff.1 hx).1
    refine ⟨?_, h0⟩
    rcases h with h | ⟨h1, u, h2, h3, h4⟩ | ⟨h1, u, q, h2, h3, h4, h5, h6⟩
    · rw [h.2]; exact Nat.le_refl _
    · have := (tre_lt f s u h4).1; omega
    · have := (tre_lt f s q h5).1; have := (tre_lt f (q + 1) u h6).1; omega
theorem tre_ext {l l' : List Int32} {lt rt lt' rt' : Nat → Int32} : ∀ (f s t : Nat), (∀ i, i ≤ t → l'[i]? = l[i]?) → (∀ i, i ≤ t → lt' i = lt i ∧ rt' i = rt i) → tre l lt rt f s t → tre l' lt' rt' f s t
  | 0, _, _, _, _, h => absurd h (fun z => z)
  | f + 1, s, t, h1, h2, h => by
    obtain ⟨x, hx, h⟩ := h
    refine ⟨x, by rw [h1 t (Nat.le_refl _)]; exact hx, ?_⟩
    rcases h with h | ⟨g1, u, g2, g3, g4⟩ | ⟨g1, u, q, g2, g3, g4, g5, g6⟩
    · exact Or.inl h
    · exact Or.inr (Or.inl ⟨g1, u, g2, by rw [(h2 t (Nat.le_refl _)).1]; exact g3, tre_ext f s u (fun i hi => h1 i (by omega)) (fun i hi => h2 i (by omega)) g4⟩)
    · have hq := (tre_lt f (q + 1) u g6).1
      exact Or.inr (Or.inr ⟨g1, u, q, g2, by rw [(h2 t (Nat.le_refl _)).1]; exact g3, by rw [(h2 t (Nat.le_refl _)).2]; exact g4, tre_ext f s q (fun i hi => h1 i (by omega)) (fun i hi => h2 i (by omega)) g5, tre_ext f (q + 1) u (fun i hi => h1 i (by omega)) (fun i hi => h2 i (by omega)) g6⟩)
