/-! ===== P3: the pure machine of takeFormula ===== -/
abbrev LeS : Type := Nat × List Int64
def isOp (x : Int32) : Bool := x == 124 || x == 94 || x == 38
def sy (kd : Nat → Int32) (lf : Nat → LeS → Option (Int32 × LeS)) : Nat → Bool → Nat → List Int32 → Nat → List Int32 → LeS → Bool × Nat × List Int32 × LeS
  | 0, _, n, _, _, l, g => (false, n, l, g)
  | f + 1, true, n, w, dp, l, g => if kd n = 33 ∨ kd n = 40 then (if 10 ≤ dp then (false, n, l, g) else sy kd lf f true (n + 1) (kd n :: w) (dp + 1) l g) else (match lf n g with
    | none => (false, n, l, g)
    | some (x, g') => sy kd lf f false (n + 1) w dp (l ++ [x]) g')
  | f + 1, false, n, w, dp, l, g => if kd n = 41 then (if (fre 1 w dp).1 = [] then (true, n, l ++ (fre 1 w dp).2.2, g) else sy kd lf f false (n + 1) (fre 1 w dp).1.tail ((fre 1 w dp).2.1 - 1) (l ++ (fre 1 w dp).2.2) g) else if isOp (kd n) = true then sy kd lf f true (n + 1) (kd n :: (fre (strg (kd n)) w dp).1) (fre (strg (kd n)) w dp).2.1 (l ++ (fre (strg (kd n)) w dp).2.2) g else (decide ((fre 1 w dp).1 = []), n, l ++ (fre 1 w dp).2.2, g)
def sy1 (kd : Nat → Int32) (lf : Nat → LeS → Option (Int32 × LeS)) (m : Nat) (b : Bool) (n : Nat) (w : List Int32) (dp : Nat) (l : List Int32) (g : LeS) : Bool × Nat × List Int32 × LeS := sy kd lf (m + 1 - n) b n w dp l g
theorem sy_o {kd : Nat → Int32} {lf : Nat → LeS → Option (Int32 × LeS)} {m n : Nat} {w : List Int32} {dp : Nat} {l : List Int32} {g : LeS} (h : n ≤ m) : sy1 kd lf m true n w dp l g = if kd n = 33 ∨ kd n = 40 then (if 10 ≤ dp then (false, n, l, g) else sy1 kd lf m true (n + 1) (kd n :: w) (dp + 1) l g) else (match lf n g with
    | none => (false, n, l, g)
    | some (x, g') => sy1 kd lf m false (n + 1) w dp (l ++ [x]) g') := by
  unfold sy1
  rw [show m + 1 - n = (m + 1 - (n + 1)) + 1 by omega, sy]
theorem sy_a {kd : Nat → Int32} {lf : Nat → LeS → Option (Int32 × LeS)} {m n : Nat} {w : List Int32} {dp : Nat} {l : List Int32} {g : LeS} (h : n ≤ m) : sy1 kd lf m false n w dp l g = if kd n = 41 then (if (fre 1 w dp).1 = [] then (true, n, l ++ (fre 1 w dp).2.2, g) else sy1 kd lf m false (n + 1) (fre 1 w dp).1.tail ((fre 1 w dp).2.1 - 1) (l ++ (fre 1 w dp).2.2) g) else if isOp (kd n) = true then sy1 kd lf m true (n + 1) (kd n :: (fre (strg (kd n)) w dp).1) (fre (strg (kd n)) w dp).2.1 (l ++ (fre (strg (kd n)) w dp).2.2) g else (decide ((fre 1 w dp).1 = []), n, l ++ (fre 1 w dp).2.2, g) := by
  unfold sy1
  rw [show m + 1 - n = (m + 1 - (n + 1)) + 1 by omega, sy]
theorem lt_of_kd {kd : Nat → Int32} {m n : Nat} (h0 : kd m = 0) (h : n ≤ m) (hk : ¬ kd n = 0) : n < m := by
  rcases Nat.lt_or_ge n m with q | q
  · exact q
  · have : n = m := by omega
    rw [this] at hk; exact absurd h0 hk
theorem opn_sy {kd : Nat → Int32} {lf : Nat → LeS → Option (Int32 × LeS)} {m : Nat} {l : List Int32} {g : LeS} (h0 : kd m = 0) : ∀ (f n : Nat) (w : List Int32) (dp : Nat), n ≤ m → 10 - dp < f → (sy1 kd lf m true n w dp l g = if (opn kd f n w dp).1 = true then sy1 kd lf m true (opn kd f n w dp).2.1 (opn kd f n w dp).2.2.1 (opn kd f n w dp).2.2.2 l g else (false, (opn kd f n w dp).2.1, l, g)) ∧ n ≤ (opn kd f n w dp).2.1 ∧ (opn kd f n w dp).2.1 ≤ m ∧ ((opn kd f n w dp).1 = true → ¬ (kd (opn kd f n w dp).2.1 = 33 ∨ kd (opn kd f n w dp).2.1 = 40))
  | 0, n, w, dp, h, hf => by omega
  | f + 1, n, w, dp, h, hf => by
    rw [opn]
    by_cases hk : kd n = 33 ∨ kd n = 40
    · have hn : n < m := lt_of_kd h0 h (by rcases hk with q | q <;> rw [q] <;> decide)
      rw [if_pos hk]
      by_cases hd : 10 ≤ dp
      · rw [if_pos hd, sy_o h, if_pos hk, if_pos hd]
        exact ⟨by simp, Nat.le_refl _, h, fun z => by cases z⟩
      · rw [if_neg hd, sy_o h, if_pos hk, if_neg hd]
        have := opn_sy (lf := lf) (l := l) (g := g) h0 f (n + 1) (kd n :: w) (dp + 1) hn (by omega)
        exact ⟨this.1, by have := this.2.1; omega, this.2.2.1, this.2.2.2⟩
    · rw [if_neg hk]
      exact ⟨by simp, Nat.le_refl _, h, fun _ => hk⟩
/-- the open brackets -/
def brs (w : List Int32) : Nat := (w.filter (fun a => a == 40)).length
theorem brs_cons (a : Int32) (w : List Int32) : brs (a :: w) = (if a = 40 then 1 else 0) + brs w := by
  unfold brs
  rw [List.filter_cons]
  by_cases h : a = 40
  · rw [if_pos h, if_pos (by rw [h]; decide), List.length_cons]; omega
  · rw [if_neg h, if_neg (fun z => h (by simpa using z))]; omega
theorem brs_dps (w : List Int32) : brs w ≤ dps w := by
  induction w with
  | nil => exact Nat.le_refl _
  | cons a w ih =>
    rw [brs_cons, dps_cons]
    split
    · rename_i h; rw [if_pos (Or.inr h)]; omega
    · omega
theorem fre_brs (s : Nat) : ∀ (w : List Int32) (dp : Nat), brs (fre s w dp).1 ≤ brs w
  | [], _ => Nat.le_refl _
  | a :: w, dp => by
    rw [fre]
    split
    · have := fre_brs s w (if a = 33 then dp - 1 else dp)
      rw [brs_cons]; simp only; omega
    · exact Nat.le_refl _
theorem cls_sy {kd : Nat → Int32} {lf : Nat → LeS → Option (Int32 × LeS)} {m : Nat} {g : LeS} (h0 : kd m = 0) : ∀ (f n : Nat) (w : List Int32) (dp : Nat) (l : List Int32), n ≤ m → brs w ≤ f → (∀ x ∈ w, sgw x) → (sy1 kd lf m false n w dp l g = sy1 kd lf m false (cls kd f n w dp).1 (cls kd f n w dp).2.1 (cls kd f n w dp).2.2.1 (l ++ (cls kd f n w dp).2.2.2) g) ∧ n ≤ (cls kd f n w dp).1 ∧ (cls kd f n w dp).1 ≤ m ∧ (∀ x ∈ (cls kd f n w dp).2.1, sgw x) ∧ (kd (cls kd f n w dp).1 = 41 → (fre 1 (cls kd f n w dp).2.1 (cls kd f n w dp).2.2.1).1 = [])
  | 0, n, w, dp, l, h, hf, hs => by
    rw [cls]
    refine ⟨by simp, Nat.le_refl _, h, hs, fun _ => ?_⟩
    show (fre 1 w dp).1 = []
    cases hq : (fre 1 w dp).1 with
    | nil => rfl
    | cons a w' =>
      have h1 := fre_hd 1 w dp a w' hq
      have h2 : a = 40 := sgw_0 (hs a (fre_mem 1 w dp a (by rw [hq]; exact List.mem_cons_self ..))) h1
      have h3 := fre_brs 1 w dp
      rw [hq, brs_cons, if_pos h2] at h3
      omega
  | f + 1, n, w, dp, l, h, hf, hs => by
    rw [cls]
    by_cases hk : kd n = 41
    · have hn : n < m := lt_of_kd h0 h (by rw [hk]; decide)
      rw [if_pos hk]
      by_cases hq : (fre 1 w dp).1 = []
      · rw [if_pos hq]
        refine ⟨?_, Nat.le_refl _, h, fun x hx => by simp at hx, fun _ => rfl⟩
        show _ = sy1 kd lf m false n [] (fre 1 w dp).2.1 (l ++ (fre 1 w dp).2.2) g
        rw [sy_a h, if_pos hk, if_pos hq, sy_a h, if_pos hk, if_pos (show (fre 1 [] (fre 1 w dp).2.1).1 = [] from rfl)]
        simp [fre]
      · rw [if_neg hq, sy_a h, if_pos hk, if_neg hq]
        cases hq2 : (fre 1 w dp).1 with
        | nil => exact absurd hq2 hq
        | cons a w' =>
          have h1 := fre_hd 1 w dp a w' hq2
          have h2 : a = 40 := sgw_0 (hs a (fre_mem 1 w dp a (by rw [hq2]; exact List.mem_cons_self ..))) h1
          have h3 := fre_brs 1 w dp
          rw [hq2, brs_cons, if_pos h2] at h3
          have := cls_sy (lf := lf) (g := g) h0 f (n + 1) w' ((fre 1 w dp).2.1 - 1) (l ++ (fre 1 w dp).2.2) hn (by omega) (fun x hx => hs x (fre_mem 1 w dp x (by rw [hq2]; exact List.mem_cons_of_mem _ hx)))
          simp only [List.tail_cons]
          refine ⟨?_, by have := this.2.1; omega, this.2.2.1, this.2.2.2.1, this.2.2.2.2⟩
          rw [this.1, List.append_assoc]
    · rw [if_neg hk]
      exact ⟨by simp, Nat.le_refl _, h, hs, fun z => absurd z hk⟩
