/-! ===== P3: what is set free ===== -/
def sgw (x : Int32) : Prop := x = 33 ∨ x = 38 ∨ x = 40 ∨ x = 94 ∨ x = 124
theorem sgw_0 {x : Int32} (h : sgw x) (h2 : strg x < 1) : x = 40 := by
  rcases h with h | h | h | h | h <;> subst h
  · exact absurd h2 (by decide)
  · exact absurd h2 (by decide)
  · rfl
  · exact absurd h2 (by decide)
  · exact absurd h2 (by decide)
theorem dps_cons (a : Int32) (w : List Int32) : dps (a :: w) = (if a = 33 ∨ a = 40 then 1 else 0) + dps w := by
  unfold dps
  rw [List.filter_cons]
  by_cases h : a = 33 ∨ a = 40
  · rw [if_pos h, if_pos (by rcases h with h | h <;> rw [h] <;> decide), List.length_cons]; omega
  · rw [if_neg h, if_neg (fun z => h (by simpa using z))]; omega
theorem fre_len (s : Nat) : ∀ (w : List Int32) (dp : Nat), (fre s w dp).1.length + (fre s w dp).2.2.length = w.length
  | [], _ => rfl
  | a :: w, dp => by
    rw [fre]
    split
    · have := fre_len s w (if a = 33 then dp - 1 else dp)
      simp only [List.length_cons]
      omega
    · simp
theorem fre_dps (s : Nat) : ∀ (w : List Int32) (dp : Nat), dps w ≤ dp → dps (fre s w dp).1 ≤ (fre s w dp).2.1 ∧ (fre s w dp).2.1 ≤ dp
  | [], _, h => ⟨h, Nat.le_refl _⟩
  | a :: w, dp, h => by
    rw [fre]
    split
    · rw [dps_cons] at h
      have := fre_dps s w (if a = 33 then dp - 1 else dp) (by
        split
        · rename_i q; rw [if_pos (Or.inl q)] at h; omega
        · omega)
      refine ⟨this.1, Nat.le_trans this.2 ?_⟩
      split <;> omega
    · exact ⟨h, Nat.le_refl _⟩
theorem fre_mem (s : Nat) : ∀ (w : List Int32) (dp : Nat) (x : Int32), x ∈ (fre s w dp).1 → x ∈ w
  | [], _, x, h => h
  | a :: w, dp, x, h => by
    rw [fre] at h
    split at h
    · exact List.mem_cons_of_mem _ (fre_mem s w _ x h)
    · exact h
theorem fre_hd (s : Nat) : ∀ (w : List Int32) (dp : Nat) (a : Int32) (w' : List Int32), (fre s w dp).1 = a :: w' → strg a < s
  | [], _, a, w', h => by cases h
  | b :: w, dp, a, w', h => by
    rw [fre] at h
    split at h
    · exact fre_hd s w _ a w' h
    · rename_i q
      have : b = a := by cases h; rfl
      rw [← this]; omega
def cls (kd : Nat → Int32) : Nat → Nat → List Int32 → Nat → Nat × List Int32 × Nat × List Int32
  | 0, n, w, dp => (n, w, dp, [])
  | f + 1, n, w, dp => if kd n = 41 then (if (fre 1 w dp).1 = [] then (n, [], (fre 1 w dp).2.1, (fre 1 w dp).2.2) else ((cls kd f (n + 1) (fre 1 w dp).1.tail ((fre 1 w dp).2.1 - 1)).1, (cls kd f (n + 1) (fre 1 w dp).1.tail ((fre 1 w dp).2.1 - 1)).2.1, (cls kd f (n + 1) (fre 1 w dp).1.tail ((fre 1 w dp).2.1 - 1)).2.2.1, (fre 1 w dp).2.2 ++ (cls kd f (n + 1) (fre 1 w dp).1.tail ((fre 1 w dp).2.1 - 1)).2.2.2)) else (n, w, dp, [])
