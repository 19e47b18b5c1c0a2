/-! ===== P3: what waits is short ===== -/
def srt : List Int32 → Prop
  | [] => True
  | a :: w => (∀ b w', w = b :: w' → strg b < strg a ∨ a = 33 ∨ a = 40) ∧ srt w
theorem srt_len : ∀ (w : List Int32), (∀ x ∈ w, sgw x) → srt w → w.length ≤ 4 * dps w + 3 ∧ (∀ a w', w = a :: w' → (a = 33 ∨ a = 40 → w.length ≤ 4 * dps w) ∧ (¬ (a = 33 ∨ a = 40) → w.length ≤ 4 * dps w + strg a))
  | [], _, _ => ⟨by simp, fun a w' h => by cases h⟩
  | a :: w, hs, h => by
    have ih := srt_len w (fun x hx => hs x (List.mem_cons_of_mem _ hx)) h.2
    have ha := hs a (List.mem_cons_self ..)
    have hd : (a = 33 ∨ a = 40 → (a :: w).length ≤ 4 * dps (a :: w)) ∧ (¬ (a = 33 ∨ a = 40) → (a :: w).length ≤ 4 * dps (a :: w) + strg a) := by
      refine ⟨fun q => ?_, fun q => ?_⟩
      · rw [dps_cons, if_pos q, List.length_cons]; omega
      · rw [dps_cons, if_neg q, List.length_cons]
        have h1 : 1 ≤ strg a := by
          rcases ha with r | r | r | r | r <;> subst r <;> first | exact absurd (Or.inl rfl) q | exact absurd (Or.inr rfl) q | decide
        cases w with
        | nil => simp; omega
        | cons b w' =>
          have h2 := ih.2 b w' rfl
          have h3 := h.1 b w' rfl
          by_cases hb : b = 33 ∨ b = 40
          · have := h2.1 hb; omega
          · have := h2.2 hb
            rcases h3 with h3 | h3
            · omega
            · exact absurd h3 q
    have h5 := strg_lt a
    refine ⟨?_, fun b w' e => by cases e; exact hd⟩
    by_cases q : a = 33 ∨ a = 40
    · have := hd.1 q; omega
    · have := hd.2 q
      have : strg a ≤ 3 := by
        rcases ha with r | r | r | r | r <;> subst r <;> first | exact absurd (Or.inl rfl) q | exact absurd (Or.inr rfl) q | decide
      omega
/-- what waits, and the depth -/
def WI (w : List Int32) (dp : Nat) : Prop := (∀ x ∈ w, sgw x) ∧ dps w ≤ dp ∧ dp ≤ 10 ∧ srt w
theorem WI_nil : WI [] 0 := ⟨fun x hx => by simp at hx, Nat.le_refl _, by omega, trivial⟩
theorem WI_len {w : List Int32} {dp : Nat} (h : WI w dp) : w.length ≤ 43 := by
  have := (srt_len w h.1 h.2.2.2).1
  have := h.2.1
  have := h.2.2.1
  omega
theorem fre_srt (s : Nat) : ∀ (w : List Int32) (dp : Nat), srt w → srt (fre s w dp).1
  | [], _, _ => trivial
  | a :: w, dp, h => by
    rw [fre]
    split
    · exact fre_srt s w _ h.2
    · exact h
theorem WI_fre {s : Nat} {w : List Int32} {dp : Nat} (h : WI w dp) : WI (fre s w dp).1 (fre s w dp).2.1 :=
  ⟨fun x hx => h.1 x (fre_mem s w dp x hx), (fre_dps s w dp h.2.1).1, Nat.le_trans (fre_dps s w dp h.2.1).2 h.2.2.1, fre_srt s w dp h.2.2.2⟩
theorem WI_op {w : List Int32} {dp : Nat} {a : Int32} (h : WI w dp) (ha : isOp a = true) : WI (a :: (fre (strg a) w dp).1) (fre (strg a) w dp).2.1 := by
  have h2 := WI_fre (s := strg a) h
  have hq : (a = 124 ∨ a = 94) ∨ a = 38 := by simpa [isOp] using ha
  have hn : ¬ (a = 33 ∨ a = 40) := by rcases hq with (q | q) | q <;> rw [q] <;> decide
  refine ⟨fun x hx => ?_, ?_, h2.2.2.1, ?_, h2.2.2.2⟩
  · rcases List.mem_cons.1 hx with r | r
    · subst r
      rcases hq with (q | q) | q <;> subst q
      · exact Or.inr (Or.inr (Or.inr (Or.inr rfl)))
      · exact Or.inr (Or.inr (Or.inr (Or.inl rfl)))
      · exact Or.inr (Or.inl rfl)
    · exact h2.1 x r
  · rw [dps_cons, if_neg hn]; have := h2.2.1; omega
  · intro b w' e
    exact Or.inl (fre_hd (strg a) w dp b w' e)
theorem opn_inv {kd : Nat → Int32} : ∀ (f n : Nat) (w : List Int32) (dp : Nat), WI w dp → WI (opn kd f n w dp).2.2.1 (opn kd f n w dp).2.2.2 ∧ (opn kd f n w dp).2.2.1.length + n = w.length + (opn kd f n w dp).2.1
  | 0, n, w, dp, h => ⟨h, rfl⟩
  | f + 1, n, w, dp, h => by
    rw [opn]
    by_cases hk : kd n = 33 ∨ kd n = 40
    · rw [if_pos hk]
      by_cases hd : 10 ≤ dp
      · rw [if_pos hd]; exact ⟨h, rfl⟩
      · rw [if_neg hd]
        have := opn_inv (kd := kd) f (n + 1) (kd n :: w) (dp + 1) ⟨fun x hx => ?_, ?_, by omega, fun b w' e => Or.inr hk, h.2.2.2⟩
        · exact ⟨this.1, by have := this.2; rw [List.length_cons] at this; omega⟩
        · rcases List.mem_cons.1 hx with r | r
          · rcases hk with q | q <;> rw [r, q]
            · exact Or.inl rfl
            · exact Or.inr (Or.inr (Or.inl rfl))
          · exact h.1 x r
        · rw [dps_cons, if_pos hk]; have := h.2.1; omega
    · rw [if_neg hk]; exact ⟨h, rfl⟩
theorem cls_inv {kd : Nat → Int32} : ∀ (f n : Nat) (w : List Int32) (dp : Nat), WI w dp → WI (cls kd f n w dp).2.1 (cls kd f n w dp).2.2.1 ∧ (cls kd f n w dp).2.1.length + (cls kd f n w dp).2.2.2.length ≤ w.length ∧ n ≤ (cls kd f n w dp).1
  | 0, n, w, dp, h => ⟨h, by simp [cls], Nat.le_refl _⟩
  | f + 1, n, w, dp, h => by
    rw [cls]
    have h2 := WI_fre (s := 1) h
    have h3 := fre_len 1 w dp
    by_cases hk : kd n = 41
    · rw [if_pos hk]
      by_cases hq : (fre 1 w dp).1 = []
      · rw [if_pos hq]
        refine ⟨⟨fun x hx => by simp at hx, by simp [dps], h2.2.2.1, trivial⟩, ?_, Nat.le_refl _⟩
        simp; omega
      · rw [if_neg hq]
        cases hq2 : (fre 1 w dp).1 with
        | nil => exact absurd hq2 hq
        | cons a w' =>
          rw [hq2] at h2 h3
          have h1 := fre_hd 1 w dp a w' hq2
          have ha : a = 40 := sgw_0 (h2.1 a (List.mem_cons_self ..)) h1
          have hd := h2.2.1
          rw [dps_cons, if_pos (Or.inr ha)] at hd
          have := cls_inv (kd := kd) f (n + 1) w' ((fre 1 w dp).2.1 - 1) ⟨fun x hx => h2.1 x (List.mem_cons_of_mem _ hx), by omega, by have := h2.2.2.1; omega, h2.2.2.2.2⟩
          simp only [List.tail_cons]
          refine ⟨this.1, ?_, by have := this.2.2; omega⟩
          rw [List.length_append]
          have := this.2.1
          rw [List.length_cons] at h3
          omega
    · rw [if_neg hk]; exact ⟨h, by simp, Nat.le_refl _⟩
theorem brs_le {w : List Int32} {dp : Nat} (h : WI w dp) : brs w ≤ 10 := Nat.le_trans (brs_dps w) (Nat.le_trans h.2.1 h.2.2.1)
theorem fre_nil (s dp : Nat) : fre s [] dp = ([], dp, []) := rfl
theorem isOp_iff {x : Int32} : isOp x = true ↔ (x = 124 ∨ x = 94 ∨ x = 38) := by
  unfold isOp
  simp only [Bool.or_eq_true, beq_iff_eq, or_assoc]
