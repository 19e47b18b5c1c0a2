/-! ===== pigeons (pasted from kit/laws/COUNTS.to-paste) ===== -/
theorem fb_holes : ∀ (m n : Nat) (f : Nat → Nat), (∀ i, i < n → f i < m) → (∀ i j, i < j → j < n → f i ≠ f j) → n ≤ m := by
  intro m
  induction m with
  | zero =>
    intro n f h1 _
    rcases Nat.eq_zero_or_pos n with h | h
    · omega
    · exact absurd (h1 0 h) (Nat.not_lt_zero _)
  | succ m ih =>
    intro n f h1 h2
    by_cases hx : ∃ i, i < n ∧ f i = m
    · obtain ⟨a, ha, hfa⟩ := hx
      have hg := ih (n - 1) (fun i => if i < a then f i else f (i + 1)) (by
        intro i hi
        by_cases q : i < a
        · simp only [if_pos q]
          have b1 := h1 i (by omega)
          have b2 := h2 i a q ha
          omega
        · simp only [if_neg q]
          have b1 := h1 (i + 1) (by omega)
          have b2 := h2 a (i + 1) (by omega) (by omega)
          omega) (by
        intro i j hij hj
        by_cases q : i < a
        · by_cases r : j < a
          · simp only [if_pos q, if_pos r]
            exact h2 i j hij (by omega)
          · simp only [if_pos q, if_neg r]
            exact h2 i (j + 1) (by omega) (by omega)
        · have r : ¬ j < a := by omega
          simp only [if_neg q, if_neg r]
          exact h2 (i + 1) (j + 1) (by omega) (by omega))
      omega
    · have hg := ih n f (fun i hi => by
        have b1 := h1 i hi
        have b2 : f i ≠ m := fun e => hx ⟨i, hi, e⟩
        omega) h2
      omega
theorem fb_twice {m n : Nat} {f : Nat → Nat} (h : ∀ i, i < n → f i < m) (hm : m < n) : ∃ i j, i < j ∧ j < n ∧ f i = f j := by
  refine Classical.byContradiction fun hx => ?_
  have := fb_holes m n f h (fun i j hij hj e => hx ⟨i, j, hij, hj, e⟩)
  omega
theorem fb_onto {n : Nat} {f : Nat → Nat} (h : ∀ i, i < n → f i < n) (h2 : ∀ i j, i < j → j < n → f i ≠ f j) {y : Nat} (hy : y < n) : ∃ i, i < n ∧ f i = y := by
  refine Classical.byContradiction fun hx => ?_
  have hne : ∀ i, i < n → f i ≠ y := fun i hi e => hx ⟨i, hi, e⟩
  have := fb_holes (n - 1) n (fun i => if f i < y then f i else f i - 1) (by
    intro i hi
    have b1 := h i hi
    have b2 := hne i hi
    by_cases q : f i < y
    · simp only [if_pos q]; omega
    · simp only [if_neg q]; omega) (by
    intro i j hij hj
    have b1 := hne i (by omega)
    have b2 := hne j hj
    have b3 := h2 i j hij hj
    by_cases q : f i < y
    · by_cases r : f j < y
      · simp only [if_pos q, if_pos r]; exact b3
      · simp only [if_pos q, if_neg r]; omega
    · by_cases r : f j < y
      · simp only [if_neg q, if_pos r]; omega
      · simp only [if_neg q, if_neg r]; omega)
  omega
/-! ===== how many places have a property ===== -/
/-! ===== P3: the order of the nodes ===== -/
section ORD
variable {ns : List Nd} {l : List Int32}
theorem ct_lt {p q : Nat → Bool} {n k : Nat} (hk : k < n) (h : ∀ i, i < n → p i = true → q i = true) (h1 : q k = true) (h2 : p k = false) : fb_ct p n < fb_ct q n := by
  have e := fb_ct_upd p true (i := k) (n := n) hk
  rw [h2] at e
  have e : fb_ct (fun i => if i = k then true else p i) n = fb_ct p n + 1 := by simpa using e
  have : fb_ct (fun i => if i = k then true else p i) n ≤ fb_ct q n := fb_ct_sub (fun i hi hq => by
    by_cases z : i = k
    · rw [z]; exact h1
    · rw [if_neg z] at hq; exact h i hi hq)
  omega
/-- no wire depends on itself by wires alone -/
def acy (ns : List Nd) (l : List Int32) : Prop := ∀ i, i < ns.length → wsh (wadj ns l) ns.length i i = false
theorem wadj_iff {a b : Nat} : wadj ns l a b = true ↔ (adj ns l a b = true ∧ ndk ns a = 1 ∧ ndk ns b = 1) := by
  unfold wadj; simp [and_assoc]
theorem wsh_w {i j : Nat} : wsh (wadj ns l) ns.length i j = true ↔ Relation.TransGen (fun a b => wadj ns l a b = true) i j := wsh_iff _ _ (fun a b h => adj_lt (wadj_iff.1 h).1) i j
theorem tg_lt {i j : Nat} (h : Relation.TransGen (fun a b => wadj ns l a b = true) i j) : j < ns.length := by
  cases h with
  | single h => exact adj_lt (wadj_iff.1 h).1
  | tail _ h => exact adj_lt (wadj_iff.1 h).1
theorem rnk_lt {n m : Nat} (ha : acy ns l) (hN : ns.length ≤ 40) (hk : ndk ns n = 1) (h : adj ns l n m = true) : rnk ns l m < rnk ns l n := by
  have hm := adj_lt h
  unfold rnk
  rw [if_pos hk]
  by_cases hm1 : ndk ns m = 1
  · rw [if_pos hm1]
    have hw : wadj ns l n m = true := wadj_iff.2 ⟨h, hk, hm1⟩
    have := ct_lt (p := fun j => wsh (wadj ns l) ns.length m j) (q := fun j => wsh (wadj ns l) ns.length n j) (n := 64) (k := m) (by omega) (fun i _ q => by
      rw [wsh_w] at q ⊢
      exact Relation.TransGen.trans (Relation.TransGen.single hw) q) (by rw [wsh_w]; exact Relation.TransGen.single hw) (ha m hm)
    omega
  · rw [if_neg hm1]; omega
theorem rnk_le {n : Nat} (ha : acy ns l) (hN : ns.length ≤ 40) (hn : n < ns.length) : rnk ns l n ≤ ns.length := by
  unfold rnk
  split
  · have hsp := fb_ct_split (fun j => wsh (wadj ns l) ns.length n j) ns.length (64 - ns.length)
    rw [show ns.length + (64 - ns.length) = 64 by omega] at hsp
    have hz : fb_ct (fun k => wsh (wadj ns l) ns.length n (ns.length + k)) (64 - ns.length) = 0 := fb_ct_zero.2 (fun k _ => by
      cases q : wsh (wadj ns l) ns.length n (ns.length + k) with
      | false => rfl
      | true => have := tg_lt (wsh_w.1 q); omega)
    have hlt := ct_lt (p := fun j => wsh (wadj ns l) ns.length n j) (q := fun _ => true) (n := ns.length) (k := n) hn (fun _ _ _ => rfl) rfl (ha n hn)
    have hle := fb_ct_le (fun _ => true) ns.length
    omega
  · omega
theorem psn_mono {n m : Nat} (hm : m < ns.length) (h : rnk ns l m < rnk ns l n) : psn ns l m < psn ns l n := by
  unfold psn
  have h1 : fb_ct (fun x => decide (rnk ns l x = rnk ns l m)) m + 1 ≤ fb_ct (fun x => decide (rnk ns l x = rnk ns l m)) ns.length := by
    have e := fb_ct_succ (fun x => decide (rnk ns l x = rnk ns l m)) m
    have e2 := fb_ct_mono (fun x => decide (rnk ns l x = rnk ns l m)) (show m + 1 ≤ ns.length from hm)
    simp at e; omega
  have h2 : fb_ct (fun x => decide (rnk ns l x < rnk ns l m)) ns.length + fb_ct (fun x => decide (rnk ns l x = rnk ns l m)) ns.length ≤ fb_ct (fun x => decide (rnk ns l x < rnk ns l n)) ns.length := by
    rw [← fb_ct_or (fun x _ => by simp; omega)]
    exact fb_ct_sub (fun x _ q => by
      simp at q
      exact decide_eq_true (by omega))
  omega
theorem psn_lt {n : Nat} (hn : n < ns.length) : psn ns l n < ns.length := by
  unfold psn
  have h1 : fb_ct (fun x => decide (rnk ns l x = rnk ns l n)) n + 1 ≤ fb_ct (fun x => decide (rnk ns l x = rnk ns l n)) ns.length := by
    have e := fb_ct_succ (fun x => decide (rnk ns l x = rnk ns l n)) n
    have e2 := fb_ct_mono (fun x => decide (rnk ns l x = rnk ns l n)) (show n + 1 ≤ ns.length from hn)
    simp at e; omega
  have h2 : fb_ct (fun x => decide (rnk ns l x < rnk ns l n)) ns.length + fb_ct (fun x => decide (rnk ns l x = rnk ns l n)) ns.length ≤ ns.length := by
    rw [← fb_ct_or (fun x _ => by simp; omega)]
    exact fb_ct_le _ _
  omega
theorem psn_inj {n m : Nat} (hn : n < ns.length) (hm : m < ns.length) (h : psn ns l n = psn ns l m) : n = m := by
  rcases Nat.lt_trichotomy (rnk ns l n) (rnk ns l m) with q | q | q
  · have := psn_mono hn q; omega
  · have key : ∀ a b, a < b → b < ns.length → rnk ns l a = rnk ns l b → psn ns l a < psn ns l b := by
      intro a b hab _ e
      unfold psn
      rw [e]
      have e1 := fb_ct_succ (fun x => decide (rnk ns l x = rnk ns l b)) a
      have e2 := fb_ct_mono (fun x => decide (rnk ns l x = rnk ns l b)) (show a + 1 ≤ b from hab)
      simp [e] at e1
      omega
    rcases Nat.lt_trichotomy n m with z | z | z
    · have := key n m z hm q; omega
    · exact z
    · have := key m n z hn q.symm; omega
  · have := psn_mono hm q; omega
theorem psn_onto {i : Nat} (hi : i < ns.length) : ∃ n, n < ns.length ∧ psn ns l n = i := fb_onto (f := psn ns l) (fun n hn => psn_lt hn) (fun a b hab hb e => by have := psn_inj (by omega) hb e; omega) hi
end ORD
