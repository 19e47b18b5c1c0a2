/-! ===== the mini machine and the JVM: values, locals, the heap ===== -/
def up (b : Nat) (ex : Nat → Nat) (v : Value) : Value := match v with
  | .ref 0 => .null
  | .ref (k + 1) => .ref (b + (k + 1))
  | .retAddr e => .ref (ex e)
  | v => v
def kn (v : Value) : Bool := match v with
  | .int _ => true
  | .long _ => true
  | .ref _ => true
  | .retAddr _ => true
  | _ => false
theorem up_cat (b : Nat) (ex : Nat → Nat) (v : Value) : (up b ex v).category = v.category := by
  cases v with
  | ref a => cases a <;> rfl
  | _ => rfl
theorem up_wt (b : Nat) (ex : Nat → Nat) (st : List Value) : ((st.map (up b ex)).map fun v => v.category).sum = wt st := by
  unfold wt
  rw [List.map_map]
  congr 1
  exact List.map_congr_left fun v _ => up_cat b ex v
theorem up_ref {b : Nat} {ex : Nat → Nat} {a : Nat} (h : a ≠ 0) : up b ex (.ref a) = .ref (b + a) := by
  cases a with
  | zero => exact absurd rfl h
  | succ k => rfl
def LV (b : Nat) (ex : Nat → Nat) (vs : List Value) (ls : Array Slot) : Prop := ls.size = vs.length ∧ lv_wf ls ∧ ∀ (i : Nat) (v : Value), vs[i]? = some v → kn v = true → ls[i]? = some (.val (up b ex v))
def lvl (b : Nat) (ex : Nat → Nat) (vs : List Value) : List (Nat × Value) := (List.range vs.length).filterMap fun i => (vs[i]?).bind fun v => if kn v = true then some (i, up b ex v) else none
theorem lvl_mem {b : Nat} {ex : Nat → Nat} {vs : List Value} {q : Nat × Value} : q ∈ lvl b ex vs ↔ ∃ v, vs[q.1]? = some v ∧ kn v = true ∧ q.2 = up b ex v := by
  unfold lvl
  rw [List.mem_filterMap]
  constructor
  · rintro ⟨i, hi, h⟩
    cases hv : vs[i]? with
    | none => rw [hv] at h; simp at h
    | some v =>
      rw [hv] at h
      simp only [Option.bind_some] at h
      split at h
      · rename_i hk
        cases h
        exact ⟨v, hv, hk, rfl⟩
      · cases h
  · rintro ⟨v, hv, hk, hq⟩
    refine ⟨q.1, ?_, ?_⟩
    · rw [List.mem_range]
      exact (List.getElem?_eq_some_iff.mp hv).1
    · rw [hv]
      simp only [Option.bind_some, hk, if_true]
      rw [← hq]
theorem LV.has {b : Nat} {ex : Nat → Nat} {vs : List Value} {ls : Array Slot} (h : LV b ex vs ls) : lv_has ls vs.length (lvl b ex vs) := by
  refine ⟨h.1, h.2.1, fun q hq => ?_⟩
  obtain ⟨v, h1, h2, h3⟩ := lvl_mem.mp hq
  rw [h3]
  exact h.2.2 _ _ h1 h2
theorem LV.at {b : Nat} {ex : Nat → Nat} {vs : List Value} {ls : Array Slot} (h : LV b ex vs ls) {i : Nat} {v : Value} (hv : vs[i]? = some v) (hk : kn v = true) : ls[i]? = some (.val (up b ex v)) := h.2.2 i v hv hk
theorem klL_len (ls : List Value) (n : Nat) : (klL ls n).length = ls.length := by
  cases n with
  | zero => rfl
  | succ k =>
    simp only [klL]
    split <;> simp
theorem klL_get (ls : List Value) (n k : Nat) (v : Value) (h : (klL ls n)[k]? = some v) (hk : kn v = true) : ls[k]? = some v ∧ (k + 1 = n → v.category ≠ 2) := by
  cases n with
  | zero => exact ⟨h, fun h => by omega⟩
  | succ m =>
    simp only [klL] at h
    by_cases hkm : k = m
    · subst hkm
      split at h
      · rename_i e; rw [e] at h; cases h; exact ⟨e, fun _ => by simp [Value.category]⟩
      · rename_i e; rw [e] at h; cases h; exact ⟨e, fun _ => by simp [Value.category]⟩
      · rename_i e; rw [e] at h; cases h; exact ⟨e, fun _ => by simp [Value.category]⟩
      · rename_i e; rw [e] at h; cases h; cases hk
      · by_cases hl : k < ls.length
        · rw [List.getElem?_set_self hl] at h
          cases h
          cases hk
        · rw [List.getElem?_eq_none (by simpa using Nat.le_of_not_lt hl)] at h
          cases h
    · have hne : ¬ k + 1 = m + 1 := by omega
      refine ⟨?_, fun q => absurd q hne⟩
      split at h
      · exact h
      · exact h
      · exact h
      · exact h
      · rw [List.getElem?_set_ne (Ne.symm hkm)] at h
        exact h
/-- behind a store of one slot -/
theorem LV.st1 {b : Nat} {ex : Nat → Nat} {vs vs' : List Value} {ls' : Array Slot} {n : Nat} {v : Value} (h : st1 vs n v = some vs') (hl : lv_has ls' vs.length ((n, up b ex v) :: (lvl b ex vs).filter (fun q => !(q.1 == n) && !(q.1 + 1 == n && q.2.category == 2)))) : LV b ex vs' ls' ∧ vs'.length = vs.length := by
  unfold Jvm.Pilot.CTrajectoryRailsLaw_law_r4940_cb8154.st1 at h
  split at h
  · rename_i hn
    cases h
    have hlen : ((klL vs n).set n v).length = vs.length := by simp [klL_len]
    refine ⟨⟨by rw [hlen]; exact hl.1, hl.2.1, fun i w hi hk => ?_⟩, hlen⟩
    by_cases hin : i = n
    · subst hin
      rw [List.getElem?_set_self (by rw [klL_len]; exact hn)] at hi
      cases hi
      exact hl.2.2 (i, up b ex v) List.mem_cons_self
    · rw [List.getElem?_set_ne (Ne.symm hin)] at hi
      obtain ⟨h1, h2⟩ := klL_get vs n i w hi hk
      refine hl.2.2 (i, up b ex w) (List.mem_cons_of_mem _ (List.mem_filter.mpr ⟨lvl_mem.mpr ⟨w, h1, hk, rfl⟩, ?_⟩))
      simp only [Bool.and_eq_true, Bool.not_eq_true', beq_eq_false_iff_ne, ne_eq, Bool.and_eq_false_iff]
      refine ⟨hin, ?_⟩
      by_cases hz : i + 1 = n
      · exact Or.inr (by rw [up_cat]; exact h2 hz)
      · exact Or.inl hz
  · cases h
theorem LV.st2 {b : Nat} {ex : Nat → Nat} {vs vs' : List Value} {ls' : Array Slot} {n : Nat} {v : Value} (h : st2 vs n v = some vs') (hl : lv_has ls' vs.length ((n, up b ex v) :: (lvl b ex vs).filter (fun q => !(q.1 == n) && (!(q.1 == n + 1) && !(q.1 + 1 == n && q.2.category == 2))))) : LV b ex vs' ls' ∧ vs'.length = vs.length := by
  unfold Jvm.Pilot.CTrajectoryRailsLaw_law_r4940_cb8154.st2 at h
  split at h
  · rename_i hn
    cases h
    have hlen : (((klL vs n).set n v).set (n + 1) .null).length = vs.length := by simp [klL_len]
    refine ⟨⟨by rw [hlen]; exact hl.1, hl.2.1, fun i w hi hk => ?_⟩, hlen⟩
    by_cases hin1 : i = n + 1
    · subst hin1
      rw [List.getElem?_set_self (by simp [klL_len]; exact hn)] at hi
      cases hi
      cases hk
    · rw [List.getElem?_set_ne (Ne.symm hin1)] at hi
      by_cases hin : i = n
      · subst hin
        rw [List.getElem?_set_self (by rw [klL_len]; omega)] at hi
        cases hi
        exact hl.2.2 (i, up b ex v) List.mem_cons_self
      · rw [List.getElem?_set_ne (Ne.symm hin)] at hi
        obtain ⟨h1, h2⟩ := klL_get vs n i w hi hk
        refine hl.2.2 (i, up b ex w) (List.mem_cons_of_mem _ (List.mem_filter.mpr ⟨lvl_mem.mpr ⟨w, h1, hk, rfl⟩, ?_⟩))
        simp only [Bool.and_eq_true, Bool.not_eq_true', beq_eq_false_iff_ne, ne_eq, Bool.and_eq_false_iff]
        refine ⟨hin, hin1, ?_⟩
        by_cases hz : i + 1 = n
        · exact Or.inr (by rw [up_cat]; exact h2 hz)
        · exact Or.inl hz
  · cases h
theorem ldI_spec {vs : List Value} {n : Nat} {x : Int32} (h : ldI vs n = some x) : vs[n]? = some (.int x) := by
  unfold ldI at h
  split at h
  · rename_i e; cases h; exact e
  · cases h
theorem ldJ_spec {vs : List Value} {n : Nat} {x : Int64} (h : ldJ vs n = some x) : vs[n]? = some (.long x) := by
  unfold ldJ at h
  split at h
  · rename_i e; cases h; exact e
  · cases h
theorem ldR_spec {vs : List Value} {n : Nat} {v : Value} (h : ldR vs n = some v) : vs[n]? = some v ∧ isR v = true := by
  unfold ldR at h
  split at h
  · rename_i e; cases h; exact ⟨e, rfl⟩
  · rename_i e; cases h; exact ⟨e, rfl⟩
  · cases h
theorem up_isR {b : Nat} {ex : Nat → Nat} {v : Value} (h : isR v = true) : kn v = true ∧ (up b ex v = .null ∨ ∃ a, up b ex v = .ref a) := by
  cases v with
  | ref a => cases a with
    | zero => exact ⟨rfl, Or.inl rfl⟩
    | succ k => exact ⟨rfl, Or.inr ⟨_, rfl⟩⟩
  | retAddr a => exact ⟨rfl, Or.inr ⟨_, rfl⟩⟩
  | _ => cases h
/-- the entry: the arguments as the locals have them -/
theorem lg_cons (v : Value) (t : List Value) : lg_sl (v :: t) = (if v.category = 2 then [.val v, .second] else [.val v]) ++ lg_sl t := by simp [lg_sl]
theorem lay_len (b : Nat) (ex : Nat → Nat) (as : List Value) : (lg_sl (as.map (up b ex))).length = (lay as).length := by
  induction as with
  | nil => rfl
  | cons v t ih =>
    rw [List.map_cons, lg_cons, List.length_append, ih, up_cat]
    cases v <;> simp [lay, Value.category] <;> omega
theorem lay_mem (b : Nat) (ex : Nat → Nat) (as : List Value) : ∀ (off i : Nat) (v : Value), (lay as)[i]? = some v → kn v = true → (off + i, up b ex v) ∈ lv_args off (as.map (up b ex)) := by
  induction as with
  | nil => intro off i v h; simp [lay] at h
  | cons w t ih =>
    intro off i v h hk
    rw [List.map_cons]
    simp only [lv_args, up_cat]
    by_cases hc : w.category = 2
    · rw [if_pos hc]
      have hl : lay (w :: t) = w :: .null :: lay t := by cases w <;> first | rfl | (simp [Value.category] at hc)
      rw [hl] at h
      match i, h with
      | 0, h => cases h; exact List.mem_cons_self
      | 1, h => cases h; cases hk
      | i + 2, h =>
        refine List.mem_cons_of_mem _ ?_
        have h2 := ih (off + 2) i v h hk
        rw [show off + (i + 2) = off + 2 + i by omega]
        exact h2
    · rw [if_neg hc]
      have hl : lay (w :: t) = w :: lay t := by cases w <;> first | rfl | (exact absurd rfl hc)
      rw [hl] at h
      match i, h with
      | 0, h => cases h; exact List.mem_cons_self
      | i + 1, h =>
        refine List.mem_cons_of_mem _ ?_
        have h2 := ih (off + 1) i v h hk
        rw [show off + (i + 1) = off + 1 + i by omega]
        exact h2
theorem LV.entry (b : Nat) (ex : Nat → Nat) (as : List Value) (k : Nat) (h : (lay as).length ≤ mL k) : LV b ex (en k as) ((lg_sl (as.map (up b ex)) ++ List.replicate (mL k - (lg_sl (as.map (up b ex))).length) Slot.unset).toArray) := by
  have hl := lv_entry (as.map (up b ex)) (n := mL k) (by rw [lay_len]; exact h)
  refine ⟨?_, hl.2.1, fun i v hi hk => ?_⟩
  · rw [hl.1]
    simp only [en, List.length_append, List.length_replicate]
    omega
  · have h2 : (lay as)[i]? = some v := by
      unfold en at hi
      by_cases hlt : i < (lay as).length
      · rw [List.getElem?_append_left hlt] at hi
        exact hi
      · rw [List.getElem?_append_right (by omega)] at hi
        have := List.eq_of_mem_replicate (List.mem_of_getElem? hi)
        rw [this] at hk
        cases hk
    have h3 := lay_mem b ex as 0 i v h2 hk
    rw [Nat.zero_add] at h3
    exact hl.2.2 _ h3
