/-! ===== the heap of the mini machine, as the JVM's heap holds it ===== -/
def Ab (b : Nat) : Nat → Prop := fun q => b < q
def ceE (b : Nat) (ex : Nat → Nat) (cA : FieldType → ClassId) (M : MH) (a : Nat) : va_E := match M.1 a with
  | .inl ci => .inr (ci, (List.range (nF ci)).map fun k => up b ex (fv M ci a k))
  | .inr (ty, n) => .inl (cA ty, n, match ty with
    | .long => .inr (.inl (M.2.2.1 a))
    | _ => .inl (M.2.1 a))
def wsO (b : Nat) (ex : Nat → Nat) (cA : FieldType → ClassId) (M : MH) : va_W := (List.range M.2.2.2.2.1).map fun i => (b + (i + 1), ceE b ex cA M (i + 1))
def tyL (cA : FieldType → ClassId) : List (ClassId × FieldType) := [(cA .int, .int), (cA .long, .long), (cA .byte, .byte), (cA .boolean, .boolean)]
def Inv (M : MH) : Prop := (∀ a, (a = 0 ∨ M.2.2.2.2.1 < a) → M.1 a = .inl 99) ∧ ∀ a ty n, M.1 a = .inr (ty, n) → ty = .int ∨ ty = .long ∨ ty = .byte ∨ ty = .boolean
theorem Inv.in {M : MH} (h : Inv M) {a : Nat} (ha : M.1 a ≠ .inl 99) : a ≠ 0 ∧ a ≤ M.2.2.2.2.1 := by
  refine ⟨fun q => ha (h.1 a (Or.inl q)), ?_⟩
  rcases Nat.lt_or_ge M.2.2.2.2.1 a with q | q
  · exact absurd (h.1 a (Or.inr q)) ha
  · exact q
section HP
variable {b : Nat} {ex : Nat → Nat} {cA : FieldType → ClassId} {M M' : MH}
theorem wsO_len : (wsO b ex cA M).length = M.2.2.2.2.1 := by simp [wsO]
theorem wsO_get {i : Nat} (h : i < M.2.2.2.2.1) : (wsO b ex cA M)[i]? = some (b + (i + 1), ceE b ex cA M (i + 1)) := by
  simp [wsO, h]
theorem wsO_at {a : Nat} (h0 : a ≠ 0) (h : a ≤ M.2.2.2.2.1) : (wsO b ex cA M)[a - 1]? = some (b + a, ceE b ex cA M a) := by
  have := wsO_get (b := b) (ex := ex) (cA := cA) (M := M) (i := a - 1) (by omega)
  rw [show a - 1 + 1 = a by omega] at this
  exact this
theorem wsO_D : va_D (Ab b) (wsO b ex cA M) := by
  have key : ∀ (k : Nat) (q : Nat × va_E), (wsO b ex cA M)[k]? = some q → q.1 = b + (k + 1) := by
    intro k q h
    have hk : k < M.2.2.2.2.1 := by
      have := (List.getElem?_eq_some_iff.mp h).1
      rw [wsO_len] at this
      exact this
    rw [wsO_get hk] at h
    cases h
    rfl
  refine ⟨fun i j x y hi hj hxy => ?_, fun k q hk => ?_⟩
  · have h1 := key i x hi
    have h2 := key j y hj
    omega
  · have h1 := key k q hk
    show b < q.1
    omega
theorem wsO_set {a : Nat} (h0 : a ≠ 0) (hz : M'.2.2.2.2.1 = M.2.2.2.2.1) (h : ∀ x, x ≠ a → ceE b ex cA M' x = ceE b ex cA M x) : wsO b ex cA M' = (wsO b ex cA M).set (a - 1) (b + a, ceE b ex cA M' a) := by
  apply List.ext_getElem?
  intro k
  by_cases hk : k < M.2.2.2.2.1
  · rw [wsO_get (by rw [hz]; exact hk)]
    by_cases hka : k = a - 1
    · subst hka
      rw [List.getElem?_set_self (by rw [wsO_len]; exact hk)]
      rw [show a - 1 + 1 = a by omega]
    · rw [List.getElem?_set_ne (Ne.symm hka), wsO_get hk, h (k + 1) (by omega)]
  · rw [List.getElem?_eq_none (by rw [wsO_len, hz]; omega), List.getElem?_eq_none (by rw [List.length_set, wsO_len]; omega)]
theorem wsO_push (hz : M'.2.2.2.2.1 = M.2.2.2.2.1 + 1) (h : ∀ x, x ≤ M.2.2.2.2.1 → ceE b ex cA M' x = ceE b ex cA M x) : wsO b ex cA M' = wsO b ex cA M ++ [(b + (M.2.2.2.2.1 + 1), ceE b ex cA M' (M.2.2.2.2.1 + 1))] := by
  unfold wsO
  rw [hz, List.range_succ, List.map_append]
  congr 1
  apply List.map_congr_left
  intro i hi
  rw [List.mem_range] at hi
  rw [h (i + 1) (by omega)]
theorem fv_congr {ci a k : Nat} (h1 : M'.2.1 a = M.2.1 a) (h2 : M'.2.2.1 a = M.2.2.1 a) (h3 : M'.2.2.2.1 a = M.2.2.2.1 a) : fv M' ci a k = fv M ci a k := by
  unfold fv
  rw [h1, h2, h3]
theorem ceE_congr {a : Nat} (h0 : M'.1 a = M.1 a) (h1 : M'.2.1 a = M.2.1 a) (h2 : M'.2.2.1 a = M.2.2.1 a) (h3 : M'.2.2.2.1 a = M.2.2.2.1 a) : ceE b ex cA M' a = ceE b ex cA M a := by
  unfold ceE
  rw [h0]
  split
  · simp only [fv_congr h1 h2 h3]
  · rw [h1, h2]
theorem ceE_o {a ci : Nat} (h : M.1 a = .inl ci) : ceE b ex cA M a = .inr (ci, (List.range (nF ci)).map fun k => up b ex (fv M ci a k)) := by
  unfold ceE
  rw [h]
theorem ceE_i {a n : Nat} {ty : FieldType} (h : M.1 a = .inr (ty, n)) (hy : ty ≠ .long) : ceE b ex cA M a = .inl (cA ty, n, .inl (M.2.1 a)) := by
  unfold ceE
  rw [h]
  cases ty <;> first | rfl | exact absurd rfl hy
theorem ceE_l {a n : Nat} (h : M.1 a = .inr (.long, n)) : ceE b ex cA M a = .inl (cA .long, n, .inr (.inl (M.2.2.1 a))) := by
  unfold ceE
  rw [h]
theorem u1_s {α : Type} (f : Nat → α) (a : Nat) (v : α) : u1 f a v a = v := by simp [u1]
theorem u1_n {α : Type} (f : Nat → α) {a x : Nat} (v : α) (h : x ≠ a) : u1 f a v x = f x := by simp [u1, h]
theorem u2_s {α : Type} (f : Nat → Nat → α) (a k : Nat) (v : α) : u2 f a k v a = u1 (f a) k v := by simp [u2, u1_s]
theorem u2_n {α : Type} (f : Nat → Nat → α) {a x : Nat} (k : Nat) (v : α) (h : x ≠ a) : u2 f a k v x = f x := by simp [u2, u1_n _ _ h]
end HP
/-- what the tables say of the classes -/
theorem mjL_ok : (List.range 14).all (fun ci => (u_ws (mjCN ci) (mjTT ci) (nF ci)).all (fun w => goodWord w && decide (w ∈ mjS))) = true := by decide +kernel
theorem mjN_ok : (List.range 14).all (fun ci => (List.range (nF ci)).all (fun x => (List.range (nF ci)).all (fun y => x == y || decide ((mjTT ci x).2.1 ≠ (mjTT ci y).2.1)))) = true := by decide +kernel
theorem mjY_ok : (List.range 14).all (fun ci => (List.range (nF ci)).all (fun k => decide (parseFieldDescriptor (mjTT ci k).2.2.1 = some (tyT ci k)))) = true := by decide +kernel
theorem mjZ_ok : (List.range 15).all (fun ci => decide ((mjC.getD ci ("", TX6, 0)).2.2 = nF ci)) = true := by decide +kernel
theorem mjC_at {ci : Nat} (h : ci < 15) : mjC[ci]? = some (mjCN ci, mjTT ci, nF ci) := by
  have h1 := of_decide_eq_true (List.all_eq_true.mp mjZ_ok ci (List.mem_range.mpr h))
  have h2 : mjC[ci]? = some (mjC.getD ci ("", TX6, 0)) := by
    have hl : ci < mjC.length := h
    rw [List.getD_eq_getElem?_getD, List.getElem?_eq_getElem hl]
    rfl
  rw [h2, ← h1]
  rfl
theorem mjL_at {ci : Nat} (h : ci < 14) : ∀ w ∈ u_ws (mjCN ci) (mjTT ci) (nF ci), w ∈ mjS.filter goodWord := by
  intro w hw
  have h1 := List.all_eq_true.mp (List.all_eq_true.mp mjL_ok ci (List.mem_range.mpr h)) w hw
  rw [Bool.and_eq_true] at h1
  exact List.mem_filter.mpr ⟨of_decide_eq_true h1.2, h1.1⟩
theorem mjN_at {ci : Nat} (h : ci < 14) : ∀ x, x < nF ci → ∀ y, y < nF ci → x ≠ y → (mjTT ci x).2.1 ≠ (mjTT ci y).2.1 := by
  intro x hx y hy hxy
  have h1 := List.all_eq_true.mp (List.all_eq_true.mp (List.all_eq_true.mp mjN_ok ci (List.mem_range.mpr h)) x (List.mem_range.mpr hx)) y (List.mem_range.mpr hy)
  rw [Bool.or_eq_true] at h1
  rcases h1 with h1 | h1
  · exact absurd (beq_iff_eq.mp h1) hxy
  · exact of_decide_eq_true h1
theorem mjY_at {ci : Nat} (h : ci < 14) : ∀ k, k < nF ci → parseFieldDescriptor (mjTT ci k).2.2.1 = some (tyT ci k) := fun k hk =>
  of_decide_eq_true (List.all_eq_true.mp (List.all_eq_true.mp mjY_ok ci (List.mem_range.mpr h)) k (List.mem_range.mpr hk))
/-- a field's link, by its row -/
theorem fl_at {o idx ci k : Nat} (h : fl o idx ci = some k) : ci < 14 ∧ k < nF ci ∧ ∃ ref : String, Cond.fieldLink (oN o) idx ref (mjTT ci k).2.1 (mjTT ci k).2.2.1 ∈ mjS ∧ (ref = (mjTT ci k).1 ∨ Cond.sameField ref (mjTT ci k).1 (mjTT ci k).2.1 (mjTT ci k).2.2.1 ∈ mjS) := by
  obtain ⟨r, h1, h2, h3⟩ := tb_fd h
  have h4 := tb_all mjF 18 rfl ckF mjF_ok h1
  rw [Bool.and_eq_true] at h2
  have e1 : r.1 = idx := beq_iff_eq.mp h2.1
  have e2 : r.2.1 = ci := beq_iff_eq.mp h2.2
  have e3 : r.2.2.1 = k := h3
  unfold ckF at h4
  rw [Bool.and_eq_true, Bool.and_eq_true, Bool.and_eq_true, e1, e2, e3] at h4
  obtain ⟨c1, c2, c3, c4⟩ := h4
  refine ⟨of_decide_eq_true c1, of_decide_eq_true c2, r.2.2.2.1, List.mem_of_getElem? (of_decide_eq_true c3), ?_⟩
  split at c4
  · exact Or.inl (of_decide_eq_true c4)
  · exact Or.inr (List.mem_of_getElem? (of_decide_eq_true c4))
theorem fl_99 (o idx : Nat) : fl o idx 99 = none := by
  cases h : fl o idx 99 with
  | none => rfl
  | some k => exact absurd (fl_at h).1 (by decide)
theorem nw_at {o idx ci : Nat} (h : nwl o idx = some ci) : ci < 14 ∧ Cond.classLink (oN o) idx (mjCN ci) ∈ mjS ∧ Cond.instantiable (mjCN ci) (nF ci) ∈ mjS ∧ Cond.initialized (mjCN ci) ∈ mjS := by
  obtain ⟨r, h1, h2, h3⟩ := tb_fd h
  have h4 := tb_all mjW 18 rfl ckW mjW_ok h1
  have e1 : r.1 = idx := beq_iff_eq.mp h2
  have e3 : r.2.1 = ci := h3
  unfold ckW at h4
  rw [Bool.and_eq_true, Bool.and_eq_true, Bool.and_eq_true, e1, e3] at h4
  obtain ⟨c1, c2, c3, c4⟩ := h4
  exact ⟨of_decide_eq_true c1, List.mem_of_getElem? (of_decide_eq_true c2), List.mem_of_getElem? (of_decide_eq_true c3), List.mem_of_getElem? (of_decide_eq_true c4)⟩
