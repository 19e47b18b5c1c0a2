/-! ===== contracts out of runs of the mini machine ===== -/
def mWs (j : Nat) : List Cond := mCo j :: mjS.filter goodWord
theorem mj_lt : (mjCs.all (fun l => l.all (fun r => decide (r.2.1 < 168))) && mjCp.all (fun l => l.all (fun r => decide (r.2.1 < 168))) && mjCv.all (fun l => l.all (fun r => decide (r.2.2.1 < 168)))) = true := by decide +kernel
theorem mCo_at {j : Nat} (h : j < 168) : mCo j ∈ mjS ∧ goodWord (mCo j) = true := ⟨mCo_mem j h, mCo_good j⟩
theorem gw_in {w : Cond} (h : w ∈ mjS) (hg : goodWord w = true) : w ∈ mjS.filter goodWord ∧ ((w.onTables && w.keeps) = true ∨ ∃ ty, w = .arrayClass ty) := ⟨List.mem_filter.mpr ⟨h, hg⟩, good_of_word hg⟩
theorem mWs_in {j : Nat} (h : j < 168) : GoodIn (mjS.filter goodWord) (mWs j) := by
  intro w hw
  rcases List.mem_cons.mp hw with rfl | hw
  · exact gw_in (mCo_at h).1 (mCo_at h).2
  · exact gw_in (List.mem_filter.mp hw).1 (List.mem_filter.mp hw).2
theorem getD_mem_all {α : Type} {T : List (List α)} {P : α → Bool} (h : T.all (fun l => l.all P) = true) {o : Nat} {r : α} (hr : r ∈ T.getD o []) : P r = true := by
  by_cases ho : o < T.length
  · rw [List.getD_eq_getElem?_getD, List.getElem?_eq_getElem ho] at hr
    exact List.all_eq_true.mp (List.all_eq_true.mp h _ (List.getElem_mem ho)) r hr
  · rw [tb_gd (by omega)] at hr
    cases hr
theorem cs_at {o idx y : Nat} (h : csl o idx = some y) : y < 168 ∧ Cond.methodLink (oN o) idx (mY y) ∈ mjS ∧ Cond.static (mY y) ∈ mjS ∧ Cond.initialized (mY y).cls ∈ mjS ∧ (nMH (mY y) = true ∧ npO (mY y) (mP y) = true) ∧ mHH y = [] := by
  obtain ⟨r, h1, h2, h3⟩ := tb_fd h
  have h4 := tb_all mjCs 18 rfl ckCs mjCs_ok h1
  have e1 : r.1 = idx := beq_iff_eq.mp h2
  have e3 : r.2.1 = y := h3
  have hl := mj_lt
  rw [Bool.and_eq_true, Bool.and_eq_true] at hl
  have h5 := of_decide_eq_true (getD_mem_all (P := fun r : Nat × Nat × Nat × Nat × Nat => decide (r.2.1 < 168)) hl.1.1 h1)
  unfold ckCs at h4
  rw [Bool.and_eq_true, Bool.and_eq_true, Bool.and_eq_true, Bool.and_eq_true, Bool.and_eq_true, e1, e3] at h4
  rw [e3] at h5
  obtain ⟨c1, c2, c3, c4, c5, c6⟩ := h4
  exact ⟨h5, List.mem_of_getElem? (of_decide_eq_true c1), List.mem_of_getElem? (of_decide_eq_true c2), List.mem_of_getElem? (of_decide_eq_true c3), ⟨c4, c5⟩, of_decide_eq_true c6⟩
theorem cp_at {o idx y : Nat} (h : cpl o idx = some y) : y < 168 ∧ (Cond.methodLink (oN o) idx (mY y) ∈ mjS ∨ ∃ host, Cond.methodLinkNest (oN o) idx (mY y) host ∈ mjS) ∧ Cond.instanceMethod (mY y) ∈ mjS ∧ Cond.initialized (mY y).cls ∈ mjS ∧ (nMH (mY y) = true ∧ npO (mY y) (mP y) = true) ∧ mHH y = [] ∧ mR y = none ∧ (mY y).name = "<init>" := by
  obtain ⟨r, h1, h2, h3⟩ := tb_fd h
  have h4 := tb_all mjCp 18 rfl ckCp mjCp_ok h1
  have e1 : r.1 = idx := beq_iff_eq.mp h2
  have e3 : r.2.1 = y := h3
  have hl := mj_lt
  rw [Bool.and_eq_true, Bool.and_eq_true] at hl
  have h5 := of_decide_eq_true (getD_mem_all (P := fun r : Nat × Nat × Nat × Nat × Nat × Nat × String => decide (r.2.1 < 168)) hl.1.2 h1)
  unfold ckCp at h4
  rw [Bool.and_eq_true, Bool.and_eq_true, Bool.and_eq_true, Bool.and_eq_true, Bool.and_eq_true, Bool.and_eq_true, Bool.and_eq_true, e1, e3] at h4
  rw [e3] at h5
  obtain ⟨c1, c2, c3, c4, c5, c6, c7, c8⟩ := h4
  refine ⟨h5, ?_, List.mem_of_getElem? (of_decide_eq_true c2), List.mem_of_getElem? (of_decide_eq_true c3), ⟨c4, c5⟩, of_decide_eq_true c6, of_decide_eq_true c7, of_decide_eq_true c8⟩
  split at c1
  · exact Or.inl (List.mem_of_getElem? (of_decide_eq_true c1))
  · exact Or.inr ⟨_, List.mem_of_getElem? (of_decide_eq_true c1)⟩
/-- a plain virtual call -/
def V0 (o idx ci y : Nat) : Prop := Cond.methodLink (oN o) idx (mY y) ∈ mjS ∧ Cond.selects (mjCN ci) (mY y) (mY y) ∈ mjS ∧ Cond.instanceMethod (mY y) ∈ mjS ∧ Cond.initialized (mY y).cls ∈ mjS ∧ (mY y).cls = mjCN ci ∧ (nMH (mY y) = true ∧ npO (mY y) (mP y) = true)
/-- an inherited or overriding one -/
def V1 (o idx ci y : Nat) : Prop := ∃ (x : MethodName) (owner : String), Cond.methodLink (oN o) idx x ∈ mjS ∧ Cond.sameMethod x.cls owner x.name x.desc ∈ mjS ∧ Cond.selects (mjCN ci) x (mY y) ∈ mjS ∧ Cond.instanceMethod (mY y) ∈ mjS ∧ Cond.initialized (mY y).cls ∈ mjS ∧ (Cond.declares ⟨owner, x.name, x.desc⟩ ∈ mjS ∨ mY y = ⟨owner, x.name, x.desc⟩) ∧ (owner ≠ "java/lang/invoke/MethodHandle" ∧ owner ≠ "java/lang/invoke/VarHandle") ∧ npO x (mP y) = true ∧ mHH y = []
theorem cv_row {o : Nat} {r : Nat × Nat × Nat × Nat × MethodName × String × Nat × Nat × Nat × Nat × Nat × Nat} (h1 : r ∈ mjCv.getD o []) : r.2.2.1 < 168 ∧ r.2.1 < 14 ∧ cvn o r.1 = some (mP r.2.2.1) ∧ ((r.2.2.2.1 = 0 ∧ V0 o r.1 r.2.1 r.2.2.1) ∨ (r.2.2.2.1 ≠ 0 ∧ V1 o r.1 r.2.1 r.2.2.1)) := by
  have h4 := tb_all mjCv 18 rfl ckV mjCv_ok h1
  have hl := mj_lt
  rw [Bool.and_eq_true, Bool.and_eq_true] at hl
  have h5 := of_decide_eq_true (getD_mem_all (P := fun r : Nat × Nat × Nat × Nat × MethodName × String × Nat × Nat × Nat × Nat × Nat × Nat => decide (r.2.2.1 < 168)) hl.2 h1)
  unfold ckV at h4
  split at h4
  · rename_i hz
    unfold ckV0 at h4
    rw [Bool.and_eq_true, Bool.and_eq_true, Bool.and_eq_true, Bool.and_eq_true, Bool.and_eq_true, Bool.and_eq_true, Bool.and_eq_true, Bool.and_eq_true] at h4
    obtain ⟨c1, c2, c3, c4, c5, c6, c7, c8, c9⟩ := h4
    exact ⟨h5, of_decide_eq_true c9, of_decide_eq_true c8, Or.inl ⟨hz, List.mem_of_getElem? (of_decide_eq_true c1), List.mem_of_getElem? (of_decide_eq_true c2), List.mem_of_getElem? (of_decide_eq_true c3), List.mem_of_getElem? (of_decide_eq_true c4), of_decide_eq_true c5, c6, c7⟩⟩
  · rename_i hz
    unfold ckV1 at h4
    rw [Bool.and_eq_true, Bool.and_eq_true, Bool.and_eq_true, Bool.and_eq_true, Bool.and_eq_true, Bool.and_eq_true, Bool.and_eq_true, Bool.and_eq_true, Bool.and_eq_true, Bool.and_eq_true, Bool.and_eq_true] at h4
    obtain ⟨c1, c2, c3, c4, c5, c6, c7, c8, c9, c10, c11, c12⟩ := h4
    refine ⟨h5, of_decide_eq_true c12, of_decide_eq_true c10, Or.inr ⟨hz, _, _, List.mem_of_getElem? (of_decide_eq_true c1), List.mem_of_getElem? (of_decide_eq_true c2), List.mem_of_getElem? (of_decide_eq_true c3), List.mem_of_getElem? (of_decide_eq_true c4), List.mem_of_getElem? (of_decide_eq_true c5), ?_, ⟨of_decide_eq_true c7, of_decide_eq_true c8⟩, c9, of_decide_eq_true c11⟩⟩
    split at c6
    · exact Or.inl (List.mem_of_getElem? (of_decide_eq_true c6))
    · exact Or.inr (of_decide_eq_true c6)
theorem cv_at {o idx ci y : Nat} (h : cvl o idx ci = some y) : y < 168 ∧ ci < 14 ∧ cvn o idx = some (mP y) ∧ (V0 o idx ci y ∨ V1 o idx ci y) := by
  obtain ⟨r, h1, h2, h3⟩ := tb_fd h
  rw [Bool.and_eq_true] at h2
  have e1 : r.1 = idx := beq_iff_eq.mp h2.1
  have e2 : r.2.1 = ci := beq_iff_eq.mp h2.2
  have e3 : r.2.2.1 = y := h3
  obtain ⟨g1, g2, g3, g4⟩ := cv_row h1
  rw [e1, e2, e3] at g4
  rw [e1, e3] at g3
  rw [e3] at g1
  rw [e2] at g2
  exact ⟨g1, g2, g3, g4.elim (fun q => Or.inl q.2) (fun q => Or.inr q.2)⟩
/-- rows of one owner have different keys -/
def keyOK (l : List (Nat × Nat × Nat × Nat × MethodName × String × Nat × Nat × Nat × Nat × Nat × Nat)) : Bool := l.all (fun r => l.all (fun q => !(r.1 == q.1 && r.2.1 == q.2.1) || (r.2.2.1 == q.2.2.1)))
theorem mjCv_key : mjCv.all keyOK = true := by decide +kernel
theorem cvk_at {o idx ci y : Nat} (h : cvl o idx ci = some y) (hk : cvk o idx ci = true) : V0 o idx ci y ∧ mHH y = [] := by
  obtain ⟨r, h1, h2, h3⟩ := tb_fd h
  rw [Bool.and_eq_true] at h2
  have e1 : r.1 = idx := beq_iff_eq.mp h2.1
  have e2 : r.2.1 = ci := beq_iff_eq.mp h2.2
  have e3 : r.2.2.1 = y := h3
  obtain ⟨q, hq, hq2⟩ := List.any_eq_true.mp hk
  rw [Bool.and_eq_true, Bool.and_eq_true, Bool.and_eq_true] at hq2
  obtain ⟨⟨⟨f1, f2⟩, f3⟩, f4⟩ := hq2
  have f1 : q.1 = idx := beq_iff_eq.mp f1
  have f2 : q.2.1 = ci := beq_iff_eq.mp f2
  have f3 : q.2.2.2.1 = 0 := beq_iff_eq.mp f3
  have hky : q.2.2.1 = y := by
    by_cases ho : o < mjCv.length
    · have hka : keyOK (mjCv.getD o []) = true := by
        rw [List.getD_eq_getElem?_getD, List.getElem?_eq_getElem ho]
        exact List.all_eq_true.mp mjCv_key _ (List.getElem_mem ho)
      have h9 := List.all_eq_true.mp (List.all_eq_true.mp hka q hq) r h1
      rw [f1, f2, e1, e2] at h9
      simp only [beq_self_eq_true, Bool.and_self, Bool.not_true, Bool.false_or, beq_iff_eq] at h9
      rw [h9, e3]
    · rw [tb_gd (by omega)] at h1
      cases h1
  obtain ⟨-, -, -, g4⟩ := cv_row hq
  rw [f1, f2, hky] at g4
  rw [hky] at f4
  refine ⟨?_, List.isEmpty_iff.mp f4⟩
  rcases g4 with g | g
  · exact g.2
  · exact absurd f3 g.1
section CT
variable (D : va_G) (b : Nat) (ex : Nat → Nat) (cA : FieldType → ClassId) (xs : Nat → Int32) (L : Nat)
def PcM (as : List Value) (M : MH) : Array Value → State → Prop := va_Pc (as.map (up b ex)) (fun U => U.heap.size = b + M.2.2.2.2.1 + 1 ∧ va_P D mjC (wsO b ex cA M) U.heap ∧ va_K D mjC (tyL cA) U ∧ StF b ex xs L U U.heap)
def QcM (v : Option Value) (M' : MH) : Array Value → State → Outcome → State → Prop := fun _ st oc t => (oc = .returned (v.map (up b ex)) ∧ t.heap.size = b + M'.2.2.2.2.1 + 1 ∧ va_P D mjC (wsO b ex cA M') t.heap) ∧ va_F (Ab b) st t
def XcM (M' : MH) : String → State → State → Prop := fun E st t => (E = "java/lang/IllegalArgumentException" ∧ t.heap.size = b + M'.2.2.2.2.1 + 1 ∧ va_P D mjC (wsO b ex cA M') t.heap) ∧ va_F (Ab b) st t
theorem PcM_blind (as : List Value) (M : MH) : FrameBlind (PcM D b ex cA xs L as M) := by
  intro a U g mk h
  obtain ⟨h1, h2, h3, h4, h5⟩ := h
  exact ⟨h1, h2, h3, va_K.moved (u := U) (U := U.calling g mk a) (Vm.Alike.refl U.vm) h4, StF.moved (s := U) (U := U.calling g mk a) (State.WarmedH.refl U) h5⟩
end CT
section MC
variable {p : Program} {l : Launch} {e : Env} {R : Room} {s : State} {m : MethodId} {args : Array Value} {below : List Frame} {meth : Method} {c : Code} {H : Heap} {locs : List Loc} {cells slots : Nat} {Q : State → Prop}
variable {D : va_G} {b : Nat} {ex : Nat → Nat} {cA : FieldType → ClassId} {xs : Nat → Int32} {L d j pc mc ms : Nat} {st st0 : List Value} {ls : Array Slot} {M M' M1 : MH} {a : Array Value} {v : Option Value} {rest : List Value}
/-- behind a call that returns -/
theorem mx_call (hr : va_Run p l e R s m args below meth c H locs cells slots mc ms (F0 m pc ls st0) rest (QcM D b ex cA v M1 a) (Ab b)) (hS : va_S (Ab b) s.heap H locs)
    (kk : ∀ (H1 : Heap) (locs1 : List Loc), va_P D mjC (wsO b ex cA M1) H1 → H1.size = b + M1.2.2.2.2.1 + 1 → va_S (Ab b) s.heap H1 locs1 → W p l e R s m args below meth c H1 locs1 (cells + mc) (slots + ms) Q (F0 m (pc + 3) ls ((v.map (up b ex)).toList ++ rest))) : W p l e R s m args below meth c H locs cells slots Q (F0 m pc ls st0) := by
  intro T hT X
  obtain ⟨v9, st₀, t, T', L', h0, X', hL, e1, e2, ⟨⟨hv, hz1, hp⟩, hz, hk⟩, st⟩ := hr T hT X
  cases hv
  rw [h0] at hz hk
  obtain ⟨t2, a1, b1⟩ := kk T'.heap (locs ++ L') (by rw [e1]; exact hp) (by rw [e1]; exact hz1)
    ⟨Nat.le_trans hS.1 (by rw [e1]; exact hz), fun q h1 h2 => by rw [e1, hk q (Nat.lt_of_lt_of_le h1 hS.1) h2]; exact hS.2.1 q h1 h2, fun q hq => by
      rcases List.mem_append.mp hq with h | h
      · exact hS.2.2 q h
      · exact hL q h⟩ T' rfl X'
  exact ⟨t2, st t2 a1, b1⟩
/-- .. of a method that may throw, but doesn't -/
theorem mx_callR (hr : vx_Run p l e R s m args below meth c H locs cells slots mc ms (F0 m pc ls st0) rest (QcM D b ex cA v M1 a) (fun _ _ _ => False) (Ab b)) (hS : va_S (Ab b) s.heap H locs)
    (kk : ∀ (H1 : Heap) (locs1 : List Loc), va_P D mjC (wsO b ex cA M1) H1 → H1.size = b + M1.2.2.2.2.1 + 1 → va_S (Ab b) s.heap H1 locs1 → W p l e R s m args below meth c H1 locs1 (cells + mc) (slots + ms) Q (F0 m (pc + 3) ls ((v.map (up b ex)).toList ++ rest))) : W p l e R s m args below meth c H locs cells slots Q (F0 m pc ls st0) := by
  refine mx_call (mc := mc) (ms := ms) (a := a) (fun T hT X => ?_) hS kk
  rcases hr T hT X with h | ⟨q, st₀, t, T', L, E, ce, h0, X', hL, e1, e2, hF, -⟩
  · exact h
  · exact absurd hF (fun z => z)
/-- behind a call that throws -/
theorem mx_callX (hr : vx_Run p l e R s m args below meth c H locs cells slots mc ms (F0 m pc ls st0) rest (fun _ _ _ => False) (XcM D b ex cA M1) (Ab b)) (hS : va_S (Ab b) s.heap H locs)
    (kk : ∀ (ce : Cell) (q : Addr) (H1 : Heap) (locs1 : List Loc), va_P D mjC (wsO b ex cA M1) H1 → H1.size = b + M1.2.2.2.2.1 + 1 → va_S (Ab b) s.heap H1 locs1 → H1[q]? = some ce → ce.vm = .none → s.vm.findClass "java/lang/IllegalArgumentException" = some ce.cls → vx_W p l e R s m args below meth c H1 locs1 (cells + mc) (slots + ms) Q (F0 m pc ls rest) q) : W p l e R s m args below meth c H locs cells slots Q (F0 m pc ls st0) := by
  intro T hT X
  rcases hr T hT X with ⟨v, st₀, t, T', L, h0, X', hL, e1, e2, hF, -⟩ | ⟨q, st₀, t, T', L', E, ce, h0, X', hL, e1, e2, ⟨⟨hE, hz1, hp⟩, hz, hk⟩, hce, hcv, hcl, st⟩
  · exact absurd hF (fun z => z)
  · subst hE
    rw [h0] at hz hk
    obtain ⟨t2, a1, b1⟩ := kk ce q T'.heap (locs ++ L') (by rw [e1]; exact hp) (by rw [e1]; exact hz1)
      ⟨Nat.le_trans hS.1 (by rw [e1]; exact hz), fun q h1 h2 => by rw [e1, hk q (Nat.lt_of_lt_of_le h1 hS.1) h2]; exact hS.2.1 q h1 h2, fun q hq => by
        rcases List.mem_append.mp hq with h | h
        · exact hS.2.2 q h
        · exact hL q h⟩ (by rw [e1]; exact hce) hcv hcl T' rfl X'
    exact ⟨t2, st.trans a1, b1⟩
theorem stk {st : List Value} {n : Nat} {w : Value} {t : List Value} (h : st.drop n = w :: t) : st.map (up b ex) = (((st.take n).reverse).map (up b ex)).reverse ++ up b ex w :: t.map (up b ex) := by
  rw [List.map_reverse, List.reverse_reverse]
  conv => lhs; rw [← List.take_append_drop n st, h]
  rw [List.map_append, List.map_cons]
theorem stk_len {st : List Value} {n : Nat} {w : Value} {t : List Value} (h : st.drop n = w :: t) : (((st.take n).reverse).map (up b ex)).length = n := by
  have h1 : n < st.length := by
    rcases Nat.lt_or_ge n st.length with q | q
    · exact q
    · rw [List.drop_eq_nil_of_le q] at h
      cases h
  simp
  omega
theorem ret_st (v : Option Value) (rest : List Value) : (v.map (up b ex)).toList ++ rest.map (up b ex) = (v.toList ++ rest).map (up b ex) := by
  cases v <;> rfl
theorem np_of {y : MethodName} {n : Nat} (h : npO y n = true) : (parseMethodDescriptor y.desc).map (fun d => d.parameters.length) = some n := of_decide_eq_true h
theorem np_len {y : MethodName} {n : Nat} (h : npO y n = true) : ∀ sig, parseMethodDescriptor y.desc = some sig → n = sig.parameters.length := by
  intro sig hs
  have h1 := np_of h
  rw [hs] at h1
  exact (Option.some.inj h1).symm
theorem nMH_of {y : MethodName} (h : nMH y = true) : y.cls ≠ "java/lang/invoke/MethodHandle" ∧ y.cls ≠ "java/lang/invoke/VarHandle" := by
  unfold nMH at h
  rw [Bool.and_eq_true] at h
  exact ⟨of_decide_eq_true h.1, of_decide_eq_true h.2⟩
end MC
