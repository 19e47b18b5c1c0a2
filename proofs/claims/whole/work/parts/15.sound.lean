/-! ===== a run of the mini machine is a run of the JVM ===== -/
theorem rt_at {j : Nat} {i : Instr} {st : List Value} {v : Option Value} (h : rt j i st = some v) : (∃ x ty, i = .ireturn ∧ st = [.int x] ∧ mR j = some ty ∧ narrow ty (.int x) = .int x ∧ v = some (.int x)) ∨ (∃ x, i = .lreturn ∧ st = [.long x] ∧ mR j = some .long ∧ v = some (.long x)) ∨ (i = .return_ ∧ st = [] ∧ mR j = none ∧ v = none) := by
  cases i
  case ireturn =>
    simp only [rt] at h
    split at h
    · rename_i x
      split at h
      · rename_i ty hty
        split at h
        · rename_i hn
          cases h
          exact Or.inl ⟨x, ty, rfl, rfl, hty, hn, rfl⟩
        · cases h
      · cases h
    · cases h
  case lreturn =>
    simp only [rt] at h
    split at h
    · rename_i x
      split at h
      · rename_i hr
        cases h
        exact Or.inr (Or.inl ⟨x, rfl, rfl, hr, rfl⟩)
      · cases h
    · cases h
  case return_ =>
    simp only [rt] at h
    split at h
    · split at h
      · rename_i hr
        cases h
        exact Or.inr (Or.inr ⟨rfl, rfl, hr, rfl⟩)
      · cases h
    · cases h
  all_goals exact (nomatch (show (none : Option (Option Value)) = some _ from h))
def IxH (l : Launch) (b : Nat) (ex : Nat → Nat) (xs : Nat → Int32) (L : Nat) : Prop := ∀ (p : Program) (e : Env) (R : Room) (s : State) (m : MethodId) (args : Array Value) (below : List Frame) (meth : Method) (c : Code) (d : Nat), p.tables.exec = Jvm.exec → (∀ w ∈ mjS, goodWord w = true → w.before args s = true) → StF b ex xs L s s.heap → d ≤ R.frames → 41 * d ≤ R.locals → IxS p l e R s m args below meth c b ex d
def Sd (l : Launch) (D : va_G) (b : Nat) (ex : Nat → Nat) (cA : FieldType → ClassId) (xs : Nat → Int32) (L n : Nat) : Prop :=
  ∀ (d j pc : Nat) (vs st : List Value) (M : MH) (o : Option (Option Value)) (M' : MH), xq xs L n d j pc vs st M = some (o, M') →
  ∀ (p : Program) (e : Env) (R : Room) (s : State) (m : MethodId) (args : Array Value) (below : List Frame) (meth : Method) (c : Code) (H : Heap) (locs : List Loc) (cells slots : Nat) (Q : State → Prop) (ls : Array Slot) (sl0 : Nat),
    p.tables.exec = Jvm.exec → c.code = mB j → c.maxLocals = mL j → s.vm.findClass (oN (mO j)) = some m.cls → meth.name = (mY j).name → (∀ w ∈ mjS, goodWord w = true → w.before args s = true) → meth.locks = false → c.exceptionTable.toList = tableOf (mHH j) → va_K D mjC (tyL cA) s → StF b ex xs L s s.heap → d ≤ R.frames → 41 * d ≤ R.locals →
    Inv M → va_P D mjC (wsO b ex cA M) H → H.size = b + M.2.2.2.2.1 + 1 → s.heap.size + cells = b + M.2.2.2.2.1 + 1 → va_S (Ab b) s.heap H locs → LV b ex vs ls → vs.length = mL j → b < s.heap.size → b + M'.2.2.2.2.1 + 1 ≤ s.heap.size + R.cells → sl0 + slots = M.2.2.2.2.2 → M'.2.2.2.2.2 ≤ sl0 + R.slots →
    (∀ (v : Option Value), o = some v → ∀ (H1 : Heap) (locs1 : List Loc) (cells1 slots1 pc1 : Nat) (ls1 : Array Slot) (i : Instr) (st1 : List Value), va_P D mjC (wsO b ex cA M') H1 → H1.size = b + M'.2.2.2.2.1 + 1 → va_S (Ab b) s.heap H1 locs1 → s.heap.size + cells1 = b + M'.2.2.2.2.1 + 1 → sl0 + slots1 = M'.2.2.2.2.2 → decode (mB j) pc1 = .ok (i, 1) → rt j i st1 = some v → W p l e R s m args below meth c H1 locs1 cells1 slots1 Q (F0 m pc1 ls1 (st1.map (up b ex)))) →
    (o = none → ∃ (mc ms : Nat) (Qc : Array Value → State → Outcome → State → Prop), Q = vx_MQ below Qc (XcM D b ex cA M') args s mc ms (Ab b) ∧ s.heap.size + mc = b + M'.2.2.2.2.1 + 1 ∧ sl0 + ms = M'.2.2.2.2.2) →
    W p l e R s m args below meth c H locs cells slots Q (F0 m pc ls (st.map (up b ex)))
section SD
variable {l : Launch} {D : va_G} {b : Nat} {ex : Nat → Nat} {cA : FieldType → ClassId} {xs : Nat → Int32} {L n : Nat}
/-- the end of a method, as the kit's returns have it -/
theorem sd_ret {p : Program} {e : Env} {R : Room} {s : State} {m : MethodId} {args : Array Value} {below : List Frame} {meth : Method} {c : Code} {H1 : Heap} {locs1 : List Loc} {cells1 slots1 pc1 j : Nat} {ls1 : Array Slot} {i : Instr} {st1 : List Value} {v : Option Value} {M' : MH} (hx : p.tables.exec = Jvm.exec) (hb : c.code = mB j) (hr : meth.sig.returnType = mR j) (hlocks : meth.locks = false)
    (hP : va_P D mjC (wsO b ex cA M') H1) (hz : H1.size = b + M'.2.2.2.2.1 + 1) (hS : va_S (Ab b) s.heap H1 locs1) (hd : decode (mB j) pc1 = .ok (i, 1)) (h : rt j i st1 = some v) : W p l e R s m args below meth c H1 locs1 cells1 slots1 (MQ below (QcM D b ex cA v M') args s cells1 slots1 (Ab b)) (F0 m pc1 ls1 (st1.map (up b ex))) := by
  rcases rt_at h with ⟨x, ty, rfl, rfl, hty, hn, rfl⟩ | ⟨x, rfl, rfl, hty, rfl⟩ | ⟨rfl, rfl, hty, rfl⟩
  · exact W.zret (ty := ty) hx hb (hr.trans hty) hn (fun t ht _ => ⟨⟨rfl, by rw [ht]; exact hz, by rw [ht]; exact hP⟩, hS.F ht⟩) hS.2.2 hd hlocks
  · exact W.lret hx hb (hr.trans hty) (fun t ht _ => ⟨⟨rfl, by rw [ht]; exact hz, by rw [ht]; exact hP⟩, hS.F ht⟩) hS.2.2 hd hlocks
  · exact W.vret hx hb (hr.trans hty) (fun t ht _ => ⟨⟨rfl, by rw [ht]; exact hz, by rw [ht]; exact hP⟩, hS.F ht⟩) hS.2.2 hd hlocks
set_option maxHeartbeats 4000000 in
/-- a callee that returns -/
theorem cm_ret (ih : Sd l D b ex cA xs L n) {d k : Nat} {as : List Value} {M M1 : MH} {v : Option Value} (hq : xq xs L n d k 0 (en k as) [] M = some (some v, M1)) (hI : Inv M) (hlen : (lay as).length ≤ mL k) (hH : mHH k = []) :
    Met l (mY k) (mWs k) ({ frames := d, cells := M1.2.2.2.2.1 - M.2.2.2.2.1, slots := M1.2.2.2.2.2 - M.2.2.2.2.2, locals := 41 * d } : Room) (PcM D b ex cA xs L as M) (QcM D b ex cA v M1) (M1.2.2.2.2.1 - M.2.2.2.2.1) (M1.2.2.2.2.2 - M.2.2.2.2.2) (Ab b) := by
  have hgr := gr_xq _ _ _ _ _ _ _ _ _ hq
  have hw : mWs k = Cond.code (mY k) (mB k) (mL k) (mR k) :: mjS.filter goodWord := by
    unfold mWs mCo
    rw [if_pos hH]
  refine Met.ofW (cc := mB k) (maxL := mL k) (ret := mR k) (m_plain k) hw ?_
  intro p e s m args below meth c s₁ B hml hv
  obtain ⟨rfl, hsz, hP, hK, hSt⟩ := hv
  have hts0 := atoms_spec (ws := mWs k) B.pre
  have htab : c.exceptionTable.toList = tableOf (mHH k) := by
    obtain ⟨meth9, c9, h1, h2, -, -, -, -, h7, -⟩ := Cond.code_spec B.named (hts0 _ (by rw [hw]; exact List.mem_cons_self))
    cases Option.some.inj (h1.symm.trans B.method)
    cases Option.some.inj (h2.symm.trans (Stand.of_body B).code)
    rw [hH, Array.isEmpty_iff.mp h7]
    rfl
  rw [lg_entry_eq]
  refine ih d k 0 (en k as) [] M (some v) M1 hq p e _ s m _ below meth c s.heap [] 0 0 _ _ M.2.2.2.2.2 B.exec B.bytes hml (by rw [m_own]; exact findClass_of_methodNamed B.named) (name_of_methodNamed B.named B.method).1 (fun w h1 h2 => hts0 w (List.mem_cons_of_mem _ (List.mem_filter.mpr ⟨h1, h2⟩))) B.notSynchronized htab hK hSt (Nat.le_refl _) (Nat.le_refl _) hI hP hsz (by omega) va_S.rf (LV.entry b ex as k hlen) ?_ (by omega) ?_ rfl ?_ ?_ (fun h => by cases h)
  · simp only [en, List.length_append, List.length_replicate]
    omega
  · have := hgr.2.1
    show b + M1.2.2.2.2.1 + 1 ≤ s.heap.size + (M1.2.2.2.2.1 - M.2.2.2.2.1)
    omega
  · have := hgr.2.2
    show M1.2.2.2.2.2 ≤ M.2.2.2.2.2 + (M1.2.2.2.2.2 - M.2.2.2.2.2)
    omega
  · intro v9 hv9 H1 locs1 cells1 slots1 pc1 ls1 i st1 q1 q2 q3 q4 q5 q6 q7
    cases hv9
    have e1 : cells1 = M1.2.2.2.2.1 - M.2.2.2.2.1 := by omega
    have e2 : slots1 = M1.2.2.2.2.2 - M.2.2.2.2.2 := by omega
    subst e1
    subst e2
    exact sd_ret B.exec B.bytes B.returns B.notSynchronized q1 q2 q3 q6 q7
set_option maxHeartbeats 4000000 in
/-- a callee with a table of its own that returns -/
theorem cm_retH (ih : Sd l D b ex cA xs L n) {d k : Nat} {as : List Value} {M M1 : MH} {v : Option Value} (hq : xq xs L n d k 0 (en k as) [] M = some (some v, M1)) (hI : Inv M) (hlen : (lay as).length ≤ mL k) (hH : ¬ mHH k = []) :
    vx_Met l (mY k) (mWs k) ({ frames := d, cells := M1.2.2.2.2.1 - M.2.2.2.2.1, slots := M1.2.2.2.2.2 - M.2.2.2.2.2, locals := 41 * d } : Room) (PcM D b ex cA xs L as M) (QcM D b ex cA v M1) (fun _ _ _ => False) (M1.2.2.2.2.1 - M.2.2.2.2.1) (M1.2.2.2.2.2 - M.2.2.2.2.2) (Ab b) := by
  have hgr := gr_xq _ _ _ _ _ _ _ _ _ hq
  have hw : mWs k = Cond.codeWith (mY k) (mB k) (mL k) (mR k) (mHH k) :: mjS.filter goodWord := by
    unfold mWs mCo
    rw [if_neg hH]
  refine vx_ofWH (cc := mB k) (maxL := mL k) (ret := mR k) (m_plain k) hw ?_
  intro p e s m args below meth c s₁ B hml hv
  obtain ⟨rfl, hsz, hP, hK, hSt⟩ := hv
  have hts0 := atoms_spec (ws := mWs k) B.pre
  have htab : c.exceptionTable.toList = tableOf (mHH k) := vx_table (x := mY k) B (hts0 _ (by rw [hw]; exact List.mem_cons_self))
  rw [lg_entry_eq]
  refine ih d k 0 (en k as) [] M (some v) M1 hq p e _ s m _ below meth c s.heap [] 0 0 _ _ M.2.2.2.2.2 B.exec B.bytes hml (by rw [m_own]; exact findClass_of_methodNamed B.named) (name_of_methodNamed B.named B.method).1 (fun w h1 h2 => hts0 w (List.mem_cons_of_mem _ (List.mem_filter.mpr ⟨h1, h2⟩))) B.notSynchronized htab hK hSt (Nat.le_refl _) (Nat.le_refl _) hI hP hsz (by omega) va_S.rf (LV.entry b ex as k hlen) ?_ (by omega) ?_ rfl ?_ ?_ (fun h => by cases h)
  · simp only [en, List.length_append, List.length_replicate]
    omega
  · have := hgr.2.1
    show b + M1.2.2.2.2.1 + 1 ≤ s.heap.size + (M1.2.2.2.2.1 - M.2.2.2.2.1)
    omega
  · have := hgr.2.2
    show M1.2.2.2.2.2 ≤ M.2.2.2.2.2 + (M1.2.2.2.2.2 - M.2.2.2.2.2)
    omega
  · intro v9 hv9 H1 locs1 cells1 slots1 pc1 ls1 i st1 q1 q2 q3 q4 q5 q6 q7
    cases hv9
    have e1 : cells1 = M1.2.2.2.2.1 - M.2.2.2.2.1 := by omega
    have e2 : slots1 = M1.2.2.2.2.2 - M.2.2.2.2.2 := by omega
    subst e1
    subst e2
    exact vx_ret (sd_ret B.exec B.bytes B.returns B.notSynchronized q1 q2 q3 q6 q7)
set_option maxHeartbeats 4000000 in
/-- a callee that throws -/
theorem cm_thr (ih : Sd l D b ex cA xs L n) {d k : Nat} {as : List Value} {M M1 : MH} (hq : xq xs L n d k 0 (en k as) [] M = some (none, M1)) (hI : Inv M) (hlen : (lay as).length ≤ mL k) (hH : mHH k = []) :
    vx_Met l (mY k) (mWs k) ({ frames := d, cells := M1.2.2.2.2.1 - M.2.2.2.2.1, slots := M1.2.2.2.2.2 - M.2.2.2.2.2, locals := 41 * d } : Room) (PcM D b ex cA xs L as M) (fun _ _ _ _ => False) (XcM D b ex cA M1) (M1.2.2.2.2.1 - M.2.2.2.2.1) (M1.2.2.2.2.2 - M.2.2.2.2.2) (Ab b) := by
  have hgr := gr_xq _ _ _ _ _ _ _ _ _ hq
  have hw : mWs k = Cond.code (mY k) (mB k) (mL k) (mR k) :: mjS.filter goodWord := by
    unfold mWs mCo
    rw [if_pos hH]
  refine vx_ofW (cc := mB k) (maxL := mL k) (ret := mR k) (m_plain k) hw ?_
  intro p e s m args below meth c s₁ B hml htb hv
  obtain ⟨rfl, hsz, hP, hK, hSt⟩ := hv
  have hts0 := atoms_spec (ws := mWs k) B.pre
  have htab : c.exceptionTable.toList = tableOf (mHH k) := by
    rw [hH]
    cases hc : c.exceptionTable.toList with
    | nil => rfl
    | cons x t => exact absurd (by rw [hc]; exact List.mem_cons_self) (fun h => htb x h)
  rw [lg_entry_eq]
  refine ih d k 0 (en k as) [] M none M1 hq p e _ s m _ below meth c s.heap [] 0 0 _ _ M.2.2.2.2.2 B.exec B.bytes hml (by rw [m_own]; exact findClass_of_methodNamed B.named) (name_of_methodNamed B.named B.method).1 (fun w h1 h2 => hts0 w (List.mem_cons_of_mem _ (List.mem_filter.mpr ⟨h1, h2⟩))) B.notSynchronized htab hK hSt (Nat.le_refl _) (Nat.le_refl _) hI hP hsz (by omega) va_S.rf (LV.entry b ex as k hlen) ?_ (by omega) ?_ rfl ?_ (fun v h => by cases h) (fun _ => ⟨_, _, _, rfl, ?_, ?_⟩)
  · simp only [en, List.length_append, List.length_replicate]
    omega
  · have := hgr.2.1
    show b + M1.2.2.2.2.1 + 1 ≤ s.heap.size + (M1.2.2.2.2.1 - M.2.2.2.2.1)
    omega
  · have := hgr.2.2
    show M1.2.2.2.2.2 ≤ M.2.2.2.2.2 + (M1.2.2.2.2.2 - M.2.2.2.2.2)
    omega
  · have := hgr.2.1
    omega
  · have := hgr.2.2
    omega
end SD
