/-! ===== the start ===== -/
def R_law : String := "TrajectoryRailsLaw"
def lw_P (b : Addr) (xs : List Int32) (args : Array Value) (s : State) : Prop := args = #[.ref b] ∧ s.IntsAt b xs ∧ xs.length ≤ 384 ∧ (Jvm.Cond.and given_1 narrow_1).before args s = true
def lw_Q (_ : Array Value) (s : State) (o : Outcome) (t : State) : Prop := o = .returned (some (.int 1)) ∧ Framed s o t [] 600128 7301098
def lw_Z (below : List Frame) (a : Array Value) (s : State) : State → Prop := fun t => ∃ o, t.status = .running ∧ Ended t below o ∧ lw_Q a s o t
/-- the law's own end, with 1 on the stack, nothing written that was there before, its room as the claim has it -/
theorem lw_ret {p : Program} {l : Launch} {e : Env} {s : State} {m : MethodId} {below : List Frame} {meth : Method} {c : Code} {b : Nat} (hx : p.tables.exec = Jvm.exec) (hb : c.code = code) (hr : meth.sig.returnType = ret) (hlocks : meth.locks = false) {pc : Nat} {H : Heap} {ls : Array Slot} (hdg : decode code pc = .ok (.ireturn, 1)) : W p l e room_1 s m #[Value.ref b] below meth c H [] 600128 7301098 (lw_Z below #[Value.ref b] s) (F0 m pc ls [.int 1]) := by
  intro T hT X
  obtain ⟨fs, hret, hrun, hended, hW, hframe⟩ := X.leave (v := some (.int 1)) (hlocks := hlocks) (fun h => by rw [hr] at h; cases h)
  have hmeth' : T.vm.method? m = some meth := X.method'
  refine ⟨T.setFrames fs, ?_, .returned (some (.int 1)), hrun, hended, rfl, ⟨_, rfl⟩, hW, hframe⟩
  jvm_step X.here [X.here.top, hx, hb, hdg, hmeth', hr, ret, narrow_b1]
  (try refine ⟨rfl, ?_⟩); (try refine ⟨rfl, ?_⟩)
  first | (intro acts; rw [hret _ acts rfl rfl rfl]) | rw [hret _ _ rfl rfl rfl]
  exact Steps.refl _
/-- what holds at the law's entry: the machine, the code, the tables' words (any of lw_tbl by 'hts w (by decide +kernel)'), the script of L ints xs at the cell b, what the Statement gives of the start (any of its parts by flat_of_before) -/
def lw_At (p : Program) (s : State) (m : MethodId) (meth : Method) (c : Code) (b L : Nat) (xs : Nat → Int32) : Prop :=
  p.tables.exec = Jvm.exec ∧ c.code = code ∧ meth.sig.returnType = ret ∧ c.maxLocals = 4 ∧ s.vm.findClass R_law = some m.cls ∧ (∀ w ∈ lw_tbl, w.before #[Value.ref b] s = true) ∧ va_X b L xs s s.heap ∧ b < s.heap.size ∧ meth.locks = false ∧ (Jvm.Cond.and given_1 narrow_1).before #[Value.ref b] s = true ∧ meth.name = "law" ∧ c.exceptionTable.toList = []

theorem sel_priv {C : String} {y z x : MethodName} {s : State} {args : Array Value} {n : Nat} (hy : y.cls ≠ "java/lang/invoke/MethodHandle" ∧ y.cls ≠ "java/lang/invoke/VarHandle") (hzy : z.cls = y.cls) (hins : (Cond.instantiable C n).before args s = true) (hz : (Cond.selects C x z).before args s = true) (hpriv : (Cond.privateMethod y).before args s = true) (hinst : (Cond.instanceMethod y).before args s = true) : (Cond.selects C y y).before args s = true := by
  obtain ⟨c, k, hc, hk, -, -, -, -⟩ := Cond.instantiable_spec hins
  obtain ⟨mk, methM, hnamed, hmethM, -, -⟩ := Cond.instanceMethod_spec hinst
  have hfound : s.methodFound? y.cls y.name y.desc = some mk := State.methodFound?_of_named hnamed hy
  have hsel : selectMethod {} s.vm c mk = .method mk := selectMethod_private hmethM (Cond.privateMethod_at hpriv mk methM hnamed hmethM)
  obtain ⟨c2, r2, m2, q1, q2, q3, q4, kP, hkP, hkPi⟩ := Cond.selects_spec hz
  have hcls : m2.cls = mk.cls := by
    have h1 := findClass_of_methodNamed q3
    have h2 := findClass_of_methodNamed hnamed
    rw [hzy] at h1
    exact Option.some.inj (h1.symm.trans h2)
  rw [hcls] at hkP
  simp only [Cond.before, Cond.holds, Cond.value, hc, hfound, hnamed, hsel, hkP]
  simp; exact hkPi
def ckX (q : String × MethodName) : Bool := nMH q.2 && (decide (q.2.cls = "TrajectoryRails$Reader") && (decide (Cond.instantiable q.1 8 ∈ lw_tbl) && (decide (Cond.selects q.1 ⟨q.1, "takeFormula", "()Z"⟩ ⟨"TrajectoryRails$Reader", "takeFormula", "()Z"⟩ ∈ lw_tbl) && (decide (Cond.privateMethod q.2 ∈ lw_tbl) && decide (Cond.instanceMethod q.2 ∈ lw_tbl)))))
theorem mjX_ok : mjX.all ckX = true := by decide +kernel
theorem hts_all {s : State} {args : Array Value} (hts : ∀ w ∈ lw_tbl, w.before args s = true) : ∀ w ∈ mjS, w.before args s = true := by
  intro w hw
  rcases List.mem_append.mp hw with hw | hw
  · obtain ⟨q, hq, rfl⟩ := List.mem_map.mp hw
    have h := List.all_eq_true.mp mjX_ok q hq
    unfold ckX at h
    rw [Bool.and_eq_true, Bool.and_eq_true, Bool.and_eq_true, Bool.and_eq_true, Bool.and_eq_true] at h
    obtain ⟨c1, c2, c3, c4, c5, c6⟩ := h
    exact sel_priv (nMH_of c1) (of_decide_eq_true c2).symm (hts _ (of_decide_eq_true c3)) (hts _ (of_decide_eq_true c4)) (hts _ (of_decide_eq_true c5)) (hts _ (of_decide_eq_true c6))
  · exact hts w hw
theorem mjI_ok : (List.range 14).all (fun ci => decide (Cond.instantiable (mjCN ci) (nF ci) ∈ mjS)) = true := by decide +kernel
theorem mjI_14 : Cond.instantiable (mjCN 14) 6 ∈ mjS := by decide +kernel
theorem known_all {s : State} {args : Array Value} (hts : ∀ w ∈ mjS, w.before args s = true) : ∃ D : va_G, ∀ (k : Nat) (q : vw_C), mjC[k]? = some q → u_Kn s q.1 q.2.1 q.2.2 (D.1 k) (D.2 k) := by
  have h0 : ∀ ci : Nat, ∃ z : ClassId × (Nat → Nat), ci < 15 → u_Kn s (mjCN ci) (mjTT ci) (nF ci) z.1 z.2 := by
    intro ci
    by_cases hci : ci < 15
    · by_cases h14 : ci < 14
      · obtain ⟨cC, iS, h⟩ := u_known (C := mjCN ci) (T := mjTT ci) (N := nF ci) (n := nF ci) hts (fun w hw => (List.mem_filter.mp (mjL_at h14 w hw)).1) (hts _ (of_decide_eq_true (List.all_eq_true.mp mjI_ok ci (List.mem_range.mpr h14))))
        exact ⟨(cC, iS), fun _ => h⟩
      · have e : ci = 14 := by omega
        subst e
        obtain ⟨cC, iS, h⟩ := u_known (C := mjCN 14) (T := mjTT 14) (N := nF 14) (n := 6) hts (fun w hw => by cases hw) (hts _ mjI_14)
        exact ⟨(cC, iS), fun _ => h⟩
    · exact ⟨(0, fun _ => 0), fun h => absurd h hci⟩
  obtain ⟨f, hf⟩ := Classical.axiomOfChoice h0
  refine ⟨(fun k => (f k).1, fun k => (f k).2), fun k q hq => ?_⟩
  have hk : k < 15 := (List.getElem?_eq_some_iff.mp hq).1
  rw [mjC_at hk] at hq
  cases hq
  exact hf k hk
theorem arr_all {s : State} {args : Array Value} (hts : ∀ w ∈ mjS, w.before args s = true) : ∃ cA : FieldType → ClassId, ∀ (k : Nat) (q : ClassId × FieldType), (tyL cA)[k]? = some q → ArrOfT s q.1 q.2 ∧ va_RA s q.1 q.2 := by
  have one : ∀ ty : FieldType, Cond.arrayClass ty ∈ mjS → (∀ cA, va_RA s cA ty = (s.vm.findClass ("[" ++ ty.toString) = some cA)) → ∃ c : ClassId, ArrOfT s c ty ∧ va_RA s c ty := by
    intro ty h1 h2
    obtain ⟨c, k, comp, g1, g2, g3⟩ := Cond.arrayClass_spec (args := args) (first := s) (o := none) (s := s) (idx := []) (hts _ h1)
    exact ⟨c, fun n z => ⟨fun k9 h => (by cases h), k, g2, comp, g3⟩, by rw [h2]; exact g1⟩
  obtain ⟨c1, a1⟩ := one .int mjAC.1 (fun _ => rfl)
  obtain ⟨c2, a2⟩ := one .long mjAC.2.1 (fun _ => rfl)
  obtain ⟨c3, a3⟩ := one .byte mjAC.2.2.1 (fun _ => rfl)
  obtain ⟨c4, a4⟩ := one .boolean mjAC.2.2.2 (fun _ => rfl)
  refine ⟨fun ty => match ty with | .int => c1 | .long => c2 | .byte => c3 | _ => c4, fun k q hq => ?_⟩
  match k, hq with
  | 0, hq => cases hq; exact a1
  | 1, hq => cases hq; exact a2
  | 2, hq => cases hq; exact a3
  | 3, hq => cases hq; exact a4
