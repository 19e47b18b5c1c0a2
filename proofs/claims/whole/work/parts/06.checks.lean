/-! ===== the tables say what the words say ===== -/
theorem tb_gd {α : Type} {l : List α} {n : Nat} {d : α} (h : l.length ≤ n) : l.getD n d = d := by
  rw [List.getD_eq_getElem?_getD, List.getElem?_eq_none h]
  rfl
theorem tb_all {α : Type} (T : List (List α)) (n : Nat) (hn : T.length = n) (P : Nat → α → Bool) (h : (List.range n).all (fun o => (T.getD o []).all (P o)) = true) {o : Nat} {r : α} (hr : r ∈ T.getD o []) : P o r = true := by
  by_cases ho : o < n
  · have h1 := List.all_eq_true.mp h o (List.mem_range.mpr ho)
    exact List.all_eq_true.mp h1 r hr
  · rw [tb_gd (by omega)] at hr
    cases hr
theorem tb_fd {α β : Type} {l : List α} {p : α → Bool} {f : α → β} {y : β} (h : (l.find? p).map f = some y) : ∃ r ∈ l, p r = true ∧ f r = y := by
  cases hf : l.find? p with
  | none => rw [hf] at h; cases h
  | some r => rw [hf] at h; cases h; exact ⟨r, List.mem_of_find?_eq_some hf, List.find?_some hf, rfl⟩
def mjTT (ci : Nat) : u_T := (mjC.getD ci ("", TX6, 0)).2.1
def mjCN (ci : Nat) : String := (mjC.getD ci ("", TX6, 0)).1
def ckK (o : Nat) (r : Nat × Int32 × Nat) : Bool := decide (mjS[r.2.2]? = some (Cond.constant (oN o) r.1 r.2.1))
def ckJ (o : Nat) (r : Nat × Int64 × Nat) : Bool := decide (mjS[r.2.2]? = some (Cond.constantLong (oN o) r.1 r.2.1))
def ckW (o : Nat) (r : Nat × Nat × Nat × Nat × Nat) : Bool := decide (r.2.1 < 14) && (decide (mjS[r.2.2.1]? = some (Cond.classLink (oN o) r.1 (mjCN r.2.1))) && (decide (mjS[r.2.2.2.1]? = some (Cond.instantiable (mjCN r.2.1) (nF r.2.1))) && decide (mjS[r.2.2.2.2]? = some (Cond.initialized (mjCN r.2.1)))))
def ckF (o : Nat) (r : Nat × Nat × Nat × String × Nat × Nat) : Bool := decide (r.2.1 < 14) && (decide (r.2.2.1 < nF r.2.1) && (decide (mjS[r.2.2.2.2.1]? = some (Cond.fieldLink (oN o) r.1 r.2.2.2.1 (mjTT r.2.1 r.2.2.1).2.1 (mjTT r.2.1 r.2.2.1).2.2.1)) && (if r.2.2.2.2.2 = 9999 then decide (r.2.2.2.1 = (mjTT r.2.1 r.2.2.1).1) else decide (mjS[r.2.2.2.2.2]? = some (Cond.sameField r.2.2.2.1 (mjTT r.2.1 r.2.2.1).1 (mjTT r.2.1 r.2.2.1).2.1 (mjTT r.2.1 r.2.2.1).2.2.1)))))
def nMH (y : MethodName) : Bool := decide (y.cls ≠ "java/lang/invoke/MethodHandle") && decide (y.cls ≠ "java/lang/invoke/VarHandle")
def npO (y : MethodName) (n : Nat) : Bool := decide ((parseMethodDescriptor y.desc).map (fun d => d.parameters.length) = some n)
def ckCs (o : Nat) (r : Nat × Nat × Nat × Nat × Nat) : Bool := decide (mjS[r.2.2.1]? = some (Cond.methodLink (oN o) r.1 (mY r.2.1))) && (decide (mjS[r.2.2.2.1]? = some (Cond.static (mY r.2.1))) && (decide (mjS[r.2.2.2.2]? = some (Cond.initialized (mY r.2.1).cls)) && (nMH (mY r.2.1) && (npO (mY r.2.1) (mP r.2.1) && decide (mHH r.2.1 = [])))))
def ckCp (o : Nat) (r : Nat × Nat × Nat × Nat × Nat × Nat × String) : Bool := (if r.2.2.1 = 0 then decide (mjS[r.2.2.2.1]? = some (Cond.methodLink (oN o) r.1 (mY r.2.1))) else decide (mjS[r.2.2.2.1]? = some (Cond.methodLinkNest (oN o) r.1 (mY r.2.1) r.2.2.2.2.2.2))) && (decide (mjS[r.2.2.2.2.1]? = some (Cond.instanceMethod (mY r.2.1))) && (decide (mjS[r.2.2.2.2.2.1]? = some (Cond.initialized (mY r.2.1).cls)) && (nMH (mY r.2.1) && (npO (mY r.2.1) (mP r.2.1) && (decide (mHH r.2.1 = []) && (decide (mR r.2.1 = none) && decide ((mY r.2.1).name = "<init>")))))))
/-- virtual: plain -/
def ckV0 (o : Nat) (r : Nat × Nat × Nat × Nat × MethodName × String × Nat × Nat × Nat × Nat × Nat × Nat) : Bool := decide (mjS[r.2.2.2.2.2.2.1]? = some (Cond.methodLink (oN o) r.1 (mY r.2.2.1))) && (decide (mjS[r.2.2.2.2.2.2.2.2.1]? = some (Cond.selects (mjCN r.2.1) (mY r.2.2.1) (mY r.2.2.1))) && (decide (mjS[r.2.2.2.2.2.2.2.2.2.1]? = some (Cond.instanceMethod (mY r.2.2.1))) && (decide (mjS[r.2.2.2.2.2.2.2.2.2.2.1]? = some (Cond.initialized (mY r.2.2.1).cls)) && (decide ((mY r.2.2.1).cls = mjCN r.2.1) && (nMH (mY r.2.2.1) && (npO (mY r.2.2.1) (mP r.2.2.1) && (decide (cvn o r.1 = some (mP r.2.2.1)) && decide (r.2.1 < 14))))))))
/-- virtual: inherited or overriding -/
def ckV1 (o : Nat) (r : Nat × Nat × Nat × Nat × MethodName × String × Nat × Nat × Nat × Nat × Nat × Nat) : Bool := decide (mjS[r.2.2.2.2.2.2.1]? = some (Cond.methodLink (oN o) r.1 r.2.2.2.2.1)) && (decide (mjS[r.2.2.2.2.2.2.2.1]? = some (Cond.sameMethod r.2.2.2.2.1.cls r.2.2.2.2.2.1 r.2.2.2.2.1.name r.2.2.2.2.1.desc)) && (decide (mjS[r.2.2.2.2.2.2.2.2.1]? = some (Cond.selects (mjCN r.2.1) r.2.2.2.2.1 (mY r.2.2.1))) && (decide (mjS[r.2.2.2.2.2.2.2.2.2.1]? = some (Cond.instanceMethod (mY r.2.2.1))) && (decide (mjS[r.2.2.2.2.2.2.2.2.2.2.1]? = some (Cond.initialized (mY r.2.2.1).cls)) && ((if r.2.2.2.1 = 1 then decide (mjS[r.2.2.2.2.2.2.2.2.2.2.2]? = some (Cond.declares ⟨r.2.2.2.2.2.1, r.2.2.2.2.1.name, r.2.2.2.2.1.desc⟩)) else decide (mY r.2.2.1 = ⟨r.2.2.2.2.2.1, r.2.2.2.2.1.name, r.2.2.2.2.1.desc⟩)) && (decide (r.2.2.2.2.2.1 ≠ "java/lang/invoke/MethodHandle") && (decide (r.2.2.2.2.2.1 ≠ "java/lang/invoke/VarHandle") && (npO r.2.2.2.2.1 (mP r.2.2.1) && (decide (cvn o r.1 = some (mP r.2.2.1)) && (decide (mHH r.2.2.1 = []) && decide (r.2.1 < 14)))))))))))
def ckV (o : Nat) (r : Nat × Nat × Nat × Nat × MethodName × String × Nat × Nat × Nat × Nat × Nat × Nat) : Bool := if r.2.2.2.1 = 0 then ckV0 o r else ckV1 o r
theorem mjK_ok : (List.range 18).all (fun o => (mjK.getD o []).all (ckK o)) = true := by decide +kernel
theorem mjJ_ok : (List.range 18).all (fun o => (mjJ.getD o []).all (ckJ o)) = true := by decide +kernel
theorem mjW_ok : (List.range 18).all (fun o => (mjW.getD o []).all (ckW o)) = true := by decide +kernel
theorem mjF_ok : (List.range 18).all (fun o => (mjF.getD o []).all (ckF o)) = true := by decide +kernel
theorem mjCs_ok : (List.range 18).all (fun o => (mjCs.getD o []).all (ckCs o)) = true := by decide +kernel
theorem mjCp_ok : (List.range 18).all (fun o => (mjCp.getD o []).all (ckCp o)) = true := by decide +kernel
theorem mjCv_ok : (List.range 18).all (fun o => (mjCv.getD o []).all (ckV o)) = true := by decide +kernel
theorem mjO_ok : (List.range 18).all (fun o => decide (mjO.getD o 9999 = 9999) || mjS.contains (Cond.methodLink (oN o) (mjO.getD o 9999) Lib.objectInit)) = true := by decide +kernel
theorem mjMx_ok : mjMx.all (fun r => decide (mjS[r.2.2]? = some (Cond.methodLink (oN r.1) r.2.1 Lib.Math.max.name))) = true := by decide +kernel
theorem mjS_mx : Cond.static Lib.Math.max.name ∈ mjS ∧ Cond.initialized "java/lang/Math" ∈ mjS ∧ Cond.code Lib.Math.max.name Lib.Math.max.code 2 (some .int) ∈ mjS := by decide +kernel
theorem mjS_oi : Cond.instanceMethod Lib.objectInit ∈ mjS ∧ Cond.code Lib.objectInit ⟨#[0xb1]⟩ 1 none ∈ mjS := by decide +kernel
/-- of every method: its class's name is plain, its code is among the words, at most 22 locals -/
def ckM (r : MethodName × ByteArray × Nat × Option FieldType × Nat × Nat × List (Nat × Nat × Nat × Nat)) : Bool := Jvm.plainName r.1.cls && (decide (r.2.2.1 ≤ 22) && decide (oN r.2.2.2.2.1 = r.1.cls))
theorem mjT_ok : mjT.all ckM = true := by decide +kernel
theorem mjr_ok (j : Nat) : ckM (mjr j) = true := by
  unfold mjr
  by_cases h : j < mjT.length
  · rw [List.getD_eq_getElem?_getD, List.getElem?_eq_getElem h]
    exact List.all_eq_true.mp mjT_ok _ (List.getElem_mem h)
  · rw [tb_gd (by omega)]
    decide +kernel
theorem m_plain (j : Nat) : Jvm.plainName (mY j).cls = true := (Bool.and_eq_true_iff.mp (mjr_ok j)).1
theorem m_max (j : Nat) : mL j ≤ 22 := of_decide_eq_true (Bool.and_eq_true_iff.mp (Bool.and_eq_true_iff.mp (mjr_ok j)).2).1
theorem m_own (j : Nat) : oN (mO j) = (mY j).cls := of_decide_eq_true (Bool.and_eq_true_iff.mp (Bool.and_eq_true_iff.mp (mjr_ok j)).2).2
theorem kI_mem {o k : Nat} {v : Int32} (h : kIl o k = some v) : Cond.constant (oN o) k v ∈ mjS := by
  obtain ⟨r, h1, h2, h3⟩ := tb_fd h
  have h4 := of_decide_eq_true (tb_all mjK 18 rfl ckK mjK_ok h1)
  have h5 : r.1 = k := beq_iff_eq.mp h2
  rw [h5, show r.2.1 = v from h3] at h4
  exact List.mem_of_getElem? h4
theorem kJ_mem {o k : Nat} {v : Int64} (h : kJl o k = some v) : Cond.constantLong (oN o) k v ∈ mjS := by
  obtain ⟨r, h1, h2, h3⟩ := tb_fd h
  have h4 := of_decide_eq_true (tb_all mjJ 18 rfl ckJ mjJ_ok h1)
  have h5 : r.1 = k := beq_iff_eq.mp h2
  rw [h5, show r.2.1 = v from h3] at h4
  exact List.mem_of_getElem? h4
