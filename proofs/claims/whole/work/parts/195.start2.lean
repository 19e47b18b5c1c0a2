/-! ===== the statics at the start; the law out of a run of the mini machine ===== -/
abbrev fls : List Cond := flatC (Jvm.Cond.and given_1 narrow_1)
abbrev tmL : Term := .static RX0 "LANES_WITH" "[J"
abbrev tmW : Term := .static RX14 "WORDS" "[J"
abbrev tmS : Term := .string RX14 115
abbrev tmV : Term := .field tmS "java/lang/String" "value" "[B"
theorem fl_L : Cond.arrayOf tmL .long ∈ fls ∧ Cond.eq (.length tmL) (.int 6) ∈ fls ∧ (List.range 6).all (fun j => decide (Cond.eq (.elem tmL (.int (Int32.ofNat j))) (.long ((jTab 1).getD j 0)) ∈ fls)) = true := by decide +kernel
theorem fl_W : Cond.arrayOf tmW .long ∈ fls ∧ Cond.eq (.length tmW) (.int 9) ∈ fls ∧ (List.range 9).all (fun j => decide (Cond.eq (.elem tmW (.int (Int32.ofNat j))) (.long ((jTab 2).getD j 0)) ∈ fls)) = true := by decide +kernel
theorem fl_S : Cond.exactly tmS "java/lang/String" ∈ fls ∧ Cond.eq (.field tmS "java/lang/String" "coder" "B") (.int 0) ∈ fls ∧ Cond.arrayOf tmV .byte ∈ fls ∧ Cond.eq (.length tmV) (.int (Int32.ofNat 10)) ∈ fls ∧ (List.range 10).all (fun j => decide (Cond.eq (.elem tmV (.int (Int32.ofNat j))) (.int (ixB.getD j 0)) ∈ fls)) = true := by decide +kernel
theorem fl_C : Cond.eq (.static RJ0 "COMPACT_STRINGS" "Z") (.int 1) ∈ fls ∧ Cond.isRef (.static Bundle.tN "UNASSIGNED_STACK" Bundle.steD) ∈ fls ∧ Cond.isRef (.static Bundle.tN "SUPPRESSED_SENTINEL" Bundle.listD) ∈ fls := by decide +kernel
theorem mj_ls : Cond.laysStatic RX0 "LANES_WITH" "[J" ∈ mjS ∧ Cond.laysStatic RX14 "WORDS" "[J" ∈ mjS ∧ Cond.laysStatic RJ0 "COMPACT_STRINGS" "Z" ∈ mjS ∧ Cond.laysStatic Bundle.tN "UNASSIGNED_STACK" Bundle.steD ∈ mjS ∧ Cond.laysStatic Bundle.tN "SUPPRESSED_SENTINEL" Bundle.listD ∈ mjS := by decide +kernel
theorem mj_in : Cond.initialized RX0 ∈ mjS ∧ Cond.initialized RX14 ∈ mjS ∧ Cond.initialized RJ0 ∈ mjS ∧ Cond.initialized Bundle.tN ∈ mjS ∧ Cond.stringRef RX14 115 "=&|^!();,." ∈ mjS := by decide +kernel
theorem isNw_tab {w : Cond} (h : isNw w = true) : w.onTables = true := by
  cases w <;> first | rfl | exact Bool.noConfusion h
theorem stf_start {s : State} {args : Array Value} {bA L : Nat} {xs : Nat → Int32} (hts : ∀ w ∈ mjS, w.before args s = true) (hgv : (Jvm.Cond.and given_1 narrow_1).before args s = true) (hX : va_X bA L xs s s.heap) (hbl : bA < s.heap.size) : ∃ ex : Nat → Nat, ex 0 = bA ∧ StF (s.heap.size - 1) ex xs L s s.heap := by
  have hs := flat_of_before _ hgv
  have hA : ∀ a : Nat, a < s.heap.size → ¬ Ab (s.heap.size - 1) a := fun a h q => by
    have q : s.heap.size - 1 < a := q
    omega
  obtain ⟨t1, v1, T1⟩ := va_Tof (tm := tmL) (ty := .long) (N := 6) (f := fun j => .long ((jTab 1).getD j 0)) (A := Ab (s.heap.size - 1)) (by decide) (hs _ fl_L.1) (va_eqt (hs _ fl_L.2.1)) (fun j hj => va_eqtl (hs _ (of_decide_eq_true (List.all_eq_true.mp fl_L.2.2 j (List.mem_range.mpr hj))))) hA
  obtain ⟨t2, v2, T2⟩ := va_Tof (tm := tmW) (ty := .long) (N := 9) (f := fun j => .long ((jTab 2).getD j 0)) (A := Ab (s.heap.size - 1)) (by decide) (hs _ fl_W.1) (va_eqt (hs _ fl_W.2.1)) (fun j hj => va_eqtl (hs _ (of_decide_eq_true (List.all_eq_true.mp fl_W.2.2 j (List.mem_range.mpr hj))))) hA
  have hS1 := vk_Sof (args := args) (s := s) (N := 1) (tm := fun _ => tmS) (len := [10]) (byt := [ixB]) (A := Ab (s.heap.size - 1)) (fun i hi => by rw [show i = 0 by omega]; decide) (fun i hi => hs _ fl_S.1) (fun i hi => hs _ fl_S.2.1) (fun i hi => hs _ fl_S.2.2.1) (fun i hi => by rw [show i = 0 by omega]; exact hs _ fl_S.2.2.2.1) (fun i hi j hj => by
      have e : i = 0 := by omega
      subst e
      exact hs _ (of_decide_eq_true (List.all_eq_true.mp fl_S.2.2.2.2 j (List.mem_range.mpr hj)))) (fun i j hi hj hij => by omega) hA
  obtain ⟨adK, adV, hSS, hSt⟩ := hS1
  have hSt0 := hSt 0 (by decide)
  refine ⟨fun n => match n with | 0 => bA | 1 => t1 | 2 => t2 | 3 => adK 0 | _ => adV 0, rfl, ⟨va_Zof (hts _ mj_ls.1) (hts _ mj_in.1) v1 hA, T1⟩, ⟨va_Zof (hts _ mj_ls.2.1) (hts _ mj_in.2.1) v2 hA, T2⟩, ⟨?_, ⟨fun i hi => ?_, fun i j hi hj _ => by omega⟩, va_Zof (hts _ mj_ls.2.2.1) (hts _ mj_in.2.2.1) (va_eqi (hs _ fl_C.1)) hA⟩, ⟨vx_Zqof (hts _ mj_ls.2.2.2.1) (hts _ mj_in.2.2.2.1) (hs _ fl_C.2.1) hA, vx_Zqof (hts _ mj_ls.2.2.2.2) (hts _ mj_in.2.2.2.1) (hs _ fl_C.2.2) hA⟩, fun w hw h => va_Nw.of (isNw_tab h) (hts w hw), hX, by show bA ≤ s.heap.size - 1; omega, hbl⟩
  · exact vk_R.of (A := args) (U := s) (hts _ mj_in.2.2.2.2) hSt0
  · have e : i = 0 := by omega
    subst e
    exact hSS.1 0 (by decide)
/-- the empty heap of the mini machine -/
def M00 : MH := (fun _ => .inl 99, fun _ _ => 0, fun _ _ => 0, fun _ _ => 0, 0, 0)
def LawP : Prop := ∀ (xs : Nat → Int32) (L : Nat), L ≤ 384 → ∃ (n : Nat) (M' : MH), xq xs L n 2000 168 0 [.retAddr 0, .null, .null, .null] [] M00 = some (some (some (.int 1)), M') ∧ M'.2.2.2.2.1 ≤ 600128 ∧ M'.2.2.2.2.2 ≤ 7301098
set_option maxHeartbeats 4000000 in
set_option maxRecDepth 100000 in
theorem whole_of (LP : LawP) {p : Program} {e : Env} {s : State} {m : MethodId} {below : List Frame} {meth : Method} {c : Code} (l : Launch) (hfl : l.flags = flags0) {bA L : Nat} {xs : Nat → Int32} (hL : L ≤ 384) (C0 : lw_At p s m meth c bA L xs) : W p l e room_1 s m #[Value.ref bA] below meth c s.heap [] 0 0 (lw_Z below #[Value.ref bA] s) (entryFrame m ([Value.ref bA] : List Value).toArray 4) := by
  obtain ⟨hx, hb, hr, hml, hown, hts0, hX, hbl, hlocks, hgv, hnm, htab⟩ := C0
  have hts := hts_all hts0
  obtain ⟨D, hD⟩ := known_all hts
  obtain ⟨cA, hcA⟩ := arr_all hts
  obtain ⟨ex, hex, hSt⟩ := stf_start hts hgv hX hbl
  obtain ⟨n, M', hq, hz, hsl⟩ := LP xs L hL
  have hnt : l.stackTraces = false := by
    unfold Launch.stackTraces
    rw [hfl]
    decide +kernel
  have hbb : s.heap.size - 1 + 1 = s.heap.size := by omega
  have hK : va_K D mjC (tyL cA) s := ⟨hD, hcA⟩
  have hLV := LV.entry (s.heap.size - 1) ex [.retAddr 0] 168 (by decide)
  have hmap : ([.retAddr 0] : List Value).map (up (s.heap.size - 1) ex) = [Value.ref bA] := by
    show [Value.ref (ex 0)] = [Value.ref bA]
    rw [hex]
  rw [hmap] at hLV
  rw [lg_entry_eq]
  refine sd_all (D := D) (cA := cA) ixH_all hnt n 2000 168 0 [.retAddr 0, .null, .null, .null] [] M00 (some (some (.int 1))) M' hq p e room_1 s m _ below meth c s.heap [] 0 0 _ _ 0 hx hb hml hown hnm (fun w hw _ => hts w hw) hlocks (by rw [htab]; rfl) hK hSt (by decide) (by decide) ⟨fun _ _ => rfl, fun a ty n h => by cases h⟩ (fun k q h => by simp [wsO, M00] at h) (by show s.heap.size = s.heap.size - 1 + 0 + 1; omega) (by show s.heap.size + 0 = s.heap.size - 1 + 0 + 1; omega) va_S.rf hLV rfl (by omega) (by show s.heap.size - 1 + M'.2.2.2.2.1 + 1 ≤ s.heap.size + 600128; omega) rfl (by show M'.2.2.2.2.2 ≤ 0 + 7301098; omega) ?_ (fun h => by cases h)
  intro v hv H1 locs1 cells1 slots1 pc1 ls1 i st1 q1 q2 q3 q4 q5 q6 q7
  cases hv
  rcases rt_at q7 with ⟨x, ty, rfl, rfl, hty, hn, hv⟩ | ⟨x, rfl, rfl, hty, hv⟩ | ⟨rfl, rfl, hty, hv⟩
  · cases hv
    refine va_forget (fun q hq => ?_) ?_
    · have := q3.2.2 q hq
      have : s.heap.size - 1 < q.base := this
      omega
    · refine W.widen (k := 600128) (n := 7301098) (by omega) (by omega) ?_
      exact lw_ret hx hb hr hlocks q6
  · cases hv
  · cases hv
