/-! ===== the text's indexOf ===== -/
theorem dJ0_length_8abf5_0 : decode cJ0_length_8abf5 0 = .ok (.aload_n 0, 1) := by decide +kernel
theorem dJ0_length_8abf5_1 : decode cJ0_length_8abf5 1 = .ok (.getfield 9, 3) := by decide +kernel
theorem dJ0_length_8abf5_4 : decode cJ0_length_8abf5 4 = .ok (.arraylength, 1) := by decide +kernel
theorem dJ0_length_8abf5_5 : decode cJ0_length_8abf5 5 = .ok (.aload_n 0, 1) := by decide +kernel
theorem dJ0_length_8abf5_6 : decode cJ0_length_8abf5 6 = .ok (.invokevirtual 335, 3) := by decide +kernel
theorem dJ0_length_8abf5_9 : decode cJ0_length_8abf5 9 = .ok (.ishr, 1) := by decide +kernel
theorem dJ0_length_8abf5_10 : decode cJ0_length_8abf5 10 = .ok (.ireturn, 1) := by decide +kernel
theorem dJ0_indexOf_0f7a4_0 : decode cJ0_indexOf_0f7a4 0 = .ok (.aload_n 0, 1) := by decide +kernel
theorem dJ0_indexOf_0f7a4_1 : decode cJ0_indexOf_0f7a4 1 = .ok (.iload_n 1, 1) := by decide +kernel
theorem dJ0_indexOf_0f7a4_2 : decode cJ0_indexOf_0f7a4 2 = .ok (.iconst 0, 1) := by decide +kernel
theorem dJ0_indexOf_0f7a4_3 : decode cJ0_indexOf_0f7a4 3 = .ok (.invokevirtual 633, 3) := by decide +kernel
theorem dJ0_indexOf_0f7a4_6 : decode cJ0_indexOf_0f7a4 6 = .ok (.ireturn, 1) := by decide +kernel
theorem dJ0_indexOf_7cf53_0 : decode cJ0_indexOf_7cf53 0 = .ok (.aload_n 0, 1) := by decide +kernel
theorem dJ0_indexOf_7cf53_1 : decode cJ0_indexOf_7cf53 1 = .ok (.invokevirtual 492, 3) := by decide +kernel
theorem dJ0_indexOf_7cf53_4 : decode cJ0_indexOf_7cf53 4 = .ok (.ifCond .eq 19, 3) := by decide +kernel
theorem dJ0_indexOf_7cf53_7 : decode cJ0_indexOf_7cf53 7 = .ok (.aload_n 0, 1) := by decide +kernel
theorem dJ0_indexOf_7cf53_8 : decode cJ0_indexOf_7cf53 8 = .ok (.getfield 9, 3) := by decide +kernel
theorem dJ0_indexOf_7cf53_11 : decode cJ0_indexOf_7cf53 11 = .ok (.iload_n 1, 1) := by decide +kernel
theorem dJ0_indexOf_7cf53_12 : decode cJ0_indexOf_7cf53 12 = .ok (.iload_n 2, 1) := by decide +kernel
theorem dJ0_indexOf_7cf53_13 : decode cJ0_indexOf_7cf53 13 = .ok (.aload_n 0, 1) := by decide +kernel
theorem dJ0_indexOf_7cf53_14 : decode cJ0_indexOf_7cf53 14 = .ok (.invokevirtual 505, 3) := by decide +kernel
theorem dJ0_indexOf_7cf53_17 : decode cJ0_indexOf_7cf53 17 = .ok (.invokestatic 637, 3) := by decide +kernel
theorem dJ0_indexOf_7cf53_20 : decode cJ0_indexOf_7cf53 20 = .ok (.goto 16, 3) := by decide +kernel
theorem dJ0_indexOf_7cf53_23 : decode cJ0_indexOf_7cf53 23 = .ok (.aload_n 0, 1) := by decide +kernel
theorem dJ0_indexOf_7cf53_24 : decode cJ0_indexOf_7cf53 24 = .ok (.getfield 9, 3) := by decide +kernel
theorem dJ0_indexOf_7cf53_27 : decode cJ0_indexOf_7cf53 27 = .ok (.iload_n 1, 1) := by decide +kernel
theorem dJ0_indexOf_7cf53_28 : decode cJ0_indexOf_7cf53 28 = .ok (.iload_n 2, 1) := by decide +kernel
theorem dJ0_indexOf_7cf53_29 : decode cJ0_indexOf_7cf53 29 = .ok (.aload_n 0, 1) := by decide +kernel
theorem dJ0_indexOf_7cf53_30 : decode cJ0_indexOf_7cf53 30 = .ok (.invokevirtual 505, 3) := by decide +kernel
theorem dJ0_indexOf_7cf53_33 : decode cJ0_indexOf_7cf53 33 = .ok (.invokestatic 640, 3) := by decide +kernel
theorem dJ0_indexOf_7cf53_36 : decode cJ0_indexOf_7cf53 36 = .ok (.ireturn, 1) := by decide +kernel
theorem dJ0_coder_7d493_0 : decode cJ0_coder_7d493 0 = .ok (.getstatic 38, 3) := by decide +kernel
theorem dJ0_coder_7d493_3 : decode cJ0_coder_7d493 3 = .ok (.ifCond .eq 10, 3) := by decide +kernel
theorem dJ0_coder_7d493_6 : decode cJ0_coder_7d493 6 = .ok (.aload_n 0, 1) := by decide +kernel
theorem dJ0_coder_7d493_7 : decode cJ0_coder_7d493 7 = .ok (.getfield 15, 3) := by decide +kernel
theorem dJ0_coder_7d493_10 : decode cJ0_coder_7d493 10 = .ok (.goto 4, 3) := by decide +kernel
theorem dJ0_coder_7d493_13 : decode cJ0_coder_7d493 13 = .ok (.iconst 1, 1) := by decide +kernel
theorem dJ0_coder_7d493_14 : decode cJ0_coder_7d493 14 = .ok (.ireturn, 1) := by decide +kernel
theorem dJ0_isLatin1_aae02_0 : decode cJ0_isLatin1_aae02 0 = .ok (.getstatic 38, 3) := by decide +kernel
theorem dJ0_isLatin1_aae02_3 : decode cJ0_isLatin1_aae02 3 = .ok (.ifCond .eq 14, 3) := by decide +kernel
theorem dJ0_isLatin1_aae02_6 : decode cJ0_isLatin1_aae02 6 = .ok (.aload_n 0, 1) := by decide +kernel
theorem dJ0_isLatin1_aae02_7 : decode cJ0_isLatin1_aae02 7 = .ok (.getfield 15, 3) := by decide +kernel
theorem dJ0_isLatin1_aae02_10 : decode cJ0_isLatin1_aae02 10 = .ok (.ifCond .ne 7, 3) := by decide +kernel
theorem dJ0_isLatin1_aae02_13 : decode cJ0_isLatin1_aae02 13 = .ok (.iconst 1, 1) := by decide +kernel
theorem dJ0_isLatin1_aae02_14 : decode cJ0_isLatin1_aae02 14 = .ok (.goto 4, 3) := by decide +kernel
theorem dJ0_isLatin1_aae02_17 : decode cJ0_isLatin1_aae02 17 = .ok (.iconst 0, 1) := by decide +kernel
theorem dJ0_isLatin1_aae02_18 : decode cJ0_isLatin1_aae02 18 = .ok (.ireturn, 1) := by decide +kernel
theorem dJ1_canEncode_9a6ad_0 : decode cJ1_canEncode_9a6ad 0 = .ok (.iload_n 0, 1) := by decide +kernel
theorem dJ1_canEncode_9a6ad_1 : decode cJ1_canEncode_9a6ad 1 = .ok (.ifCond .lt 14, 3) := by decide +kernel
theorem dJ1_canEncode_9a6ad_4 : decode cJ1_canEncode_9a6ad 4 = .ok (.iload_n 0, 1) := by decide +kernel
theorem dJ1_canEncode_9a6ad_5 : decode cJ1_canEncode_9a6ad 5 = .ok (.sipush 255, 3) := by decide +kernel
theorem dJ1_canEncode_9a6ad_8 : decode cJ1_canEncode_9a6ad 8 = .ok (.if_icmp .gt 7, 3) := by decide +kernel
theorem dJ1_canEncode_9a6ad_11 : decode cJ1_canEncode_9a6ad 11 = .ok (.iconst 1, 1) := by decide +kernel
theorem dJ1_canEncode_9a6ad_12 : decode cJ1_canEncode_9a6ad 12 = .ok (.goto 4, 3) := by decide +kernel
theorem dJ1_canEncode_9a6ad_15 : decode cJ1_canEncode_9a6ad 15 = .ok (.iconst 0, 1) := by decide +kernel
theorem dJ1_canEncode_9a6ad_16 : decode cJ1_canEncode_9a6ad 16 = .ok (.ireturn, 1) := by decide +kernel
theorem dJ1_indexOf_4cfef_0 : decode cJ1_indexOf_4cfef 0 = .ok (.iload_n 1, 1) := by decide +kernel
theorem dJ1_indexOf_4cfef_1 : decode cJ1_indexOf_4cfef 1 = .ok (.invokestatic 88, 3) := by decide +kernel
theorem dJ1_indexOf_4cfef_4 : decode cJ1_indexOf_4cfef 4 = .ok (.ifCond .ne 5, 3) := by decide +kernel
theorem dJ1_indexOf_4cfef_7 : decode cJ1_indexOf_4cfef 7 = .ok (.iconst (-1), 1) := by decide +kernel
theorem dJ1_indexOf_4cfef_8 : decode cJ1_indexOf_4cfef 8 = .ok (.ireturn, 1) := by decide +kernel
theorem dJ1_indexOf_4cfef_9 : decode cJ1_indexOf_4cfef 9 = .ok (.iload_n 2, 1) := by decide +kernel
theorem dJ1_indexOf_4cfef_10 : decode cJ1_indexOf_4cfef 10 = .ok (.iconst 0, 1) := by decide +kernel
theorem dJ1_indexOf_4cfef_11 : decode cJ1_indexOf_4cfef 11 = .ok (.invokestatic 92, 3) := by decide +kernel
theorem dJ1_indexOf_4cfef_14 : decode cJ1_indexOf_4cfef 14 = .ok (.istore_n 2, 1) := by decide +kernel
theorem dJ1_indexOf_4cfef_15 : decode cJ1_indexOf_4cfef 15 = .ok (.iload_n 3, 1) := by decide +kernel
theorem dJ1_indexOf_4cfef_16 : decode cJ1_indexOf_4cfef 16 = .ok (.aload_n 0, 1) := by decide +kernel
theorem dJ1_indexOf_4cfef_17 : decode cJ1_indexOf_4cfef 17 = .ok (.arraylength, 1) := by decide +kernel
theorem dJ1_indexOf_4cfef_18 : decode cJ1_indexOf_4cfef 18 = .ok (.invokestatic 38, 3) := by decide +kernel
theorem dJ1_indexOf_4cfef_21 : decode cJ1_indexOf_4cfef 21 = .ok (.istore_n 3, 1) := by decide +kernel
theorem dJ1_indexOf_4cfef_22 : decode cJ1_indexOf_4cfef 22 = .ok (.iload_n 2, 1) := by decide +kernel
theorem dJ1_indexOf_4cfef_23 : decode cJ1_indexOf_4cfef 23 = .ok (.iload_n 3, 1) := by decide +kernel
theorem dJ1_indexOf_4cfef_24 : decode cJ1_indexOf_4cfef 24 = .ok (.if_icmp .lt 5, 3) := by decide +kernel
theorem dJ1_indexOf_4cfef_27 : decode cJ1_indexOf_4cfef 27 = .ok (.iconst (-1), 1) := by decide +kernel
theorem dJ1_indexOf_4cfef_28 : decode cJ1_indexOf_4cfef 28 = .ok (.ireturn, 1) := by decide +kernel
theorem dJ1_indexOf_4cfef_29 : decode cJ1_indexOf_4cfef 29 = .ok (.aload_n 0, 1) := by decide +kernel
theorem dJ1_indexOf_4cfef_30 : decode cJ1_indexOf_4cfef 30 = .ok (.iload_n 1, 1) := by decide +kernel
theorem dJ1_indexOf_4cfef_31 : decode cJ1_indexOf_4cfef 31 = .ok (.iload_n 2, 1) := by decide +kernel
theorem dJ1_indexOf_4cfef_32 : decode cJ1_indexOf_4cfef 32 = .ok (.iload_n 3, 1) := by decide +kernel
theorem dJ1_indexOf_4cfef_33 : decode cJ1_indexOf_4cfef 33 = .ok (.invokestatic 95, 3) := by decide +kernel
theorem dJ1_indexOf_4cfef_36 : decode cJ1_indexOf_4cfef 36 = .ok (.ireturn, 1) := by decide +kernel
theorem dJ1_indexOfChar_4cfef_0 : decode cJ1_indexOfChar_4cfef 0 = .ok (.iload_n 1, 1) := by decide +kernel
theorem dJ1_indexOfChar_4cfef_1 : decode cJ1_indexOfChar_4cfef 1 = .ok (.i2b, 1) := by decide +kernel
theorem dJ1_indexOfChar_4cfef_2 : decode cJ1_indexOfChar_4cfef 2 = .ok (.istore 4, 2) := by decide +kernel
theorem dJ1_indexOfChar_4cfef_4 : decode cJ1_indexOfChar_4cfef 4 = .ok (.iload_n 2, 1) := by decide +kernel
theorem dJ1_indexOfChar_4cfef_5 : decode cJ1_indexOfChar_4cfef 5 = .ok (.istore 5, 2) := by decide +kernel
theorem dJ1_indexOfChar_4cfef_7 : decode cJ1_indexOfChar_4cfef 7 = .ok (.iload 5, 2) := by decide +kernel
theorem dJ1_indexOfChar_4cfef_9 : decode cJ1_indexOfChar_4cfef 9 = .ok (.iload_n 3, 1) := by decide +kernel
theorem dJ1_indexOfChar_4cfef_10 : decode cJ1_indexOfChar_4cfef 10 = .ok (.if_icmp .ge 21, 3) := by decide +kernel
theorem dJ1_indexOfChar_4cfef_13 : decode cJ1_indexOfChar_4cfef 13 = .ok (.aload_n 0, 1) := by decide +kernel
theorem dJ1_indexOfChar_4cfef_14 : decode cJ1_indexOfChar_4cfef 14 = .ok (.iload 5, 2) := by decide +kernel
theorem dJ1_indexOfChar_4cfef_16 : decode cJ1_indexOfChar_4cfef 16 = .ok (.baload, 1) := by decide +kernel
theorem dJ1_indexOfChar_4cfef_17 : decode cJ1_indexOfChar_4cfef 17 = .ok (.iload 4, 2) := by decide +kernel
theorem dJ1_indexOfChar_4cfef_19 : decode cJ1_indexOfChar_4cfef 19 = .ok (.if_icmp .ne 6, 3) := by decide +kernel
theorem dJ1_indexOfChar_4cfef_22 : decode cJ1_indexOfChar_4cfef 22 = .ok (.iload 5, 2) := by decide +kernel
theorem dJ1_indexOfChar_4cfef_24 : decode cJ1_indexOfChar_4cfef 24 = .ok (.ireturn, 1) := by decide +kernel
theorem dJ1_indexOfChar_4cfef_25 : decode cJ1_indexOfChar_4cfef 25 = .ok (.iinc 5 1, 3) := by decide +kernel
theorem dJ1_indexOfChar_4cfef_28 : decode cJ1_indexOfChar_4cfef 28 = .ok (.goto (-21), 3) := by decide +kernel
theorem dJ1_indexOfChar_4cfef_31 : decode cJ1_indexOfChar_4cfef 31 = .ok (.iconst (-1), 1) := by decide +kernel
theorem dJ1_indexOfChar_4cfef_32 : decode cJ1_indexOfChar_4cfef 32 = .ok (.ireturn, 1) := by decide +kernel
theorem j_w0 : Cond.fieldLink RJ0 38 "java/lang/String" "COMPACT_STRINGS" "Z" ∈ mjS ∧ Cond.fieldLink RJ0 15 "java/lang/String" "coder" "B" ∈ mjS ∧ Cond.fieldLink RJ0 9 "java/lang/String" "value" "[B" ∈ mjS ∧ Cond.initialized RJ0 ∈ mjS ∧ Cond.initialized RJ1 ∈ mjS := by decide +kernel
theorem j_w1 : Cond.methodLink RJ0 335 yJ0_coder_7d493 ∈ mjS ∧ Cond.instanceMethod yJ0_coder_7d493 ∈ mjS ∧ Cond.selects RJ0 yJ0_coder_7d493 yJ0_coder_7d493 ∈ mjS := by decide +kernel
theorem j_w2 : Cond.methodLink RJ0 492 yJ0_isLatin1_aae02 ∈ mjS ∧ Cond.instanceMethod yJ0_isLatin1_aae02 ∈ mjS ∧ Cond.selects RJ0 yJ0_isLatin1_aae02 yJ0_isLatin1_aae02 ∈ mjS := by decide +kernel
theorem j_w3 : Cond.methodLink RJ0 505 yJ0_length_8abf5 ∈ mjS ∧ Cond.instanceMethod yJ0_length_8abf5 ∈ mjS ∧ Cond.selects RJ0 yJ0_length_8abf5 yJ0_length_8abf5 ∈ mjS := by decide +kernel
theorem j_w4 : Cond.methodLink RJ0 637 yJ1_indexOf_4cfef ∈ mjS ∧ Cond.static yJ1_indexOf_4cfef ∈ mjS := by decide +kernel
theorem j_w5 : Cond.methodLink RJ1 88 yJ1_canEncode_9a6ad ∈ mjS ∧ Cond.static yJ1_canEncode_9a6ad ∈ mjS ∧ Cond.methodLink RJ1 95 yJ1_indexOfChar_4cfef ∈ mjS ∧ Cond.static yJ1_indexOfChar_4cfef ∈ mjS := by decide +kernel
theorem j_w6 : Cond.methodLink RJ1 92 Lib.Math.max.name ∈ mjS ∧ Cond.methodLink RJ1 38 Lib.Math.min.name ∈ mjS ∧ Cond.static Lib.Math.min.name ∈ mjS ∧ Cond.code Lib.Math.min.name Lib.Math.min.code 2 (some .int) ∈ mjS := by decide +kernel
theorem j_w7 : Cond.methodLink RJ0 633 yJ0_indexOf_7cf53 ∈ mjS ∧ Cond.instanceMethod yJ0_indexOf_7cf53 ∈ mjS ∧ Cond.selects RJ0 yJ0_indexOf_7cf53 yJ0_indexOf_7cf53 ∈ mjS := by decide +kernel
theorem j_w8 : Cond.methodLink RX14 117 yJ0_indexOf_0f7a4 ∈ mjS ∧ Cond.instanceMethod yJ0_indexOf_0f7a4 ∈ mjS ∧ Cond.selects RJ0 yJ0_indexOf_0f7a4 yJ0_indexOf_0f7a4 ∈ mjS := by decide +kernel
set_option maxRecDepth 100000 in
theorem jc_J0_coder_7d493 : Cond.code yJ0_coder_7d493 cJ0_coder_7d493 1 (some .byte) ∈ mjS := List.mem_of_getElem? (i := 1170) rfl
set_option maxRecDepth 100000 in
theorem jc_J0_isLatin1_aae02 : Cond.code yJ0_isLatin1_aae02 cJ0_isLatin1_aae02 1 (some .boolean) ∈ mjS := List.mem_of_getElem? (i := 1160) rfl
set_option maxRecDepth 100000 in
theorem jc_J0_length_8abf5 : Cond.code yJ0_length_8abf5 cJ0_length_8abf5 1 (some .int) ∈ mjS := List.mem_of_getElem? (i := 1166) rfl
set_option maxRecDepth 100000 in
theorem jc_J0_indexOf_0f7a4 : Cond.code yJ0_indexOf_0f7a4 cJ0_indexOf_0f7a4 2 (some .int) ∈ mjS := List.mem_of_getElem? (i := 1152) rfl
set_option maxRecDepth 100000 in
theorem jc_J0_indexOf_7cf53 : Cond.code yJ0_indexOf_7cf53 cJ0_indexOf_7cf53 3 (some .int) ∈ mjS := List.mem_of_getElem? (i := 1156) rfl
set_option maxRecDepth 100000 in
theorem jc_J1_canEncode_9a6ad : Cond.code yJ1_canEncode_9a6ad cJ1_canEncode_9a6ad 1 (some .boolean) ∈ mjS := List.mem_of_getElem? (i := 1176) rfl
set_option maxRecDepth 100000 in
theorem jc_J1_indexOf_4cfef : Cond.code yJ1_indexOf_4cfef cJ1_indexOf_4cfef 4 (some .int) ∈ mjS := List.mem_of_getElem? (i := 1173) rfl
set_option maxRecDepth 100000 in
theorem jc_J1_indexOfChar_4cfef : Cond.code yJ1_indexOfChar_4cfef cJ1_indexOfChar_4cfef 6 (some .int) ∈ mjS := List.mem_of_getElem? (i := 1183) rfl
def PcJ (b : Nat) (ex : Nat → Nat) (xs : Nat → Int32) (L : Nat) (as : List Value) : Array Value → State → Prop := va_Pc as (fun U => StF b ex xs L U U.heap)
def QcJ (r : Int32) : Array Value → State → Outcome → State → Prop := fun _ st oc t => oc = .returned (some (.int r)) ∧ t.heap = st.heap
abbrev rmJ (d : Nat) : Room := { frames := d, cells := 0, slots := 0, locals := 41 * d }
abbrev wJm (y : MethodName) (cc : ByteArray) (n : Nat) (ret : Option FieldType) : List Cond := Cond.code y cc n ret :: mjS.filter goodWord
abbrev MetJ (l : Launch) (b : Nat) (ex : Nat → Nat) (xs : Nat → Int32) (L : Nat) (y : MethodName) (cc : ByteArray) (n : Nat) (ret : Option FieldType) (d : Nat) (as : List Value) (r : Int32) : Prop := Met l y (wJm y cc n ret) (rmJ d) (PcJ b ex xs L as) (QcJ r) 0 0 (fun _ => False)
section JDK
variable {l : Launch} {b : Nat} {ex : Nat → Nat} {xs : Nat → Int32} {L : Nat}
theorem PcJ_blind (as : List Value) : FrameBlind (PcJ b ex xs L as) := by
  intro a U g mk h
  exact ⟨h.1, StF.moved (s := U) (U := U.calling g mk a) (State.WarmedH.refl U) h.2⟩
theorem jm {y : MethodName} {cc : ByteArray} {n d : Nat} {ret : Option FieldType} {as : List Value} {r : Int32} (hy : Jvm.plainName y.cls = true) (hlen : (lg_sl as).length ≤ n)
    (body : ∀ (p : Program) (e : Env) (s : State) (m : MethodId) (below : List Frame) (meth : Method) (c : Code), p.tables.exec = Jvm.exec → c.code = cc → c.maxLocals = n → meth.sig.returnType = ret → (∀ w ∈ mjS, goodWord w = true → w.before as.toArray s = true) → s.vm.findClass y.cls = some m.cls → meth.locks = false → StF b ex xs L s s.heap → ∀ ls : Array Slot, lv_has ls n (lv_args 0 as) → W p l e (rmJ d) s m as.toArray below meth c s.heap [] 0 0 (MQ below (QcJ r) as.toArray s 0 0 (fun _ => False)) (F0 m 0 ls [])) : MetJ l b ex xs L y cc n ret d as r := by
  refine Met.ofW (cc := cc) (maxL := n) (ret := ret) hy rfl ?_
  intro p e s m args below meth c s₁ B hml hv
  obtain ⟨rfl, hSt⟩ := hv
  have hts0 := atoms_spec (ws := wJm y cc n ret) B.pre
  rw [lg_entry_eq]
  exact body p e s m below meth c B.exec B.bytes hml B.returns (fun w h1 h2 => hts0 w (List.mem_cons_of_mem _ (List.mem_filter.mpr ⟨h1, h2⟩))) (findClass_of_methodNamed B.named) B.notSynchronized hSt _ (lv_entry as hlen)
section JR
variable {p : Program} {e : Env} {R : Room} {s : State} {m : MethodId} {args : Array Value} {below : List Frame} {meth : Method} {c : Code} {H : Heap} {locs : List Loc} {cells slots : Nat} {Q : State → Prop} {pc : Nat} {ls : Array Slot} {st0 rest : List Value} {a : Array Value} {r : Int32}
theorem mj_call (hr : va_Run p l e R s m args below meth c H locs cells slots 0 0 (F0 m pc ls st0) rest (QcJ r a) (fun _ => False))
    (kk : W p l e R s m args below meth c H locs cells slots Q (F0 m (pc + 3) ls (.int r :: rest))) : W p l e R s m args below meth c H locs cells slots Q (F0 m pc ls st0) := by
  intro T hT X
  obtain ⟨v9, st₀, t, T', L', h0, X', hL, e1, e2, ⟨hv, hh⟩, st⟩ := hr T hT X
  cases hv
  have hL0 : L' = [] := List.eq_nil_iff_forall_not_mem.mpr (fun q hq => hL q hq)
  subst hL0
  rw [List.append_nil] at X'
  obtain ⟨t2, a1, b1⟩ := kk T' (by rw [e1, hh, h0]) X'
  exact ⟨t2, st t2 a1, b1⟩
/-- a return out of such a method -/
theorem mj_ret {cc : ByteArray} {ty : FieldType} (hx : p.tables.exec = Jvm.exec) (hb : c.code = cc) (hr : meth.sig.returnType = some ty) (hn : narrow ty (.int r) = .int r) (hlocks : meth.locks = false) (hd : decode cc pc = .ok (.ireturn, 1)) : W p l e R s m args below meth c s.heap [] cells slots (MQ below (QcJ r) args s cells slots (fun _ => False)) (F0 m pc ls [.int r]) :=
  W.zret hx hb hr hn (fun t ht _ => ⟨rfl, ht⟩) (fun q hq => nomatch hq) hd hlocks
end JR
set_option maxHeartbeats 4000000 in
theorem jm_coder (d : Nat) : MetJ l b ex xs L yJ0_coder_7d493 cJ0_coder_7d493 1 (some .byte) d [.ref (ex 3)] 0 := by
  refine jm (by decide +kernel) (Nat.le_of_ble_eq_true rfl) ?_
  intro p e s m below meth c hx hb hml hr hts hown hlocks hSt ls hl
  obtain ⟨-, -, ⟨-, c2, c3⟩, -⟩ := hSt
  have hl : lv_has ls 1 [(0, .ref (ex 3))] := hl
  refine va_gets hx hb c3 va_S.rf hown (hts _ j_w0.1 rfl) (fun _ q => q) dJ0_coder_7d493_0 ?_
  refine lv_if_eq (tgt := 13) hx hb dJ0_coder_7d493_3 (by decide) (fun h => absurd h (by decide)) (fun _ => ?_)
  refine lv_aload_n hx hb dJ0_coder_7d493_6 rfl (lv_at hl 0 rfl) ?_
  refine vk_getf hx hb (c2.1 0 (by decide)).2.1 va_S.rf hown (hts _ j_w0.2.1 rfl) (fun _ q => q) dJ0_coder_7d493_7 ?_
  refine lv_goto (tgt := 14) hx hb dJ0_coder_7d493_10 (by decide) ?_
  exact mj_ret hx hb hr rfl hlocks dJ0_coder_7d493_14
set_option maxHeartbeats 4000000 in
theorem jm_lat (d : Nat) : MetJ l b ex xs L yJ0_isLatin1_aae02 cJ0_isLatin1_aae02 1 (some .boolean) d [.ref (ex 3)] 1 := by
  refine jm (by decide +kernel) (Nat.le_of_ble_eq_true rfl) ?_
  intro p e s m below meth c hx hb hml hr hts hown hlocks hSt ls hl
  obtain ⟨-, -, ⟨-, c2, c3⟩, -⟩ := hSt
  have hl : lv_has ls 1 [(0, .ref (ex 3))] := hl
  refine va_gets hx hb c3 va_S.rf hown (hts _ j_w0.1 rfl) (fun _ q => q) dJ0_isLatin1_aae02_0 ?_
  refine lv_if_eq (tgt := 17) hx hb dJ0_isLatin1_aae02_3 (by decide) (fun h => absurd h (by decide)) (fun _ => ?_)
  refine lv_aload_n hx hb dJ0_isLatin1_aae02_6 rfl (lv_at hl 0 rfl) ?_
  refine vk_getf hx hb (c2.1 0 (by decide)).2.1 va_S.rf hown (hts _ j_w0.2.1 rfl) (fun _ q => q) dJ0_isLatin1_aae02_7 ?_
  refine lv_if_ne (tgt := 17) hx hb dJ0_isLatin1_aae02_10 (by decide) (fun h => absurd rfl h) (fun _ => ?_)
  refine lv_iconst (v := 1) hx hb dJ0_isLatin1_aae02_13 (by decide) ?_
  refine lv_goto (tgt := 18) hx hb dJ0_isLatin1_aae02_14 (by decide) ?_
  exact mj_ret hx hb hr rfl hlocks dJ0_isLatin1_aae02_18
/-- a virtual call of one of them, on the text -/
theorem jv_run {p : Program} {e : Env} {R : Room} {s : State} {m : MethodId} {args : Array Value} {below : List Frame} {meth : Method} {c : Code} {H : Heap} {locs : List Loc} {cells slots : Nat} {Q : State → Prop} {pc nL idx : Nat} {cc : ByteArray} {own : String} {ls : Array Slot} {rest As : List Value} {y : MethodName} {cy : ByteArray} {n d : Nat} {ret : Option FieldType} {r : Int32} (hx : p.tables.exec = Jvm.exec) (hb : c.code = cc) (hml : c.maxLocals = nL) (hts : ∀ w ∈ mjS, goodWord w = true → w.before args s = true) (hown : s.vm.findClass own = some m.cls) (hSt : StF b ex xs L s s.heap) (hS : va_S (Ab b) s.heap H locs) (hM : MetJ l b ex xs L y cy n ret d (.ref (ex 3) :: As) r)
    (hco : Cond.code y cy n ret ∈ mjS) (hw : Cond.methodLink own idx y ∈ mjS ∧ Cond.instanceMethod y ∈ mjS ∧ Cond.selects RJ0 y y ∈ mjS) (hyc : y.cls = RJ0) (hnp : npO y As.length = true) (hRf : d + 1 ≤ R.frames) (hRl : 41 * d + (n + 19) ≤ R.locals) (hsz : ls.size = nL) (hwt : (rest.map fun v => v.category).sum ≤ 8) (hc : cells ≤ R.cells) (hs : slots ≤ R.slots) (hd : decode cc pc = .ok (.invokevirtual idx, 3))
    (kk : W p l e R s m args below meth c H locs cells slots Q (F0 m (pc + 3) ls (.int r :: rest))) : W p l e R s m args below meth c H locs cells slots Q (F0 m pc ls (As.reverse ++ .ref (ex 3) :: rest)) := by
  have hrec : ∃ cellB : Cell, H[ex 3]? = some cellB ∧ cellB.vm.isStatics = false ∧ s.vm.findClass RJ0 = some cellB.cls := by
    obtain ⟨-, -, ⟨-, c2, -⟩, -⟩ := hSt
    obtain ⟨cell, h1, h2, h3, -⟩ := ((c2.kept hS.2.1).1 0 (by decide)).1
    exact ⟨cell, h1, h2, h3⟩
  refine mj_call (va_runV (n := As.length) (C := RJ0) (b := ex 3) (As := As) ⟨hx, hb, hml, hown, htf hts⟩ hM (cwV As.length (htf hts) (goodIn_app (fun w h => ?_) (fun w h => ?_)) rfl rfl rfl ⟨hyc, by rw [hyc]; decide, by rw [hyc]; decide, np_of hnp⟩ ⟨hRf, by show 8 + (n + 11) + 41 * d ≤ R.locals; omega⟩) ⟨PcJ_blind _, hrec, fun U hU hW => ⟨rfl, StF.moved hW (by rw [hU]; exact hSt.kept hS.1 hS.2.1)⟩⟩ rfl rfl hsz rfl (lv_room hwt) hd ⟨by show cells + 0 ≤ R.cells; omega, by show slots + 0 ≤ R.slots; omega⟩) kk
  · rcases List.mem_cons.mp h with rfl | h
    · exact gw_in hw.1 rfl
    · rcases List.mem_cons.mp h with rfl | h
      · exact gw_in hw.2.1 rfl
      · rcases List.mem_cons.mp h with rfl | h
        · exact gw_in hw.2.2 rfl
        · rcases List.mem_cons.mp h with rfl | h
          · exact gw_in j_w0.2.2.2.1 rfl
          · cases h
  · rcases List.mem_cons.mp h with rfl | h
    · exact gw_in hco rfl
    · exact gw_in (List.mem_filter.mp h).1 (List.mem_filter.mp h).2
/-- a static one -/
theorem js_run {p : Program} {e : Env} {R : Room} {s : State} {m : MethodId} {args : Array Value} {below : List Frame} {meth : Method} {c : Code} {H : Heap} {locs : List Loc} {cells slots : Nat} {Q : State → Prop} {pc nL idx : Nat} {cc : ByteArray} {own : String} {ls : Array Slot} {rest As : List Value} {y : MethodName} {cy : ByteArray} {n d : Nat} {ret : Option FieldType} {r : Int32} (hx : p.tables.exec = Jvm.exec) (hb : c.code = cc) (hml : c.maxLocals = nL) (hts : ∀ w ∈ mjS, goodWord w = true → w.before args s = true) (hown : s.vm.findClass own = some m.cls) (hSt : StF b ex xs L s s.heap) (hS : va_S (Ab b) s.heap H locs) (hM : MetJ l b ex xs L y cy n ret d As r)
    (hco : Cond.code y cy n ret ∈ mjS) (hw : Cond.methodLink own idx y ∈ mjS ∧ Cond.static y ∈ mjS) (hyc : y.cls = RJ1) (hnp : npO y As.length = true) (hRf : d + 1 ≤ R.frames) (hRl : 41 * d + (n + 19) ≤ R.locals) (hsz : ls.size = nL) (hwt : (rest.map fun v => v.category).sum ≤ 8) (hc : cells ≤ R.cells) (hs : slots ≤ R.slots) (hd : decode cc pc = .ok (.invokestatic idx, 3))
    (kk : W p l e R s m args below meth c H locs cells slots Q (F0 m (pc + 3) ls (.int r :: rest))) : W p l e R s m args below meth c H locs cells slots Q (F0 m pc ls (As.reverse ++ rest)) := by
  refine mj_call (va_runS (n := As.length) (As := As) ⟨hx, hb, hml, hown, htf hts⟩ hM (va_cwS As.length (htf hts) (goodIn_app (fun w h => ?_) (fun w h => ?_)) rfl rfl rfl ⟨by rw [hyc]; decide, by rw [hyc]; decide, np_of hnp⟩ ⟨hRf, by show 8 + (n + 11) + 41 * d ≤ R.locals; omega⟩) ⟨PcJ_blind _, fun U hU hW => ⟨rfl, StF.moved hW (by rw [hU]; exact hSt.kept hS.1 hS.2.1)⟩⟩ rfl rfl hsz rfl (lv_room hwt) hd ⟨by show cells + 0 ≤ R.cells; omega, by show slots + 0 ≤ R.slots; omega⟩) kk
  · rcases List.mem_cons.mp h with rfl | h
    · exact gw_in hw.1 rfl
    · rcases List.mem_cons.mp h with rfl | h
      · exact gw_in hw.2 rfl
      · rcases List.mem_cons.mp h with rfl | h
        · rw [hyc]; exact gw_in j_w0.2.2.2.2 rfl
        · cases h
  · rcases List.mem_cons.mp h with rfl | h
    · exact gw_in hco rfl
    · exact gw_in (List.mem_filter.mp h).1 (List.mem_filter.mp h).2
end JDK
