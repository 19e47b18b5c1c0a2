/-! ===== soundness: instructions that leave the heap alone ===== -/
section SNA
variable {p : Program} {l : Launch} {e : Env} {R : Room} {s : State} {m : MethodId} {args : Array Value} {below : List Frame} {meth : Method} {c : Code} {H : Heap} {locs : List Loc} {cells slots : Nat} {Q : State → Prop}
variable {b : Nat} {ex : Nat → Nat} {j pc ln : Nat} {vs vs' st st' : List Value} {ls : Array Slot}
theorem okL_eq {i : Instr} {ln k : Nat} (h : okL i ln = true) (hi : ilen i = some k) : k = ln := by
  unfold okL at h
  rw [hi] at h
  exact of_decide_eq_true h
theorem lt1 {vs vs' : List Value} {n : Nat} {v : Value} (h : st1 vs n v = some vs') : n < vs.length := by
  unfold st1 at h
  split at h
  · assumption
  · cases h
theorem lt2 {vs vs' : List Value} {n : Nat} {v : Value} (h : st2 vs n v = some vs') : n + 1 < vs.length := by
  unfold st2 at h
  split at h
  · assumption
  · cases h
theorem LV.inc {vs : List Value} {ls ls' : Array Slot} {n : Nat} {x : Int32} {v : Value} (h0 : LV b ex vs ls) (h : vs[n]? = some (.int x)) (hl : lv_has ls' vs.length ((n, up b ex v) :: (lvl b ex vs).filter (fun q => !(q.1 == n) && !(q.1 + 1 == n && q.2.category == 2)))) : LV b ex (vs.set n v) ls' := by
  have hn : n < vs.length := (List.getElem?_eq_some_iff.mp h).1
  refine ⟨by rw [List.length_set]; exact hl.1, hl.2.1, fun i w hi hk => ?_⟩
  by_cases hin : i = n
  · subst hin
    rw [List.getElem?_set_self hn] at hi
    cases hi
    exact hl.2.2 (i, up b ex v) List.mem_cons_self
  · rw [List.getElem?_set_ne (Ne.symm hin)] at hi
    refine hl.2.2 (i, up b ex w) (List.mem_cons_of_mem _ (List.mem_filter.mpr ⟨lvl_mem.mpr ⟨w, hi, hk, rfl⟩, ?_⟩))
    simp only [Bool.and_eq_true, Bool.not_eq_true', beq_eq_false_iff_ne, ne_eq, Bool.and_eq_false_iff]
    refine ⟨hin, ?_⟩
    by_cases hz : i + 1 = n
    · refine Or.inr (fun hc => ?_)
      have h1 := h0.2.1.1 i _ (h0.at hi hk) hc
      rw [hz, h0.at h rfl] at h1
      cases h1
    · exact Or.inl hz
set_option maxHeartbeats 4000000 in
set_option maxRecDepth 100000 in
theorem snA {i : Instr} (hx : p.tables.exec = Jvm.exec) (hb : c.code = mB j) (hown : s.vm.findClass (oN (mO j)) = some m.cls) (hts : ∀ w ∈ mjS, goodWord w = true → w.before args s = true) (hd : decode (mB j) pc = .ok (i, ln)) (hln : okL i ln = true) (hl : LV b ex vs ls) (h : xnA j i vs st = some (vs', st'))
    (kk : ∀ ls' : Array Slot, LV b ex vs' ls' → vs'.length = vs.length → W p l e R s m args below meth c H locs cells slots Q (F0 m (pc + ln) ls' (st'.map (up b ex)))) : W p l e R s m args below meth c H locs cells slots Q (F0 m pc ls (st.map (up b ex))) := by
  cases i
  case iconst n =>
    cases okL_eq hln rfl
    cases h
    exact lv_iconst hx hb hd rfl (kk ls hl rfl)
  case bipush n =>
    cases okL_eq hln rfl
    cases h
    exact lv_bipush hx hb hd rfl (kk ls hl rfl)
  case sipush n =>
    cases okL_eq hln rfl
    cases h
    exact lv_sipush hx hb hd rfl (kk ls hl rfl)
  case lconst n =>
    cases okL_eq hln rfl
    cases h
    exact lv_lconst hx hb hd rfl (kk ls hl rfl)
  case aconst_null =>
    cases okL_eq hln rfl
    cases h
    exact lv_null hx hb hd (kk ls hl rfl)
  case ldc k =>
    cases okL_eq hln rfl
    cases hk : kIl (mO j) k with
    | none => simp only [xnA, hk, Option.map_none] at h; cases h
    | some v =>
      simp only [xnA, hk, Option.map_some] at h
      cases h
      exact lv_ldc hx hb hown (hts _ (kI_mem hk) rfl) hd (kk ls hl rfl)
  case ldc2_w k =>
    cases okL_eq hln rfl
    cases hk : kJl (mO j) k with
    | none => simp only [xnA, hk, Option.map_none] at h; cases h
    | some v =>
      simp only [xnA, hk, Option.map_some] at h
      cases h
      exact lv_ldc2 hx hb hown (hts _ (kJ_mem hk) rfl) hd (kk ls hl rfl)
  case iload_n n =>
    cases okL_eq hln rfl
    cases hk : ldI vs (n : Nat) with
    | none => simp only [xnA, hk, Option.map_none] at h; cases h
    | some v =>
      simp only [xnA, hk, Option.map_some] at h
      cases h
      exact lv_iload_n hx hb hd rfl (hl.at (ldI_spec hk) rfl) (kk ls hl rfl)
  case iload n =>
    cases okL_eq hln rfl
    cases hk : ldI vs n with
    | none => simp only [xnA, hk, Option.map_none] at h; cases h
    | some v =>
      simp only [xnA, hk, Option.map_some] at h
      cases h
      exact lv_iload hx hb hd (hl.at (ldI_spec hk) rfl) (kk ls hl rfl)
  case lload_n n =>
    cases okL_eq hln rfl
    cases hk : ldJ vs (n : Nat) with
    | none => simp only [xnA, hk, Option.map_none] at h; cases h
    | some v =>
      simp only [xnA, hk, Option.map_some] at h
      cases h
      exact lv_lload_n hx hb hd rfl (hl.at (ldJ_spec hk) rfl) (kk ls hl rfl)
  case lload n =>
    cases okL_eq hln rfl
    cases hk : ldJ vs n with
    | none => simp only [xnA, hk, Option.map_none] at h; cases h
    | some v =>
      simp only [xnA, hk, Option.map_some] at h
      cases h
      exact lv_lload hx hb hd (hl.at (ldJ_spec hk) rfl) (kk ls hl rfl)
  case aload_n n =>
    cases okL_eq hln rfl
    cases hk : ldR vs (n : Nat) with
    | none => simp only [xnA, hk, Option.map_none] at h; cases h
    | some v =>
      simp only [xnA, hk, Option.map_some] at h
      cases h
      obtain ⟨h1, h2⟩ := ldR_spec hk
      obtain ⟨h3, h4⟩ := up_isR (b := b) (ex := ex) h2
      have h5 := hl.at h1 h3
      have kk := kk ls hl rfl
      rw [List.map_cons] at kk
      rcases h4 with h4 | ⟨a, h4⟩
      · rw [h4] at h5 kk
        exact lv_aload_nN hx hb hd rfl h5 kk
      · rw [h4] at h5 kk
        exact lv_aload_n hx hb hd rfl h5 kk
  case aload n =>
    cases okL_eq hln rfl
    cases hk : ldR vs n with
    | none => simp only [xnA, hk, Option.map_none] at h; cases h
    | some v =>
      simp only [xnA, hk, Option.map_some] at h
      cases h
      obtain ⟨h1, h2⟩ := ldR_spec hk
      obtain ⟨h3, h4⟩ := up_isR (b := b) (ex := ex) h2
      have h5 := hl.at h1 h3
      have kk := kk ls hl rfl
      rw [List.map_cons] at kk
      rcases h4 with h4 | ⟨a, h4⟩
      · rw [h4] at h5 kk
        exact lv_aloadN hx hb hd h5 kk
      · rw [h4] at h5 kk
        exact lv_aload hx hb hd h5 kk
  case istore_n n =>
    cases okL_eq hln rfl
    simp only [xnA] at h
    split at h
    · rename_i x t
      cases hk : st1 vs (n : Nat) (.int x) with
      | none => rw [hk] at h; cases h
      | some v =>
        rw [hk] at h
        cases h
        exact lv_istore_n hx hb hd rfl hl.has (lt1 hk) rfl (fun ls9 h9 => by obtain ⟨q1, q2⟩ := LV.st1 (b := b) (ex := ex) hk h9; exact kk ls9 q1 q2)
    · cases h
  case istore n =>
    cases okL_eq hln rfl
    simp only [xnA] at h
    split at h
    · rename_i x t
      cases hk : st1 vs n (.int x) with
      | none => rw [hk] at h; cases h
      | some v =>
        rw [hk] at h
        cases h
        exact lv_istore hx hb hd hl.has (lt1 hk) rfl (fun ls9 h9 => by obtain ⟨q1, q2⟩ := LV.st1 (b := b) (ex := ex) hk h9; exact kk ls9 q1 q2)
    · cases h
  case lstore_n n =>
    cases okL_eq hln rfl
    simp only [xnA] at h
    split at h
    · rename_i x t
      cases hk : st2 vs (n : Nat) (.long x) with
      | none => rw [hk] at h; cases h
      | some v =>
        rw [hk] at h
        cases h
        exact lv_lstore_n hx hb hd rfl hl.has (lt2 hk) rfl (fun ls9 h9 => by obtain ⟨q1, q2⟩ := LV.st2 (b := b) (ex := ex) hk h9; exact kk ls9 q1 q2)
    · cases h
  case lstore n =>
    cases okL_eq hln rfl
    simp only [xnA] at h
    split at h
    · rename_i x t
      cases hk : st2 vs n (.long x) with
      | none => rw [hk] at h; cases h
      | some v =>
        rw [hk] at h
        cases h
        exact lv_lstore hx hb hd hl.has (lt2 hk) rfl (fun ls9 h9 => by obtain ⟨q1, q2⟩ := LV.st2 (b := b) (ex := ex) hk h9; exact kk ls9 q1 q2)
    · cases h
  case astore_n n =>
    cases okL_eq hln rfl
    simp only [xnA] at h
    split at h
    · rename_i x t
      split at h
      · rename_i hr
        cases hk : st1 vs (n : Nat) x with
        | none => rw [hk] at h; cases h
        | some v =>
          rw [hk] at h
          cases h
          obtain ⟨h3, h4⟩ := up_isR (b := b) (ex := ex) hr
          rw [List.map_cons]
          rcases h4 with h4 | ⟨a, h4⟩
          · rw [h4]
            exact lv_astore_nN hx hb hd rfl hl.has (lt1 hk) rfl (fun ls9 h9 => by obtain ⟨q1, q2⟩ := LV.st1 (b := b) (ex := ex) hk (by rw [h4]; exact h9); exact kk ls9 q1 q2)
          · rw [h4]
            exact lv_astore_n hx hb hd rfl hl.has (lt1 hk) rfl (fun ls9 h9 => by obtain ⟨q1, q2⟩ := LV.st1 (b := b) (ex := ex) hk (by rw [h4]; exact h9); exact kk ls9 q1 q2)
      · cases h
    · cases h
  case astore n =>
    cases okL_eq hln rfl
    simp only [xnA] at h
    split at h
    · rename_i x t
      split at h
      · rename_i hr
        cases hk : st1 vs n x with
        | none => rw [hk] at h; cases h
        | some v =>
          rw [hk] at h
          cases h
          obtain ⟨h3, h4⟩ := up_isR (b := b) (ex := ex) hr
          rw [List.map_cons]
          rcases h4 with h4 | ⟨a, h4⟩
          · rw [h4]
            exact lv_astoreN hx hb hd hl.has (lt1 hk) rfl (fun ls9 h9 => by obtain ⟨q1, q2⟩ := LV.st1 (b := b) (ex := ex) hk (by rw [h4]; exact h9); exact kk ls9 q1 q2)
          · rw [h4]
            exact lv_astore hx hb hd hl.has (lt1 hk) rfl (fun ls9 h9 => by obtain ⟨q1, q2⟩ := LV.st1 (b := b) (ex := ex) hk (by rw [h4]; exact h9); exact kk ls9 q1 q2)
      · cases h
    · cases h
  case iinc n k =>
    cases okL_eq hln rfl
    cases hk : ldI vs n with
    | none => simp only [xnA, hk, Option.map_none] at h; cases h
    | some x =>
      simp only [xnA, hk, Option.map_some] at h
      cases h
      have h1 := ldI_spec hk
      have h2 : (n, Value.int x) ∈ lvl b ex vs := lvl_mem.mpr ⟨.int x, h1, rfl, rfl⟩
      obtain ⟨q, hq⟩ := List.getElem?_of_mem h2
      have hn : n < vs.length := (List.getElem?_eq_some_iff.mp h1).1
      exact lv_iinc hx hb hd hl.has hq rfl hn rfl (fun ls9 h9 => kk ls9 (LV.inc hl h1 h9) (by simp))
  case dup =>
    cases okL_eq hln rfl
    simp only [xnA] at h
    split at h
    · rename_i v t
      split at h
      · rename_i hc
        cases h
        exact lv_dup hx hb hd ((up_cat b ex v).trans hc) (kk ls hl rfl)
      · cases h
    · cases h
  case dup2 =>
    cases okL_eq hln rfl
    simp only [xnA] at h
    split at h
    · rename_i v w t
      split at h
      · rename_i hc
        cases h
        exact lv_dup2_11 hx hb hd ((up_cat b ex v).trans hc.1) ((up_cat b ex w).trans hc.2) (kk ls hl rfl)
      · cases h
    · cases h
  case iadd =>
    cases okL_eq hln rfl
    simp only [xnA] at h
    split at h
    · rename_i y x t
      cases h
      exact lv_iadd hx hb hd (kk ls hl rfl)
    · cases h
  case isub =>
    cases okL_eq hln rfl
    simp only [xnA] at h
    split at h
    · rename_i y x t
      cases h
      exact lv_isub hx hb hd (kk ls hl rfl)
    · cases h
  case imul =>
    cases okL_eq hln rfl
    simp only [xnA] at h
    split at h
    · rename_i y x t
      cases h
      exact lv_imul hx hb hd (kk ls hl rfl)
    · cases h
  case iand =>
    cases okL_eq hln rfl
    simp only [xnA] at h
    split at h
    · rename_i y x t
      cases h
      exact lv_iand hx hb hd (kk ls hl rfl)
    · cases h
  case ior =>
    cases okL_eq hln rfl
    simp only [xnA] at h
    split at h
    · rename_i y x t
      cases h
      exact lv_ior hx hb hd (kk ls hl rfl)
    · cases h
  case ixor =>
    cases okL_eq hln rfl
    simp only [xnA] at h
    split at h
    · rename_i y x t
      cases h
      exact lv_ixor hx hb hd (kk ls hl rfl)
    · cases h
  case ishl =>
    cases okL_eq hln rfl
    simp only [xnA] at h
    split at h
    · rename_i y x t
      cases h
      exact lv_ishl hx hb hd (kk ls hl rfl)
    · cases h
  case ishr =>
    cases okL_eq hln rfl
    simp only [xnA] at h
    split at h
    · rename_i y x t
      cases h
      exact lv_ishr hx hb hd (kk ls hl rfl)
    · cases h
  case ladd =>
    cases okL_eq hln rfl
    simp only [xnA] at h
    split at h
    · rename_i y x t
      cases h
      exact lv_ladd hx hb hd (kk ls hl rfl)
    · cases h
  case lsub =>
    cases okL_eq hln rfl
    simp only [xnA] at h
    split at h
    · rename_i y x t
      cases h
      exact lv_lsub hx hb hd (kk ls hl rfl)
    · cases h
  case lmul =>
    cases okL_eq hln rfl
    simp only [xnA] at h
    split at h
    · rename_i y x t
      cases h
      exact lv_lmul hx hb hd (kk ls hl rfl)
    · cases h
  case land =>
    cases okL_eq hln rfl
    simp only [xnA] at h
    split at h
    · rename_i y x t
      cases h
      exact lv_land hx hb hd (kk ls hl rfl)
    · cases h
  case lor =>
    cases okL_eq hln rfl
    simp only [xnA] at h
    split at h
    · rename_i y x t
      cases h
      exact lv_lor hx hb hd (kk ls hl rfl)
    · cases h
  case lxor =>
    cases okL_eq hln rfl
    simp only [xnA] at h
    split at h
    · rename_i y x t
      cases h
      exact lv_lxor hx hb hd (kk ls hl rfl)
    · cases h
  case idiv =>
    cases okL_eq hln rfl
    simp only [xnA] at h
    split at h
    · rename_i y x t
      split at h
      · cases h
      · rename_i hy
        cases h
        exact lv_idiv hx hb hd hy (kk ls hl rfl)
    · cases h
  case irem =>
    cases okL_eq hln rfl
    simp only [xnA] at h
    split at h
    · rename_i y x t
      split at h
      · cases h
      · rename_i hy
        cases h
        exact lv_irem hx hb hd hy (kk ls hl rfl)
    · cases h
  case ineg =>
    cases okL_eq hln rfl
    simp only [xnA] at h
    split at h
    · rename_i x t
      cases h
      exact lv_ineg hx hb hd (kk ls hl rfl)
    · cases h
  case lneg =>
    cases okL_eq hln rfl
    simp only [xnA] at h
    split at h
    · rename_i x t
      cases h
      exact lv_lneg hx hb hd (kk ls hl rfl)
    · cases h
  case lshl =>
    cases okL_eq hln rfl
    simp only [xnA] at h
    split at h
    · rename_i y x t
      cases h
      exact lv_lshl hx hb hd rfl (kk ls hl rfl)
    · cases h
  case lshr =>
    cases okL_eq hln rfl
    simp only [xnA] at h
    split at h
    · rename_i y x t
      cases h
      exact lv_lshr hx hb hd rfl (kk ls hl rfl)
    · cases h
  case lushr =>
    cases okL_eq hln rfl
    simp only [xnA] at h
    split at h
    · rename_i y x t
      cases h
      exact lv_lushr hx hb hd rfl (kk ls hl rfl)
    · cases h
  case i2l =>
    cases okL_eq hln rfl
    simp only [xnA] at h
    split at h
    · rename_i x t
      cases h
      exact lv_i2l hx hb hd rfl (kk ls hl rfl)
    · cases h
  case l2i =>
    cases okL_eq hln rfl
    simp only [xnA] at h
    split at h
    · rename_i x t
      cases h
      exact lv_l2i hx hb hd rfl (kk ls hl rfl)
    · cases h
  case i2b =>
    cases okL_eq hln rfl
    simp only [xnA] at h
    split at h
    · rename_i x t
      cases h
      exact lv_i2b hx hb hd rfl (kk ls hl rfl)
    · cases h
  case lcmp =>
    cases okL_eq hln rfl
    simp only [xnA] at h
    split at h
    · rename_i y x t
      cases h
      exact W.lcmp hx hb hd (kk ls hl rfl)
    · cases h
  all_goals exact (nomatch (show (none : Option (List Value × List Value)) = some _ from h))
theorem tg_spec {pc t : Nat} {off : Int} (h : tg pc off = some t) : (pc : Int) + off = (t : Int) := by
  unfold tg at h
  split at h
  · rename_i e; cases h; exact e
  · cases h
set_option maxHeartbeats 4000000 in
set_option maxRecDepth 100000 in
theorem snB {i : Instr} {tgt : Nat} (hx : p.tables.exec = Jvm.exec) (hb : c.code = mB j) (hd : decode (mB j) pc = .ok (i, ln)) (hln : okL i ln = true) (h : xnB pc i st = some (tgt, st'))
    (kk : W p l e R s m args below meth c H locs cells slots Q (F0 m tgt ls (st'.map (up b ex)))) : W p l e R s m args below meth c H locs cells slots Q (F0 m pc ls (st.map (up b ex))) := by
  cases i
  case goto off =>
    cases okL_eq hln rfl
    cases hk : tg pc off with
    | none => simp only [xnB, hk, Option.map_none] at h; cases h
    | some t =>
      simp only [xnB, hk, Option.map_some] at h
      cases h
      exact lv_goto hx hb hd (tg_spec hk) kk
  case ifCond k off =>
    cases okL_eq hln rfl
    simp only [xnB] at h
    split at h
    · rename_i x t
      cases k
      · cases ht : tg pc off with
        | none => rw [ht] at h; cases h
        | some t9 =>
          rw [ht, Option.map_some] at h
          refine lv_if_eq hx hb hd (tg_spec ht) (fun hc => ?_) (fun hc => ?_)
          · rw [if_pos (show cnd .eq x 0 = true from decide_eq_true hc)] at h
            cases h
            exact kk
          · rw [if_neg (show ¬ cnd .eq x 0 = true from fun q => hc (of_decide_eq_true q))] at h
            cases h
            exact kk
      · cases ht : tg pc off with
        | none => rw [ht] at h; cases h
        | some t9 =>
          rw [ht, Option.map_some] at h
          refine lv_if_ne hx hb hd (tg_spec ht) (fun hc => ?_) (fun hc => ?_)
          · rw [if_pos (show cnd .ne x 0 = true from decide_eq_true hc)] at h
            cases h
            exact kk
          · rw [if_neg (show ¬ cnd .ne x 0 = true from fun q => (of_decide_eq_true q) hc)] at h
            cases h
            exact kk
      · cases ht : tg pc off with
        | none => rw [ht] at h; cases h
        | some t9 =>
          rw [ht, Option.map_some] at h
          refine lv_if_lt hx hb hd (tg_spec ht) (fun hc => ?_) (fun hc => ?_)
          · rw [if_pos (show cnd .lt x 0 = true from decide_eq_true hc)] at h
            cases h
            exact kk
          · rw [if_neg (show ¬ cnd .lt x 0 = true from fun q => hc (of_decide_eq_true q))] at h
            cases h
            exact kk
      · cases ht : tg pc off with
        | none => rw [ht] at h; cases h
        | some t9 =>
          rw [ht, Option.map_some] at h
          refine lv_if_ge hx hb hd (tg_spec ht) (fun hc => ?_) (fun hc => ?_)
          · rw [if_pos (show cnd .ge x 0 = true from decide_eq_true hc)] at h
            cases h
            exact kk
          · rw [if_neg (show ¬ cnd .ge x 0 = true from fun q => hc (of_decide_eq_true q))] at h
            cases h
            exact kk
      · cases ht : tg pc off with
        | none => rw [ht] at h; cases h
        | some t9 =>
          rw [ht, Option.map_some] at h
          refine lv_if_gt hx hb hd (tg_spec ht) (fun hc => ?_) (fun hc => ?_)
          · rw [if_pos (show cnd .gt x 0 = true from decide_eq_true hc)] at h
            cases h
            exact kk
          · rw [if_neg (show ¬ cnd .gt x 0 = true from fun q => hc (of_decide_eq_true q))] at h
            cases h
            exact kk
      · cases ht : tg pc off with
        | none => rw [ht] at h; cases h
        | some t9 =>
          rw [ht, Option.map_some] at h
          refine lv_if_le hx hb hd (tg_spec ht) (fun hc => ?_) (fun hc => ?_)
          · rw [if_pos (show cnd .le x 0 = true from decide_eq_true hc)] at h
            cases h
            exact kk
          · rw [if_neg (show ¬ cnd .le x 0 = true from fun q => hc (of_decide_eq_true q))] at h
            cases h
            exact kk
    · cases h
  case if_icmp k off =>
    cases okL_eq hln rfl
    simp only [xnB] at h
    split at h
    · rename_i y x t
      cases k
      · cases ht : tg pc off with
        | none => rw [ht] at h; cases h
        | some t9 =>
          rw [ht, Option.map_some] at h
          refine lv_icmp_eq hx hb hd (tg_spec ht) (fun hc => ?_) (fun hc => ?_)
          · rw [if_pos (show cnd .eq x y = true from decide_eq_true hc)] at h
            cases h
            exact kk
          · rw [if_neg (show ¬ cnd .eq x y = true from fun q => hc (of_decide_eq_true q))] at h
            cases h
            exact kk
      · cases ht : tg pc off with
        | none => rw [ht] at h; cases h
        | some t9 =>
          rw [ht, Option.map_some] at h
          refine lv_icmp_ne hx hb hd (tg_spec ht) (fun hc => ?_) (fun hc => ?_)
          · rw [if_pos (show cnd .ne x y = true from decide_eq_true hc)] at h
            cases h
            exact kk
          · rw [if_neg (show ¬ cnd .ne x y = true from fun q => (of_decide_eq_true q) hc)] at h
            cases h
            exact kk
      · cases ht : tg pc off with
        | none => rw [ht] at h; cases h
        | some t9 =>
          rw [ht, Option.map_some] at h
          refine lv_icmp_lt hx hb hd (tg_spec ht) (fun hc => ?_) (fun hc => ?_)
          · rw [if_pos (show cnd .lt x y = true from decide_eq_true hc)] at h
            cases h
            exact kk
          · rw [if_neg (show ¬ cnd .lt x y = true from fun q => hc (of_decide_eq_true q))] at h
            cases h
            exact kk
      · cases ht : tg pc off with
        | none => rw [ht] at h; cases h
        | some t9 =>
          rw [ht, Option.map_some] at h
          refine lv_icmp_ge hx hb hd (tg_spec ht) (fun hc => ?_) (fun hc => ?_)
          · rw [if_pos (show cnd .ge x y = true from decide_eq_true hc)] at h
            cases h
            exact kk
          · rw [if_neg (show ¬ cnd .ge x y = true from fun q => hc (of_decide_eq_true q))] at h
            cases h
            exact kk
      · cases ht : tg pc off with
        | none => rw [ht] at h; cases h
        | some t9 =>
          rw [ht, Option.map_some] at h
          refine lv_icmp_gt hx hb hd (tg_spec ht) (fun hc => ?_) (fun hc => ?_)
          · rw [if_pos (show cnd .gt x y = true from decide_eq_true hc)] at h
            cases h
            exact kk
          · rw [if_neg (show ¬ cnd .gt x y = true from fun q => hc (of_decide_eq_true q))] at h
            cases h
            exact kk
      · cases ht : tg pc off with
        | none => rw [ht] at h; cases h
        | some t9 =>
          rw [ht, Option.map_some] at h
          refine lv_icmp_le hx hb hd (tg_spec ht) (fun hc => ?_) (fun hc => ?_)
          · rw [if_pos (show cnd .le x y = true from decide_eq_true hc)] at h
            cases h
            exact kk
          · rw [if_neg (show ¬ cnd .le x y = true from fun q => hc (of_decide_eq_true q))] at h
            cases h
            exact kk
    · cases h
  case ifnull off =>
    cases okL_eq hln rfl
    simp only [xnB] at h
    split at h
    · rename_i a t
      cases a with
      | zero =>
        rw [if_pos rfl] at h
        cases ht : tg pc off with
        | none => rw [ht] at h; cases h
        | some t9 => rw [ht] at h; cases h; exact lv_ifnullN hx hb hd (tg_spec ht) kk
      | succ a =>
        rw [if_neg (Nat.succ_ne_zero a)] at h
        cases h
        exact lv_ifnull (x := b + (a + 1)) hx hb hd kk
    · cases h
  case ifnonnull off =>
    cases okL_eq hln rfl
    simp only [xnB] at h
    split at h
    · rename_i a t
      cases a with
      | zero =>
        rw [if_pos rfl] at h
        cases h
        exact lv_ifnonnullN hx hb hd kk
      | succ a =>
        rw [if_neg (Nat.succ_ne_zero a)] at h
        cases ht : tg pc off with
        | none => rw [ht] at h; cases h
        | some t9 => rw [ht] at h; cases h; exact lv_ifnonnull (x := b + (a + 1)) hx hb hd (tg_spec ht) kk
    · cases h
  case tableswitch dflt lo hi offs =>
    simp only [xnB] at h
    split at h
    · rename_i x t
      split at h
      · rename_i hc
        cases ht : tg pc dflt with
        | none => rw [ht] at h; cases h
        | some t9 => rw [ht] at h; cases h; exact lv_tableOut hx hb hd hc (tg_spec ht) kk
      · rename_i hc
        split at h
        · rename_i off ho
          cases ht : tg pc off with
          | none => rw [ht] at h; cases h
          | some t9 => rw [ht] at h; cases h; exact lv_tableIn hx hb hd (fun q => hc (Or.inl q)) (fun q => hc (Or.inr q)) ho (tg_spec ht) kk
        · cases h
    · cases h
  case lookupswitch dflt ps =>
    simp only [xnB] at h
    split at h
    · rename_i x t
      split at h
      · rename_i hc
        cases ht : tg pc (Op.lookupswitch.offset ps.toList dflt x.toInt) with
        | none => rw [ht] at h; cases h
        | some t9 => rw [ht] at h; cases h; exact lv_lookup hx hb hd hc rfl (tg_spec ht) kk
      · cases h
    · cases h
  all_goals exact (nomatch (show (none : Option (Nat × List Value)) = some _ from h))
end SNA
