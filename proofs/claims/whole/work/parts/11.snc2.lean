/-! ===== soundness: all that touches the heap ===== -/
section SNE
variable {p : Program} {l : Launch} {e : Env} {R : Room} {s : State} {m : MethodId} {args : Array Value} {below : List Frame} {meth : Method} {c : Code} {H : Heap} {locs : List Loc} {cells slots : Nat} {Q : State → Prop}
variable {b : Nat} {ex : Nat → Nat} {cA : FieldType → ClassId} {D : va_G} {xs : Nat → Int32} {L d j pc ln : Nat} {st st' : List Value} {ls : Array Slot} {M M' : MH}
theorem mjG_ok : mjG = [(0, 93, 1, 750), (14, 105, 2, 1141)] := rfl
theorem mjG_w : Cond.fieldLink (oN 0) 93 RX0 "LANES_WITH" "[J" ∈ mjS ∧ Cond.fieldLink (oN 14) 105 RX14 "WORDS" "[J" ∈ mjS := by decide +kernel
/-- what the text's indexOf does, as a step -/
def IxS (p : Program) (l : Launch) (e : Env) (R : Room) (s : State) (m : MethodId) (args : Array Value) (below : List Frame) (meth : Method) (c : Code) (b : Nat) (ex : Nat → Nat) (d : Nat) : Prop :=
  ∀ (H : Heap) (locs : List Loc) (cells slots : Nat) (Q : State → Prop) (pc : Nat) (ls : Array Slot) (x : Int32) (t : List Value), decode c.code pc = .ok (.invokevirtual 117, 3) → s.vm.findClass RX14 = some m.cls → ls.size = c.maxLocals → 8 ≤ d → wt t ≤ 8 → va_S (Ab b) s.heap H locs → cells ≤ R.cells → slots ≤ R.slots →
    W p l e R s m args below meth c H locs cells slots Q (F0 m (pc + 3) ls (.int (ixOf x) :: t.map (up b ex))) → W p l e R s m args below meth c H locs cells slots Q (F0 m pc ls (.int x :: .ref (ex 3) :: t.map (up b ex)))
/-- the heap is no larger than what has been made -/
theorem W_sz {g : JFrame} (k : H.size ≤ s.heap.size + cells → W p l e R s m args below meth c H locs cells slots Q g) : W p l e R s m args below meth c H locs cells slots Q g := fun T hT X => k (by rw [← hT]; exact X.same.2.2.1) T hT X
theorem ws_low {H' : Heap} (h : va_P D mjC (wsO b ex cA M) H') (h0 : 0 < M.2.2.2.2.1) : b + M.2.2.2.2.1 + 1 ≤ H'.size := by
  have h1 := (h _ _ (wsO_at (b := b) (ex := ex) (cA := cA) (M := M) (a := M.2.2.2.2.1) (by omega) (Nat.le_refl _))).lt
  exact h1
set_option maxHeartbeats 8000000 in
set_option maxRecDepth 100000 in
theorem snC {i : Instr} {pc' : Nat} (hx : p.tables.exec = Jvm.exec) (hb : c.code = mB j) (hown : s.vm.findClass (oN (mO j)) = some m.cls) (hnm : meth.name = (mY j).name) (hts : ∀ w ∈ mjS, goodWord w = true → w.before args s = true) (hK : va_K D mjC (tyL cA) s) (hSt : StF b ex xs L s s.heap) (hix : IxS p l e R s m args below meth c b ex d) (hsz : ls.size = c.maxLocals)
    (hI : Inv M) (hP : va_P D mjC (wsO b ex cA M) H) (hz : H.size = b + M.2.2.2.2.1 + 1) (hh : s.heap.size + cells = b + M.2.2.2.2.1 + 1) (hS : va_S (Ab b) s.heap H locs) (hRf : d ≤ R.frames) (hRl : 41 * d ≤ R.locals) (hRc : cells + (M'.2.2.2.2.1 - M.2.2.2.2.1) ≤ R.cells) (hRs : slots + (M'.2.2.2.2.2 - M.2.2.2.2.2) ≤ R.slots)
    (hd : decode (mB j) pc = .ok (i, ln)) (hln : okL i ln = true) (h : xnC xs L d j pc i st M = some (pc', st', M'))
    (kk : ∀ (H' : Heap) (locs' : List Loc), va_P D mjC (wsO b ex cA M') H' → H'.size = b + M'.2.2.2.2.1 + 1 → va_S (Ab b) s.heap H' locs' → W p l e R s m args below meth c H' locs' (cells + (M'.2.2.2.2.1 - M.2.2.2.2.1)) (slots + (M'.2.2.2.2.2 - M.2.2.2.2.2)) Q (F0 m pc' ls (st'.map (up b ex)))) : W p l e R s m args below meth c H locs cells slots Q (F0 m pc ls (st.map (up b ex))) := by
  have same : M' = M → ∀ g : JFrame, (∀ (H' : Heap) (locs' : List Loc), va_P D mjC (wsO b ex cA M') H' → H'.size = b + M'.2.2.2.2.1 + 1 → va_S (Ab b) s.heap H' locs' → W p l e R s m args below meth c H' locs' (cells + (M'.2.2.2.2.1 - M.2.2.2.2.1)) (slots + (M'.2.2.2.2.2 - M.2.2.2.2.2)) Q g) → W p l e R s m args below meth c H locs cells slots Q g := by
    intro e g k
    subst e
    have k := k H locs hP hz hS
    rw [Nat.sub_self, Nat.sub_self] at k
    exact k
  have wr : M'.2.2.2.2 = M.2.2.2.2 → 0 < M.2.2.2.2.1 → ∀ g : JFrame, (∀ (H' : Heap) (locs' : List Loc), va_P D mjC (wsO b ex cA M') H' → H'.size = b + M'.2.2.2.2.1 + 1 → va_S (Ab b) s.heap H' locs' → W p l e R s m args below meth c H' locs' (cells + (M'.2.2.2.2.1 - M.2.2.2.2.1)) (slots + (M'.2.2.2.2.2 - M.2.2.2.2.2)) Q g) → ∀ (H' : Heap) (locs' : List Loc), va_P D mjC (wsO b ex cA M') H' → va_S (Ab b) s.heap H' locs' → W p l e R s m args below meth c H' locs' cells slots Q g := by
    intro e hpos g k H' locs' q1 q3
    refine W_sz fun q2 => ?_
    have hlow := ws_low q1 (by rw [e]; exact hpos)
    have k := k H' locs' q1 (by rw [e] at hlow ⊢; omega) q3
    rw [e, Nat.sub_self, Nat.sub_self] at k
    exact k
  cases i
  case getfield k =>
    cases okL_eq hln rfl
    simp only [xnC] at h
    split at h
    · rename_i a t
      split at h
      · rename_i ci hsh
        cases hf : fl (mO j) k ci with
        | none => rw [hf] at h; cases h
        | some f =>
          rw [hf] at h
          cases h
          exact sn_get hx hb hown hts hK hI hP hd hsh hf (same rfl _ kk)
      · cases h
    · cases h
  case putfield k =>
    cases okL_eq hln rfl
    simp only [xnC] at h
    split at h
    · rename_i v a t
      split at h
      · rename_i ci hsh
        split at h
        · rename_i f hf
          split at h
          · rename_i hok
            cases hpf : pf M ci a f v with
            | none => rw [hpf] at h; cases h
            | some M9 =>
              rw [hpf] at h
              cases h
              have hzz := (pf_at (b := b) (ex := ex) (cA := cA) hpf).2.2.1
              refine sn_put hx hb hown hnm hts hK hI hP hS hd hsh hf hok hpf hz (fun H' locs' q1 q3 => wr hzz (by have := fl_at hf; have := hI.in (a := a) (fun q => by rw [hsh] at q; cases q; exact absurd this.1 (by decide)); omega) _ kk H' locs' q1 q3)
          · cases h
        · cases h
      · cases h
    · cases h
  case iaload =>
    cases okL_eq hln rfl
    simp only [xnC] at h
    split at h
    · rename_i x a t
      split at h
      · rename_i n hsh
        split at h
        · rename_i hin
          cases h
          exact sn_iald hx hb hK hI hP hd hsh hin (same rfl _ kk)
        · cases h
      · cases h
    · rename_i x t
      split at h
      · rename_i hin
        cases h
        obtain ⟨-, -, -, -, -, f1, f2, f3⟩ := hSt
        exact va_sld hx hb f1 f3 (Nat.not_lt.mpr f2) hS (inb_in hin) hd (same rfl _ kk)
      · cases h
    · cases h
  case laload =>
    cases okL_eq hln rfl
    simp only [xnC] at h
    split at h
    · rename_i x a t
      split at h
      · rename_i n hsh
        split at h
        · rename_i hin
          cases h
          exact sn_lald hx hb hK hI hP hd hsh hin (same rfl _ kk)
        · cases h
      · cases h
    · rename_i x e9 t
      split at h
      · rename_i hin
        cases h
        obtain ⟨⟨a1, a2⟩, ⟨b1, b2⟩, -⟩ := hSt
        match e9, hin, kk with
        | 1, hin, kk => exact va_tl hx hb a2 hS (inb_in hin) rfl hd (same rfl _ kk)
        | 2, hin, kk => exact va_tl hx hb b2 hS (inb_in hin) rfl hd (same rfl _ kk)
        | 0, hin, _ => exact absurd (inb_in hin) (fun q => q (Or.inr (Nat.zero_le _)))
        | n + 3, hin, _ => exact absurd (inb_in hin) (fun q => q (Or.inr (Nat.zero_le _)))
      · cases h
    · cases h
  case baload =>
    cases okL_eq hln rfl
    simp only [xnC] at h
    split at h
    · rename_i x a t
      split at h
      · rename_i n hsh
        split at h
        · rename_i hin
          cases h
          exact sn_bald hx hb hK hI hP hd (Or.inl rfl) hsh hin (same rfl _ kk)
        · cases h
      · rename_i n hsh
        split at h
        · rename_i hin
          cases h
          exact sn_bald hx hb hK hI hP hd (Or.inr rfl) hsh hin (same rfl _ kk)
        · cases h
      · cases h
    · cases h
  case iastore =>
    cases okL_eq hln rfl
    simp only [xnC] at h
    split at h
    · rename_i v x a t
      split at h
      · rename_i n hsh
        split at h
        · rename_i hin
          cases h
          exact sn_iast hx hb hK hI hP hS hd hsh hin (fun H' locs' q1 q3 => wr rfl (by have := sn_arr hI hsh; omega) _ kk H' locs' q1 q3)
        · cases h
      · cases h
    · cases h
  case lastore =>
    cases okL_eq hln rfl
    simp only [xnC] at h
    split at h
    · rename_i v x a t
      split at h
      · rename_i n hsh
        split at h
        · rename_i hin
          cases h
          exact sn_last hx hb hK hI hP hS hd hsh hin (fun H' locs' q1 q3 => wr rfl (by have := sn_arr hI hsh; omega) _ kk H' locs' q1 q3)
        · cases h
      · cases h
    · cases h
  case bastore =>
    cases okL_eq hln rfl
    simp only [xnC] at h
    split at h
    · rename_i v x a t
      split at h
      · rename_i n hsh
        split at h
        · rename_i hin
          cases h
          exact sn_bast hx hb hK hI hP hS hd (Or.inl rfl) hsh hin (fun H' locs' q1 q3 => wr rfl (by have := sn_arr hI hsh; omega) _ kk H' locs' q1 q3)
        · cases h
      · rename_i n hsh
        split at h
        · rename_i hin
          cases h
          exact sn_bast hx hb hK hI hP hS hd (Or.inr rfl) hsh hin (fun H' locs' q1 q3 => wr rfl (by have := sn_arr hI hsh; omega) _ kk H' locs' q1 q3)
        · cases h
      · cases h
    · cases h
  case arraylength =>
    cases okL_eq hln rfl
    simp only [xnC] at h
    split at h
    · rename_i a t
      split at h
      · rename_i ty n hsh
        cases h
        exact sn_alen hx hb hK hI hP hd hsh (same rfl _ kk)
      · cases h
    · rename_i t
      cases h
      obtain ⟨-, -, -, -, -, f1, f2, f3⟩ := hSt
      exact va_slen hx hb f1 f3 (Nat.not_lt.mpr f2) hS hd (same rfl _ kk)
    · cases h
  case new k =>
    cases okL_eq hln rfl
    simp only [xnC] at h
    cases hn : nwl (mO j) k with
    | none => rw [hn] at h; cases h
    | some ci =>
      rw [hn] at h
      cases h
      have e1 : (newO M ci).2.2.2.2.1 - M.2.2.2.2.1 = 1 := by show M.2.2.2.2.1 + 1 - M.2.2.2.2.1 = 1; omega
      have e2 : (newO M ci).2.2.2.2.2 - M.2.2.2.2.2 = nF ci := by show M.2.2.2.2.2 + nF ci - M.2.2.2.2.2 = nF ci; omega
      rw [e1] at hRc kk
      rw [e2] at hRs kk
      exact sn_new hx hb hown hts hK hP hS hz hd hn hRc hRs (fun H' q1 q2 q3 => kk H' locs q1 (by rw [q2, hz]; rfl) q3)
  case newarray aty =>
    cases okL_eq hln rfl
    simp only [xnC] at h
    split at h
    · rename_i n t
      split at h
      · rename_i y hy
        split at h
        · rename_i hc
          cases h
          have e1 : (newA M y n.toNatClampNeg).2.2.2.2.1 - M.2.2.2.2.1 = 1 := by show M.2.2.2.2.1 + 1 - M.2.2.2.2.1 = 1; omega
          have e2 : (newA M y n.toNatClampNeg).2.2.2.2.2 - M.2.2.2.2.2 = n.toNatClampNeg := by show M.2.2.2.2.2 + n.toNatClampNeg - M.2.2.2.2.2 = _; omega
          rw [e1] at hRc kk
          rw [e2] at hRs kk
          exact sn_newa hx hb hts hK hP hS hz hd hy hc.1 hc.2 hRc hRs (fun H' q1 q2 q3 => kk H' locs q1 (by rw [q2, hz]; rfl) q3)
        · cases h
      · cases h
    · cases h
  case getstatic k =>
    cases okL_eq hln rfl
    simp only [xnC] at h
    cases hg : gsl (mO j) k with
    | none => rw [hg] at h; cases h
    | some e9 =>
      rw [hg] at h
      cases h
      obtain ⟨r, h1, h2, h3⟩ := tb_fd hg
      rw [mjG_ok] at h1
      rw [Bool.and_eq_true] at h2
      have o1 : r.1 = mO j := beq_iff_eq.mp h2.1
      have o2 : r.2.1 = k := beq_iff_eq.mp h2.2
      have o3 : r.2.2.1 = e9 := h3
      obtain ⟨⟨a1, a2⟩, ⟨b1, b2⟩, -⟩ := hSt
      rcases List.mem_cons.mp h1 with rfl | h1
      · subst o2
        subst o3
        exact va_gets hx hb a1 hS hown (by rw [← o1]; exact hts _ mjG_w.1 rfl) (fun _ q => q) hd (same rfl _ kk)
      · rcases List.mem_cons.mp h1 with rfl | h1
        · subst o2
          subst o3
          exact va_gets hx hb b1 hS hown (by rw [← o1]; exact hts _ mjG_w.2 rfl) (fun _ q => q) hd (same rfl _ kk)
        · cases h1
  case ldc k =>
    cases okL_eq hln rfl
    simp only [xnC] at h
    split at h
    · rename_i hc
      cases h
      obtain ⟨-, -, ⟨c1, -⟩, -⟩ := hSt
      rw [hc.1] at hown
      rw [hc.2] at hd
      exact va_ldcS hx hb hown c1 hd (same rfl _ kk)
    · cases h
  case invokespecial k =>
    cases okL_eq hln rfl
    simp only [xnC] at h
    split at h
    · rename_i hk
      split at h
      · rename_i a t
        split at h
        · rename_i hc
          cases h
          have hlo : mO j < 18 := by
            rcases Nat.lt_or_ge (mO j) 18 with q | q
            · exact q
            · exfalso
              have hq : oN (mO j) = "" := tb_gd (l := mjN) (d := "") q
              have := m_plain j
              rw [← m_own j, hq] at this
              have h2 := List.all_eq_true.mp (show mjT.all (fun r => decide (r.2.2.2.2.1 < 18)) = true by decide +kernel)
              have h3 : mO j < 18 := by
                show (mjr j).2.2.2.2.1 < 18
                unfold mjr
                by_cases hj : j < mjT.length
                · rw [List.getD_eq_getElem?_getD, List.getElem?_eq_getElem hj]
                  exact of_decide_eq_true (h2 _ (List.getElem_mem hj))
                · rw [tb_gd (by omega)]
                  decide
              omega
          have hw := List.all_eq_true.mp mjO_ok (mO j) (List.mem_range.mpr hlo)
          rw [hk.1, Bool.or_eq_true] at hw
          rcases hw with hw | hw
          · exact absurd (of_decide_eq_true hw) hk.2
          · have hmem : Cond.methodLink (oN (mO j)) k Lib.objectInit ∈ mjS := List.contains_iff_mem.mp hw
            rw [List.map_cons, up_ref hc.1]
            refine W.objInit hx hb hown (hts _ hmem rfl) (hts _ mjS_oi.1 rfl) (hts _ mjS_oi.2 rfl) rfl hsz rfl hd (Nat.le_trans hc.2.1 hRf) ?_ (same rfl _ kk)
            have h5 := up_wt b ex st'
            show 0 + ((st'.map (up b ex)).map fun v => v.category).sum + 12 ≤ R.locals
            rw [h5]
            have := hc.2.2
            have := hc.2.1
            omega
        · cases h
      · cases h
    · cases h
  case invokestatic k =>
    cases okL_eq hln rfl
    simp only [xnC] at h
    split at h
    · rename_i hk
      split at h
      · rename_i y x t
        split at h
        · rename_i hc
          cases h
          obtain ⟨r, h1, h2⟩ := List.any_eq_true.mp hk
          rw [Bool.and_eq_true] at h2
          have h4 := of_decide_eq_true (List.all_eq_true.mp mjMx_ok r h1)
          rw [beq_iff_eq.mp h2.1, beq_iff_eq.mp h2.2] at h4
          have h5 := up_wt b ex t
          exact va_mmax hx hb hsz.symm hown (hts _ (List.mem_of_getElem? h4) rfl) (hts _ mjS_mx.1 rfl) (hts _ mjS_mx.2.1 rfl) (hts _ mjS_mx.2.2 rfl) (Nat.le_trans hc.1 hRf) (by rw [h5]; have := hc.1; have := hc.2; omega) (by omega) (by omega) hd (same rfl _ kk)
        · cases h
      · cases h
    · cases h
  case invokevirtual k =>
    cases okL_eq hln rfl
    simp only [xnC] at h
    split at h
    · rename_i hk
      split at h
      · rename_i x t
        split at h
        · rename_i hc
          cases h
          rw [hk.2] at hd
          rw [hk.1] at hown
          exact hix H locs cells slots Q pc ls x t (by rw [hb]; exact hd) hown hsz hc.1 hc.2 hS (by omega) (by omega) (same rfl _ kk)
        · cases h
      · cases h
    · cases h
  all_goals exact (nomatch (show (none : Option (Nat × List Value × MH)) = some _ from h))
end SNE
