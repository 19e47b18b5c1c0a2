/-! ===== soundness ===== -/
section MAIN
variable {l : Launch} {D : va_G} {b : Nat} {ex : Nat → Nat} {cA : FieldType → ClassId} {xs : Nat → Int32} {L n : Nat}
variable {p : Program} {e : Env} {R : Room} {s : State} {m : MethodId} {args : Array Value} {below : List Frame} {meth : Method} {c : Code} {H : Heap} {locs : List Loc} {cells slots : Nat} {Q : State → Prop} {ls : Array Slot} {j pc d y : Nat} {st as rest : List Value} {M M1 : MH} {v : Option Value}
/-- what a caller hands over -/
theorem pre_call (hK : va_K D mjC (tyL cA) s) (hSt : StF b ex xs L s s.heap) (hP : va_P D mjC (wsO b ex cA M) H) (hz : H.size = b + M.2.2.2.2.1 + 1) (hS : va_S (Ab b) s.heap H locs) : ∀ U : State, U.heap = H → s.WarmedH U.vm → PcM D b ex cA xs L as M (as.map (up b ex)).toArray U :=
  fun U hU hW => ⟨rfl, by rw [hU]; exact hz, by rw [hU]; exact hP, va_K.moved hW.alike hK, StF.moved hW (by rw [hU]; exact hSt.kept hS.1 hS.2.1)⟩
theorem room_ok {k d' : Nat} (h1 : d' + 1 ≤ R.frames) (h2 : 41 * (d' + 1) ≤ R.locals) : d' + 1 ≤ R.frames ∧ 8 + (mL k + 11) + 41 * d' ≤ R.locals := by
  have := m_max k
  exact ⟨h1, by omega⟩
theorem wt_ok {st : List Value} (h : wt st ≤ 8) : ((st.map (up b ex)).map fun v => v.category).sum ≤ 8 := by rw [up_wt]; exact h
set_option maxHeartbeats 8000000 in
/-- the machine's call of a method, any of our kinds, that returns -/
theorem sn_callR (ih : Sd l D b ex cA xs L n) {d' : Nat} {i : Instr} {fg : Bool} (hx : p.tables.exec = Jvm.exec) (hb : c.code = mB j) (hml : c.maxLocals = mL j) (hown : s.vm.findClass (oN (mO j)) = some m.cls) (hts : ∀ w ∈ mjS, goodWord w = true → w.before args s = true) (hK : va_K D mjC (tyL cA) s) (hSt : StF b ex xs L s s.heap) (hRf : d' + 1 ≤ R.frames) (hRl : 41 * (d' + 1) ≤ R.locals)
    (hI : Inv M) (hP : va_P D mjC (wsO b ex cA M) H) (hz : H.size = b + M.2.2.2.2.1 + 1) (hS : va_S (Ab b) s.heap H locs) (hsz : ls.size = mL j)
    (hd : decode (mB j) pc = .ok (i, 3)) (hcl : cl j i st M = some (y, as, rest, fg)) (hq : xq xs L n d' y 0 (en y as) [] M = some (some v, M1)) (hc : cells + (M1.2.2.2.2.1 - M.2.2.2.2.1) ≤ R.cells) (hs : slots + (M1.2.2.2.2.2 - M.2.2.2.2.2) ≤ R.slots)
    (kk : ∀ (H1 : Heap) (locs1 : List Loc), va_P D mjC (wsO b ex cA M1) H1 → H1.size = b + M1.2.2.2.2.1 + 1 → va_S (Ab b) s.heap H1 locs1 → W p l e R s m args below meth c H1 locs1 (cells + (M1.2.2.2.2.1 - M.2.2.2.2.1)) (slots + (M1.2.2.2.2.2 - M.2.2.2.2.2)) Q (F0 m (pc + 3) ls ((v.toList ++ rest).map (up b ex)))) : W p l e R s m args below meth c H locs cells slots Q (F0 m pc ls (st.map (up b ex))) := by
  have hts2 := htf hts
  have fix : CallFix p m c (mB j) (mL j) s args (mjS.filter goodWord) (oN (mO j)) := ⟨hx, hb, hml, hown, hts2⟩
  have kk2 : ∀ (H1 : Heap) (locs1 : List Loc), va_P D mjC (wsO b ex cA M1) H1 → H1.size = b + M1.2.2.2.2.1 + 1 → va_S (Ab b) s.heap H1 locs1 → W p l e R s m args below meth c H1 locs1 (cells + (M1.2.2.2.2.1 - M.2.2.2.2.1)) (slots + (M1.2.2.2.2.2 - M.2.2.2.2.2)) Q (F0 m (pc + 3) ls ((v.map (up b ex)).toList ++ rest.map (up b ex))) := fun H1 locs1 q1 q2 q3 => by rw [ret_st]; exact kk H1 locs1 q1 q2 q3
  have hpre := pre_call (as := as) hK hSt hP hz hS
  cases i
  case invokestatic k =>
    simp only [cl] at hcl
    split at hcl
    · rename_i y9 hy
      split at hcl
      · rename_i hc9
        cases hcl
        obtain ⟨g1, g2, g3, g4, g5, g6⟩ := cs_at hy
        have hstk : st.map (up b ex) = (((st.take (mP y)).reverse).map (up b ex)).reverse ++ (st.drop (mP y)).map (up b ex) := by
          rw [List.map_reverse, List.reverse_reverse, ← List.map_append, List.take_append_drop]
        have hw : mWs y = Cond.code (mY y) (mB y) (mL y) (mR y) :: mjS.filter goodWord := by
          unfold mWs mCo
          rw [if_pos g6]
        refine mx_call (va_runS (n := mP y) (As := ((st.take (mP y)).reverse).map (up b ex)) fix (cm_ret ih hq hI hc9.2.1 g6) (va_cwS (mP y) hts2 (goodIn_app (fun w h => ?_) (mWs_in g1)) hw rfl rfl ⟨(nMH_of g5.1).1, (nMH_of g5.1).2, np_of g5.2⟩ (room_ok hRf hRl)) ⟨PcM_blind _ _ _ _ _ _ _ _, hpre⟩ rfl ?_ hsz hstk (lv_room (wt_ok hc9.2.2.1)) hd ⟨hc, hs⟩) hS kk2
        · rcases List.mem_cons.mp h with rfl | h
          · exact gw_in g2 rfl
          · rcases List.mem_cons.mp h with rfl | h
            · exact gw_in g3 rfl
            · rcases List.mem_cons.mp h with rfl | h
              · exact gw_in g4 rfl
              · cases h
        · simp
          have := hc9.1
          omega
      · cases hcl
    · cases hcl
  case invokespecial k =>
    simp only [cl] at hcl
    split at hcl
    · rename_i y9 hy
      split at hcl
      · rename_i a t hdr
        split at hcl
        · rename_i hc9
          cases hcl
          obtain ⟨g1, g2, g3, g4, g5, g6, g7, g8⟩ := cp_at hy
          have hw : mWs y = Cond.code (mY y) (mB y) (mL y) (none) :: mjS.filter goodWord := by
            unfold mWs mCo
            rw [if_pos g6, g7]
          have hmet := cm_ret ih hq hI hc9.1 g6
          rcases g2 with g2 | ⟨host, g2⟩
          · exact mx_call (va_runI (n := mP y) (b := b + (a + 1)) (As := ((st.take (mP y)).reverse).map (up b ex)) fix hmet (cwI (mP y) hts2 (mWs_in g1) hw rfl rfl (hts _ g4 rfl) (hts _ g2 rfl) (hts _ g3 rfl) g8 ⟨(nMH_of g5.1).1, (nMH_of g5.1).2, np_of g5.2⟩ (room_ok hRf hRl)) ⟨PcM_blind _ _ _ _ _ _ _ _, hpre⟩ rfl (stk_len hdr) hsz (stk hdr) (lv_room (wt_ok hc9.2.1)) hd ⟨hc, hs⟩) hS kk2
          · exact mx_call (va_runIN (n := mP y) (b := b + (a + 1)) (As := ((st.take (mP y)).reverse).map (up b ex)) fix hmet ⟨va_cnB (mP y) hts2 (mWs_in g1) hw rfl rfl (hSt.2.2.2.2.1 _ g2 rfl) (hts _ g4 rfl) ⟨(nMH_of g5.1).1, (nMH_of g5.1).2, np_of g5.2⟩ (room_ok hRf hRl), g8, hts _ g3 rfl⟩ ⟨PcM_blind _ _ _ _ _ _ _ _, hpre⟩ rfl (stk_len hdr) hsz (stk hdr) (lv_room (wt_ok hc9.2.1)) hd ⟨hc, hs⟩) hS kk2
        · cases hcl
      · cases hcl
    · cases hcl
  case invokevirtual k =>
    simp only [cl] at hcl
    split at hcl
    · rename_i n9 hn9
      split at hcl
      · rename_i a t hdr
        split at hcl
        · rename_i ci hsh
          split at hcl
          · rename_i y9 hy
            split at hcl
            · rename_i hc9
              cases hcl
              obtain ⟨g1, g2, g3, g4⟩ := cv_at hy
              have en9 : n9 = mP y := Option.some.inj (hn9.symm.trans g3)
              subst en9
              obtain ⟨ha0, haz⟩ := hI.in (a := a) (fun q => by rw [hsh] at q; cases q; exact absurd g2 (by decide))
              have hat := wsO_at (b := b) (ex := ex) (cA := cA) ha0 haz
              rw [ceE_o hsh] at hat
              have hrec := va_recv hK hP (mjC_at (Nat.lt_succ_of_lt g2)) hat
              have hst := stk (b := b) (ex := ex) hdr
              rw [up_ref ha0] at hst
              have hpre2 : ∀ U : State, U.heap = H → s.WarmedH U.vm → PcM D b ex cA xs L (.ref a :: (st.take (mP y)).reverse) M (Value.ref (b + a) :: ((st.take (mP y)).reverse).map (up b ex)).toArray U := by
                have := hpre
                rw [List.map_cons, up_ref ha0] at this
                exact this
              by_cases hH : mHH y = []
              · have hw : mWs y = Cond.code (mY y) (mB y) (mL y) (mR y) :: mjS.filter goodWord := by
                  unfold mWs mCo
                  rw [if_pos hH]
                have hmet := cm_ret ih hq hI hc9.1 hH
                rcases g4 with ⟨w1, w2, w3, w4, w5, w6⟩ | ⟨x, owner, w1, w2, w3, w4, w5, w6, w7, w8, w9⟩
                · refine mx_call (va_runV (n := mP y) (C := mjCN ci) (b := b + a) (As := ((st.take (mP y)).reverse).map (up b ex)) fix hmet (cwV (mP y) hts2 (goodIn_app (fun w h => ?_) (mWs_in g1)) hw rfl rfl ⟨w5, (nMH_of w6.1).1, (nMH_of w6.1).2, np_of w6.2⟩ (room_ok hRf hRl)) ⟨PcM_blind _ _ _ _ _ _ _ _, hrec, hpre2⟩ rfl (stk_len hdr) hsz hst (lv_room (wt_ok hc9.2.1)) hd ⟨hc, hs⟩) hS kk2
                  rcases List.mem_cons.mp h with rfl | h
                  · exact gw_in w1 rfl
                  · rcases List.mem_cons.mp h with rfl | h
                    · exact gw_in w3 rfl
                    · rcases List.mem_cons.mp h with rfl | h
                      · exact gw_in w2 rfl
                      · rcases List.mem_cons.mp h with rfl | h
                        · rw [← w5]; exact gw_in w4 rfl
                        · cases h
                · refine mx_call (va_runU (n := mP y) (C := mjCN ci) (owner := owner) (x := x) (b := b + a) (bytes := mB y) (maxL := mL y) (ret := mR y) (As := ((st.take (mP y)).reverse).map (up b ex)) fix hmet ⟨⟨rfl, rfl, (room_ok (k := y) hRf hRl).1, (room_ok hRf hRl).2, pay_in hts2 (mWs_in g1), by rw [hw]; exact List.mem_cons_self⟩, ?_, hts _ w5 rfl, w7, np_len w8, hts _ w1 rfl, hts _ w2 rfl, ?_, hts _ w3 rfl, hts _ w4 rfl⟩ ⟨PcM_blind _ _ _ _ _ _ _ _, hrec, hpre2⟩ rfl (stk_len hdr) hsz hst (lv_room (wt_ok hc9.2.1)) hd ⟨hc, hs⟩) hS kk2
                  · have := hts _ (mCo_at g1).1 (mCo_at g1).2
                    unfold mCo at this
                    rw [if_pos hH] at this
                    exact this
                  · rcases w6 with w6 | w6
                    · exact va_Decl.abs (hSt.2.2.2.2.1 _ w6 rfl)
                    · rw [← w6]
                      have h7 := hts _ (mCo_at g1).1 (mCo_at g1).2
                      unfold mCo at h7
                      rw [if_pos hH] at h7
                      exact va_Decl.of (hts _ w4 rfl) h7
              · have hw : mWs y = Cond.codeWith (mY y) (mB y) (mL y) (mR y) (mHH y) :: mjS.filter goodWord := by
                  unfold mWs mCo
                  rw [if_neg hH]
                have hmet := cm_retH ih hq hI hc9.1 hH
                rcases g4 with ⟨w1, w2, w3, w4, w5, w6⟩ | ⟨x, owner, w1, w2, w3, w4, w5, w6, w7, w8, w9⟩
                · refine mx_callR (vx_runVX (n := mP y) (C := mjCN ci) (b := b + a) (As := ((st.take (mP y)).reverse).map (up b ex)) fix hmet (vx_cwVW (mP y) hts2 (goodIn_app (fun w h => ?_) (mWs_in g1)) hw rfl rfl ⟨w5, (nMH_of w6.1).1, (nMH_of w6.1).2, np_of w6.2⟩ (room_ok hRf hRl)) ⟨PcM_blind _ _ _ _ _ _ _ _, hrec, hpre2⟩ rfl (stk_len hdr) hsz hst (lv_room (wt_ok hc9.2.1)) hd ⟨hc, hs⟩) hS kk2
                  rcases List.mem_cons.mp h with rfl | h
                  · exact gw_in w1 rfl
                  · rcases List.mem_cons.mp h with rfl | h
                    · exact gw_in w3 rfl
                    · rcases List.mem_cons.mp h with rfl | h
                      · exact gw_in w2 rfl
                      · rcases List.mem_cons.mp h with rfl | h
                        · rw [← w5]; exact gw_in w4 rfl
                        · cases h
                · exact absurd w9 hH
            · cases hcl
          · cases hcl
        · cases hcl
      · cases hcl
    · cases hcl
  all_goals exact (nomatch (show (none : Option (Nat × List Value × List Value × Bool)) = some _ from hcl))
end MAIN
