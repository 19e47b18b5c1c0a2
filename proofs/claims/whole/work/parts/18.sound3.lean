section SD3
variable {l : Launch} {D : va_G} {b : Nat} {ex : Nat → Nat} {cA : FieldType → ClassId} {xs : Nat → Int32} {L n : Nat}
variable {p : Program} {e : Env} {R : Room} {s : State} {m : MethodId} {args : Array Value} {below : List Frame} {meth : Method} {c : Code} {H : Heap} {locs : List Loc} {cells slots : Nat} {Q : State → Prop} {ls : Array Slot} {j pc d y : Nat} {st as rest : List Value} {M M1 : MH} {v : Option Value}
set_option maxHeartbeats 8000000 in
/-- a call of a method that throws -/
theorem sn_callX (ih : Sd l D b ex cA xs L n) {d' : Nat} {i : Instr} (hx : p.tables.exec = Jvm.exec) (hb : c.code = mB j) (hml : c.maxLocals = mL j) (hown : s.vm.findClass (oN (mO j)) = some m.cls) (hts : ∀ w ∈ mjS, goodWord w = true → w.before args s = true) (hK : va_K D mjC (tyL cA) s) (hSt : StF b ex xs L s s.heap) (hRf : d' + 1 ≤ R.frames) (hRl : 41 * (d' + 1) ≤ R.locals)
    (hI : Inv M) (hP : va_P D mjC (wsO b ex cA M) H) (hz : H.size = b + M.2.2.2.2.1 + 1) (hS : va_S (Ab b) s.heap H locs) (hsz : ls.size = mL j)
    (hd : decode (mB j) pc = .ok (i, 3)) (hcl : cl j i st M = some (y, as, rest, true)) (hq : xq xs L n d' y 0 (en y as) [] M = some (none, M1)) (hc : cells + (M1.2.2.2.2.1 - M.2.2.2.2.1) ≤ R.cells) (hs : slots + (M1.2.2.2.2.2 - M.2.2.2.2.2) ≤ R.slots)
    (kk : ∀ (ce : Cell) (q : Addr) (H1 : Heap) (locs1 : List Loc), va_P D mjC (wsO b ex cA M1) H1 → H1.size = b + M1.2.2.2.2.1 + 1 → va_S (Ab b) s.heap H1 locs1 → H1[q]? = some ce → ce.vm = .none → s.vm.findClass "java/lang/IllegalArgumentException" = some ce.cls → vx_W p l e R s m args below meth c H1 locs1 (cells + (M1.2.2.2.2.1 - M.2.2.2.2.1)) (slots + (M1.2.2.2.2.2 - M.2.2.2.2.2)) Q (F0 m pc ls (rest.map (up b ex))) q) : W p l e R s m args below meth c H locs cells slots Q (F0 m pc ls (st.map (up b ex))) := by
  have hts2 := htf hts
  have fix : CallFix p m c (mB j) (mL j) s args (mjS.filter goodWord) (oN (mO j)) := ⟨hx, hb, hml, hown, hts2⟩
  have hpre := pre_call (as := as) hK hSt hP hz hS
  cases i
  case invokevirtual k =>
    simp only [cl] at hcl
    split at hcl
    · rename_i n9 hn9
      split at hcl
      · rename_i a t hdr
        split at hcl
        · rename_i ci hsh
          split at hcl
          · rename_i y9 hy
            split at hcl
            · rename_i hc9
              have e0 := Option.some.inj hcl
              have e1 : y9 = y := (Prod.mk.inj e0).1
              have e2 : .ref a :: (st.take n9).reverse = as := (Prod.mk.inj (Prod.mk.inj e0).2).1
              have e3 : t = rest := (Prod.mk.inj (Prod.mk.inj (Prod.mk.inj e0).2).2).1
              have e4 : cvk (mO j) k ci = true := (Prod.mk.inj (Prod.mk.inj (Prod.mk.inj e0).2).2).2
              subst e1
              subst e2
              subst e3
              obtain ⟨g1, g2, g3, -⟩ := cv_at hy
              obtain ⟨⟨w1, w2, w3, w4, w5, w6⟩, hH⟩ := cvk_at hy e4
              have en9 : n9 = mP y9 := Option.some.inj (hn9.symm.trans g3)
              subst en9
              obtain ⟨ha0, haz⟩ := hI.in (a := a) (fun q => by rw [hsh] at q; cases q; exact absurd g2 (by decide))
              have hat := wsO_at (b := b) (ex := ex) (cA := cA) ha0 haz
              rw [ceE_o hsh] at hat
              have hrec := va_recv hK hP (mjC_at (Nat.lt_succ_of_lt g2)) hat
              have hst := stk (b := b) (ex := ex) hdr
              rw [up_ref ha0] at hst
              have hpre2 : ∀ U : State, U.heap = H → s.WarmedH U.vm → PcM D b ex cA xs L (.ref a :: (st.take (mP y9)).reverse) M (Value.ref (b + a) :: ((st.take (mP y9)).reverse).map (up b ex)).toArray U := by
                have := hpre
                rw [List.map_cons, up_ref ha0] at this
                exact this
              have hw : mWs y9 = Cond.code (mY y9) (mB y9) (mL y9) (mR y9) :: mjS.filter goodWord := by
                unfold mWs mCo
                rw [if_pos hH]
              refine mx_callX (vx_runV (n := mP y9) (C := mjCN ci) (b := b + a) (As := ((st.take (mP y9)).reverse).map (up b ex)) fix (cm_thr ih hq hI hc9.1 hH) (cwV (mP y9) hts2 (goodIn_app (fun w h => ?_) (mWs_in g1)) hw rfl rfl ⟨w5, (nMH_of w6.1).1, (nMH_of w6.1).2, np_of w6.2⟩ (room_ok hRf hRl)) ⟨PcM_blind _ _ _ _ _ _ _ _, hrec, hpre2⟩ rfl (stk_len hdr) hsz hst (lv_room (wt_ok hc9.2.1)) hd ⟨hc, hs⟩) hS kk
              rcases List.mem_cons.mp h with rfl | h
              · exact gw_in w1 rfl
              · rcases List.mem_cons.mp h with rfl | h
                · exact gw_in w3 rfl
                · rcases List.mem_cons.mp h with rfl | h
                  · exact gw_in w2 rfl
                  · rcases List.mem_cons.mp h with rfl | h
                    · rw [← w5]; exact gw_in w4 rfl
                    · cases h
            · cases hcl
          · cases hcl
        · cases hcl
      · cases hcl
    · cases hcl
  case invokestatic k =>
    exfalso
    simp only [cl] at hcl
    split at hcl
    · split at hcl
      · cases hcl
      · cases hcl
    · cases hcl
  case invokespecial k =>
    exfalso
    simp only [cl] at hcl
    split at hcl
    · split at hcl
      · split at hcl
        · cases hcl
        · cases hcl
      · cases hcl
    · cases hcl
  all_goals exact (nomatch (show (none : Option (Nat × List Value × List Value × Bool)) = some _ from hcl))
/-- behind a throw: the world with the thrown thing in it -/
theorem thr_world {t : State} (hK : va_K D mjC (tyL cA) s) (hP : va_P D mjC (wsO b ex cA M) H) (hz : H.size = b + M.2.2.2.2.1 + 1) (hS : va_S (Ab b) s.heap H locs) (h1 : t.heap.size = H.size + 1) (h2 : ∀ q : Nat, q < H.size → t.heap[q]? = H[q]?) (h3 : ∃ ce : Cell, t.heap[H.size]? = some ce ∧ ce.vm = .none ∧ s.vm.findClass IAEn = some ce.cls) : XcM D b ex cA (thM M) IAEn s t := by
  obtain ⟨ce, g1, g2, g3⟩ := h3
  have hc : mjC[14]? = some (mjCN 14, mjTT 14, nF 14) := mjC_at (by decide)
  have hKn := hK.1 14 _ hc
  have hcls : ce.cls = D.1 14 := by
    have h9 : s.vm.findClass IAEn = some (D.1 14) := hKn.2.1
    exact Option.some.inj (g3.symm.trans h9)
  refine ⟨⟨rfl, by rw [h1, hz]; rfl, ?_⟩, ⟨by have := hS.1; omega, fun q q1 q2 => (h2 q (Nat.lt_of_lt_of_le q1 hS.1)).trans (hS.2.1 q q1 q2)⟩⟩
  refine sn_push (M' := thM M) hP hz rfl (fun x hx => ceE_congr (u1_n _ _ (by omega)) rfl rfl rfl) h2 ?_
  rw [ceE_o (M := thM M) (u1_s _ _ _)]
  refine ⟨_, hc, ce, ?_, hcls, g2, fun k hk => absurd hk (by show ¬ k < 0; omega)⟩
  rw [show (b + (M.2.2.2.2.1 + 1), (Sum.inr (14, _) : va_E)).1 = H.size from by rw [hz]; rfl]
  exact g1
set_option maxHeartbeats 8000000 in
set_option maxRecDepth 100000 in
theorem sd_all (hIx : IxH l b ex xs L) (hnt : l.stackTraces = false) : ∀ n, Sd l D b ex cA xs L n := by
  intro n
  induction n with
  | zero => intro d j pc vs st M o M' h; cases h
  | succ n ih =>
    intro d j pc vs st M o M' h p e R s m args below meth c H locs cells slots Q ls sl0 hx hb hml hown hnm hts hlocks htab hK hSt hRf hRl hI hP hz hh hS hl hlen hbs hRc hsl hRs hret hthr
    have hsz : ls.size = mL j := hl.1.trans hlen
    unfold xq at h
    split at h
    · cases h
    · rename_i i ln hdec
      split at h
      · cases h
      · rename_i hok
        have hok : okL i ln = true := by
          cases hq : okL i ln
          · exact absurd hq hok
          · rfl
        split at h
        · -- an instruction
          rename_i r hr
          have hgr := gr_xq _ _ _ _ _ _ _ _ _ h
          unfold xn at hr
          split at hr
          · rename_i r1 hA
            cases hr
            obtain ⟨vs', st'⟩ := r1
            exact snA hx hb hown hts hdec hok hl hA (fun ls' hl' hlen' => ih _ _ _ _ _ _ _ _ h p e R s m args below meth c H locs cells slots Q ls' sl0 hx hb hml hown hnm hts hlocks htab hK hSt hRf hRl hI hP hz hh hS hl' (hlen'.trans hlen) hbs hRc hsl hRs hret hthr)
          · split at hr
            · rename_i r1 hB
              cases hr
              obtain ⟨tgt, st'⟩ := r1
              exact snB hx hb hdec hok hB (ih _ _ _ _ _ _ _ _ h p e R s m args below meth c H locs cells slots Q ls sl0 hx hb hml hown hnm hts hlocks htab hK hSt hRf hRl hI hP hz hh hS hl hlen hbs hRc hsl hRs hret hthr)
            · cases hC : xnC xs L d j pc i st M with
              | none => rw [hC] at hr; cases hr
              | some r1 =>
                rw [hC] at hr
                cases hr
                obtain ⟨pc', st', Mm⟩ := r1
                have hg2 := gr_xnC hC
                have g1 := hgr.2.1
                have g2 := hgr.2.2
                have g3 := hg2.2.1
                have g4 := hg2.2.2
                dsimp only at g1 g2 g3 g4 h
                refine snC hx hb hown hnm hts hK hSt (hIx p e R s m args below meth c d hx hts hSt hRf hRl) (hsz.trans hml.symm) hI hP hz hh hS hRf hRl (by omega) (by omega) hdec hok hC (fun H' locs' q1 q2 q3 => ?_)
                exact ih _ _ _ _ _ _ _ _ h p e R s m args below meth c H' locs' _ _ Q ls sl0 hx hb hml hown hnm hts hlocks htab hK hSt hRf hRl (hg2.1 hI) q1 q2 (by omega) q3 hl hlen hbs hRc (by omega) hRs hret hthr
        · split at h
          · -- a return
            rename_i v hv
            cases h
            have hln : ln = 1 := by
              rcases rt_at hv with ⟨x, ty, rfl, -⟩ | ⟨x, rfl, -⟩ | ⟨rfl, -⟩
              · exact (okL_eq hok rfl).symm
              · exact (okL_eq hok rfl).symm
              · exact (okL_eq hok rfl).symm
            subst hln
            exact hret v rfl H locs cells slots pc ls i st hP hz hS hh hsl hdec hv
          · split at h
            · -- a call
              rename_i r hr
              split at h
              · cases h
              · rename_i d'
                obtain ⟨y, as, rest, fg⟩ := r
                have hln : ln = 3 := by
                  cases i <;> first | exact (okL_eq hok rfl).symm | exact (nomatch (show (none : Option (Nat × List Value × List Value × Bool)) = some _ from hr))
                subst hln
                split at h
                · cases h
                · rename_i v M1 hq
                  have hg1 := gr_xq _ _ _ _ _ _ _ _ _ hq
                  have hg2 := gr_xq _ _ _ _ _ _ _ _ _ h
                  have g1 := hg1.2.1
                  have g2 := hg1.2.2
                  have g3 := hg2.2.1
                  have g4 := hg2.2.2
                  refine sn_callR ih hx hb hml hown hts hK hSt hRf hRl hI hP hz hS hsz hdec hr hq (by omega) (by omega) (fun H1 locs1 q1 q2 q3 => ?_)
                  exact ih _ _ _ _ _ _ _ _ h p e R s m args below meth c H1 locs1 _ _ Q ls sl0 hx hb hml hown hnm hts hlocks htab hK hSt hRf hRl (hg1.1 hI) q1 q2 (by omega) q3 hl hlen hbs hRc (by omega) hRs hret hthr
                · rename_i M1 hq
                  split at h
                  · cases h
                  · rename_i hfg
                    have hfg : fg = true := by
                      cases hfg9 : fg
                      · exact absurd hfg9 hfg
                      · rfl
                    subst hfg
                    have hg1 := gr_xq _ _ _ _ _ _ _ _ _ hq
                    have g1 := hg1.2.1
                    have g2 := hg1.2.2
                    have hhj := hh_at j
                    split at h
                    · -- caught here
                      rename_i h9 hh9
                      have hg2 := gr_xq _ _ _ _ _ _ _ _ _ h
                      have g3 := hg2.2.1
                      have g4 := hg2.2.2
                      refine sn_callX ih hx hb hml hown hts hK hSt hRf hRl hI hP hz hS hsz hdec hr hq (by omega) (by omega) (fun ce q H1 locs1 q1 q2 q3 q4 q5 q6 => ?_)
                      unfold hd at hh9
                      split at hh9
                      · rename_i a1 b1 h1 ct hHH
                        split at hh9
                        · rename_i hab
                          cases hh9
                          unfold hhOK at hhj
                          rw [hHH] at hhj
                          simp only [Bool.and_eq_true, decide_eq_true_eq] at hhj
                          obtain ⟨k1, k2, k3, k4⟩ := hhj
                          have hown2 : s.vm.findClass RX14 = some m.cls := by rw [k1] at hown; exact hown
                          refine mx_catch (own := RX14) (name := IAEn) hown2 (⟨a1, b1, h1, ct⟩ : ExceptionTableEntry) (by rw [htab, hHH]; rfl) (by simp [covers, hab.1, hab.2]) (by show ct ≠ 0; omega) (by show (Cond.classLink RX14 ct IAEn).before args s = true; rw [k2]; exact hts _ iae_d.1 rfl) (va_Nw.use rfl (hSt.2.2.2.2.1 _ iae_d.2.2 rfl)) q4 q5 q6 ?_
                          refine lv_astore_n (i := 1) hx hb k3 rfl hl.has (by omega) rfl (fun ls9 h9 => ?_)
                          refine ih _ _ _ _ _ _ _ _ h p e R s m args below meth c H1 locs1 _ _ Q ls9 sl0 hx hb hml hown hnm hts hlocks htab hK hSt hRf hRl (hg1.1 hI) q1 q2 (by omega) q3 ⟨?_, h9.2.1, fun i9 w9 hi9 hk9 => ?_⟩ (by rw [List.length_set, klL_len]; exact hlen) hbs hRc (by omega) hRs hret hthr
                          · rw [List.length_set, klL_len]; exact h9.1
                          · by_cases hi1 : i9 = 1
                            · subst hi1
                              rw [List.getElem?_set_self (by rw [klL_len]; omega)] at hi9
                              cases hi9
                              cases hk9
                            · rw [List.getElem?_set_ne (Ne.symm hi1)] at hi9
                              obtain ⟨hv1, hv2⟩ := klL_get vs 1 i9 w9 hi9 hk9
                              refine h9.2.2 (i9, up b ex w9) (List.mem_cons_of_mem _ (List.mem_filter.mpr ⟨lvl_mem.mpr ⟨w9, hv1, hk9, rfl⟩, ?_⟩))
                              simp only [Bool.and_eq_true, Bool.not_eq_true', beq_eq_false_iff_ne, ne_eq, Bool.and_eq_false_iff]
                              refine ⟨hi1, ?_⟩
                              by_cases hz9 : i9 + 1 = 1
                              · exact Or.inr (by rw [up_cat]; exact hv2 hz9)
                              · exact Or.inl hz9
                        · cases hh9
                      · cases hh9
                    · -- it goes on
                      rename_i hh9
                      cases h
                      obtain ⟨mc, ms, Qc, rfl, e1, e2⟩ := hthr rfl
                      refine sn_callX ih hx hb hml hown hts hK hSt hRf hRl hI hP hz hS hsz hdec hr hq (by omega) (by omega) (fun ce q H1 locs1 q1 q2 q3 q4 q5 q6 => ?_)
                      refine vx_out (E := IAEn) ?_ hlocks q4 q5 q6 (fun t ht hA => ⟨⟨rfl, by rw [ht]; exact q2, by rw [ht]; exact q1⟩, q3.F ht⟩) q3.2.2 (by omega) (by omega)
                      intro x hx9
                      rw [htab] at hx9
                      cases hHH : mHH j with
                      | nil => rw [hHH] at hx9; cases hx9
                      | cons r9 t9 =>
                        unfold hhOK at hhj
                        rw [hHH] at hhj hx9
                        cases t9 with
                        | cons => cases hhj
                        | nil =>
                          obtain ⟨a1, b1, h1, ct⟩ := r9
                          unfold hd at hh9
                          rw [hHH] at hh9
                          dsimp only at hh9
                          split at hh9
                          · cases hh9
                          · rename_i hab
                            rcases List.mem_cons.mp hx9 with rfl | hx9
                            · simp only [covers, Bool.and_eq_false_iff, decide_eq_false_iff_not]
                              rcases Nat.lt_or_ge pc a1 with q9 | q9
                              · exact Or.inl (by omega)
                              · exact Or.inr (fun q8 => hab ⟨q9, q8⟩)
                            · cases hx9
            · -- a throw
              split at h
              · rename_i hth
                cases h
                obtain ⟨mc, ms, Qc, rfl, e1, e2⟩ := hthr rfl
                unfold th at hth
                rw [Bool.and_eq_true, Bool.and_eq_true] at hth
                obtain ⟨⟨t1, t2⟩, t3⟩ := hth
                have t3 := of_decide_eq_true t3
                have hst : st = [] := List.isEmpty_iff.mp t2
                subst hst
                have tok := List.all_eq_true.mp mjTh_ok (j, pc) (of_decide_eq_true t1)
                unfold thOK at tok
                simp only [Bool.and_eq_true, decide_eq_true_eq] at tok
                obtain ⟨k1, k2, k3, k4, k5, k6⟩ := tok
                have hown2 : s.vm.findClass RX14 = some m.cls := by rw [k1] at hown; exact hown
                have e3 : (thM M).2.2.2.2.1 = M.2.2.2.2.1 + 1 := rfl
                have e4 : (thM M).2.2.2.2.2 = M.2.2.2.2.2 + 6 := rfl
                rw [e3] at e1 hRc
                rw [e4] at e2 hRs
                obtain ⟨-, -, -, ⟨z1, z2⟩, zw, -⟩ := hSt
                refine mx_throw0 (own := RX14) (cls := IAEn) (names := IAEs) (ik := 128) (ic := 130) (A := Ab b) hx hb hnt hown2 iae_f.1 iae_f.2 (hts _ iae_d.1 rfl) (hts _ iae_d.2.1 rfl) ?_ (fun w hw => List.all_eq_true.mp iae_c w hw) z1 z2 hS (hsz.trans hml.symm) k3 k4 k5 k6 ?_ (by show 2 + 3 < R.frames; omega) (by show 0 + (13 * (2 + 1) + 42) ≤ R.locals; omega) (by omega) (by omega) hlocks (fun t q1 q2 q3 q4 => thr_world hK hP hz hS q2 q3 q4) hS.2.2 (by omega) (by omega)
                · intro w hw
                  by_cases hg : goodWord w = true
                  · exact hts w (of_decide_eq_true (List.all_eq_true.mp iae_a w (List.mem_filter.mpr ⟨hw, hg⟩))) hg
                  · have h9 := List.all_eq_true.mp iae_b w (List.mem_filter.mpr ⟨hw, by simp [hg]⟩)
                    rw [Bool.and_eq_true] at h9
                    refine va_Nw.use ?_ (zw w (of_decide_eq_true h9.2) h9.1)
                    have h8 := h9.1
                    cases w <;> first | rfl | exact Bool.noConfusion h8
                · intro x hx9
                  rw [htab, k2] at hx9
                  cases hx9
              · cases h
end SD3
