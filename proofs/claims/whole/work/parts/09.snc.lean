/-! ===== what stays: statics, the text, the script, links within a nest ===== -/
def isNw (w : Cond) : Bool := match w with
  | .methodLinkNest _ _ _ _ => true
  | .declares _ => true
  | .castable _ _ => true
  | _ => false
theorem nw_warm {w : Cond} (hw : isNw w = true) {s U : State} (hW : s.WarmedH U.vm) (h : va_Nw w s) : va_Nw w U := by
  cases w <;> first | exact va_Nw.warmM hW h | exact va_Nw.warmD hW h | exact va_Nw.warmC hW h | exact Bool.noConfusion hw
def ixB : List Int32 := [61, 38, 124, 94, 33, 40, 41, 59, 44, 46]
def StF (b : Nat) (ex : Nat → Nat) (xs : Nat → Int32) (L : Nat) (U : State) (H : Heap) : Prop :=
  (va_Z RX0 "LANES_WITH" "[J" (.ref (ex 1)) (Ab b) U H ∧ va_T .long (ex 1) 6 (fun j => .long ((jTab 1).getD j 0)) (Ab b) U H) ∧
  (va_Z RX14 "WORDS" "[J" (.ref (ex 2)) (Ab b) U H ∧ va_T .long (ex 2) 9 (fun j => .long ((jTab 2).getD j 0)) (Ab b) U H) ∧
  (vk_R RX14 115 "=&|^!();,." (ex 3) U ∧ vk_S 1 [10] [ixB] (fun _ => ex 3) (fun _ => ex 4) (Ab b) U H ∧ va_Z RJ0 "COMPACT_STRINGS" "Z" (.int 1) (Ab b) U H) ∧
  (vx_Zq Bundle.tN "UNASSIGNED_STACK" Bundle.steD (Ab b) U H ∧ vx_Zq Bundle.tN "SUPPRESSED_SENTINEL" Bundle.listD (Ab b) U H) ∧
  (∀ w ∈ mjS, isNw w = true → va_Nw w U) ∧ va_X (ex 0) L xs U H ∧ ex 0 ≤ b ∧ ex 0 < H.size
theorem StF.moved {b : Nat} {ex : Nat → Nat} {xs : Nat → Int32} {L : Nat} {s U : State} {H : Heap} (hW : s.WarmedH U.vm) (h : StF b ex xs L s H) : StF b ex xs L U H := by
  obtain ⟨⟨a1, a2⟩, ⟨b1, b2⟩, ⟨c1, c2, c3⟩, ⟨d1, d2⟩, e1, f1, f2, f3⟩ := h
  have hA := hW.alike
  exact ⟨⟨va_Z.moved hA a1, va_T.moved hA a2⟩, ⟨va_Z.moved hA b1, va_T.moved hA b2⟩, ⟨vk_R.warm hW c1, vk_S.moved hA c2, va_Z.moved hA c3⟩, ⟨vx_Zq.moved hA d1, vx_Zq.moved hA d2⟩, fun w hw h => nw_warm h hW (e1 w hw h), va_X.moved hA f1, f2, f3⟩
theorem StF.kept {b : Nat} {ex : Nat → Nat} {xs : Nat → Int32} {L : Nat} {U : State} {H H1 : Heap} (h : StF b ex xs L U H) (hz : H.size ≤ H1.size) (hq : ∀ a : Nat, a < H.size → ¬ Ab b a → H1[a]? = H[a]?) : StF b ex xs L U H1 := by
  obtain ⟨⟨a1, a2⟩, ⟨b1, b2⟩, ⟨c1, c2, c3⟩, ⟨d1, d2⟩, e1, f1, f2, f3⟩ := h
  exact ⟨⟨a1.kept hq, a2.kept hq⟩, ⟨b1.kept hq, b2.kept hq⟩, ⟨c1, c2.kept hq, c3.kept hq⟩, ⟨d1.kept hq, d2.kept hq⟩, e1, f1.kept (hq _ f3 (fun z => absurd z (Nat.not_lt.mpr f2))), f2, Nat.lt_of_lt_of_le f3 hz⟩
section SNC
variable {p : Program} {l : Launch} {e : Env} {R : Room} {s : State} {m : MethodId} {args : Array Value} {below : List Frame} {meth : Method} {c : Code} {H : Heap} {locs : List Loc} {cells slots : Nat} {Q : State → Prop}
variable {b : Nat} {ex : Nat → Nat} {cA : FieldType → ClassId} {D : va_G} {xs : Nat → Int32} {L d j pc ln : Nat} {st st' : List Value} {ls : Array Slot} {M M' : MH}
theorem vpV_map {f : Nat → Value} {n k : Nat} (h : k < n) : vp_V ((List.range n).map f) k = f k := by
  unfold vp_V
  rw [List.getD_eq_getElem?_getD, List.getElem?_map, List.getElem?_range h]
  rfl
theorem fv_wI {ci a f k : Nat} {x : Int32} (hk : k ≠ f) : fv (wI M a f x) ci a k = fv M ci a k := by
  unfold fv wI
  simp only [u2_s, u1_n _ _ hk]
theorem fv_wJ {ci a f k : Nat} {x : Int64} (hk : k ≠ f) : fv (wJ M a f x) ci a k = fv M ci a k := by
  unfold fv wJ
  simp only [u2_s, u1_n _ _ hk]
theorem fv_wR {ci a f k : Nat} {x : Nat} (hk : k ≠ f) : fv (wR M a f x) ci a k = fv M ci a k := by
  unfold fv wR
  simp only [u2_s, u1_n _ _ hk]
/-- what a putfield writes -/
theorem pf_at {ci a f : Nat} {v : Value} (h : pf M ci a f v = some M') : (∀ x, x ≠ a → ceE b ex cA M' x = ceE b ex cA M x) ∧ M'.1 = M.1 ∧ M'.2.2.2.2 = M.2.2.2.2 ∧ fv M' ci a f = v ∧ (∀ k, k ≠ f → fv M' ci a k = fv M ci a k) ∧ narrow (tyT ci f) (up b ex v) = up b ex v ∧ fits (tyT ci f) (up b ex v) = true := by
  have hI : ∀ x k y, x ≠ a → ceE b ex cA (wI M a k y) x = ceE b ex cA M x := fun x k y hx => ceE_congr rfl (u2_n _ _ _ hx) rfl rfl
  have hJ : ∀ x k y, x ≠ a → ceE b ex cA (wJ M a k y) x = ceE b ex cA M x := fun x k y hx => ceE_congr rfl rfl (u2_n _ _ _ hx) rfl
  have hR : ∀ x k y, x ≠ a → ceE b ex cA (wR M a k y) x = ceE b ex cA M x := fun x k y hx => ceE_congr rfl rfl rfl (u2_n _ _ _ hx)
  unfold pf at h
  split at h
  · rename_i ht
    split at h
    · rename_i x
      cases h
      refine ⟨fun y hy => hJ y f x hy, rfl, rfl, ?_, fun k hk => fv_wJ hk, by rw [ht]; rfl, by rw [ht]; rfl⟩
      unfold fv
      rw [ht]
      simp only [wJ, u2_s, u1_s]
    · cases h
  · rename_i ht
    split at h
    · rename_i x
      cases h
      refine ⟨fun y hy => hI y f x hy, rfl, rfl, ?_, fun k hk => fv_wI hk, by rw [ht]; rfl, by rw [ht]; rfl⟩
      unfold fv
      rw [ht]
      simp only [wI, u2_s, u1_s]
    · cases h
  · rename_i ht
    split at h
    · rename_i x
      split at h
      · rename_i h01
        cases h
        refine ⟨fun y hy => hI y f x hy, rfl, rfl, ?_, fun k hk => fv_wI hk, ?_, ?_⟩
        · unfold fv
          rw [ht]
          simp only [wI, u2_s, u1_s]
        · rw [ht]; rcases h01 with rfl | rfl <;> rfl
        · rw [ht]; rcases h01 with rfl | rfl <;> rfl
      · cases h
    · cases h
  · rename_i ht
    split at h
    · rename_i q
      cases h
      refine ⟨fun y hy => hR y f q hy, rfl, rfl, ?_, fun k hk => fv_wR hk, ?_, ?_⟩
      · unfold fv
        rw [ht]
        simp only [wR, u2_s, u1_s]
      · rw [ht]; cases q <;> rfl
      · rw [ht]; cases q <;> rfl
    · cases h
  · rename_i ht
    split at h
    · rename_i q
      cases h
      refine ⟨fun y hy => hR y f q hy, rfl, rfl, ?_, fun k hk => fv_wR hk, ?_, ?_⟩
      · unfold fv
        rw [ht]
        simp only [wR, u2_s, u1_s]
      · rw [ht]; cases q <;> rfl
      · rw [ht]; cases q <;> rfl
    · cases h
  · cases h
theorem inb_in {i : Int32} {n : Nat} (h : inb i n = true) : vp_in i n := by
  have h1 : ¬ (i < 0 ∨ n ≤ i.toNatClampNeg) := of_decide_eq_true h
  exact h1
/-- the words, as the rows of the kit take them -/
theorem htf (hts : ∀ w ∈ mjS, goodWord w = true → w.before args s = true) : ∀ w ∈ mjS.filter goodWord, w.before args s = true := fun w hw => hts w (List.mem_filter.mp hw).1 (List.mem_filter.mp hw).2
theorem fl_same {o idx ci k : Nat} (hts : ∀ w ∈ mjS, goodWord w = true → w.before args s = true) (h : fl o idx ci = some k) : ci < 14 ∧ k < nF ci ∧ ∃ ref : String, (Cond.fieldLink (oN o) idx ref (mjTT ci k).2.1 (mjTT ci k).2.2.1).before args s = true ∧ ∀ x, s.fieldFound? (mjTT ci k).1 (mjTT ci k).2.1 (mjTT ci k).2.2.1 = some x → s.fieldFound? ref (mjTT ci k).2.1 (mjTT ci k).2.2.1 = some x := by
  obtain ⟨h1, h2, ref, h3, h4⟩ := fl_at h
  refine ⟨h1, h2, ref, hts _ h3 rfl, fun x hx => ?_⟩
  rcases h4 with rfl | h4
  · exact hx
  · exact u_same (hts _ h4 rfl) x hx
set_option maxHeartbeats 4000000 in
set_option maxRecDepth 100000 in
theorem sn_get {k : Nat} (hx : p.tables.exec = Jvm.exec) (hb : c.code = mB j) (hown : s.vm.findClass (oN (mO j)) = some m.cls) (hts : ∀ w ∈ mjS, goodWord w = true → w.before args s = true) (hK : va_K D mjC (tyL cA) s) (hI : Inv M) (hP : va_P D mjC (wsO b ex cA M) H)
    (hd : decode (mB j) pc = .ok (.getfield k, 3)) {a ci f : Nat} {t : List Value} (hsh : M.1 a = .inl ci) (hf : fl (mO j) k ci = some f)
    (kk : W p l e R s m args below meth c H locs cells slots Q (F0 m (pc + 3) ls ((fv M ci a f :: t).map (up b ex)))) : W p l e R s m args below meth c H locs cells slots Q (F0 m pc ls ((Value.ref a :: t).map (up b ex))) := by
  obtain ⟨h1, h2, ref, h3, h4⟩ := fl_same hts hf
  obtain ⟨ha0, haz⟩ := hI.in (a := a) (fun q => by rw [hsh] at q; cases q; exact absurd h1 (by decide))
  have hat := wsO_at (b := b) (ex := ex) (cA := cA) ha0 haz
  rw [ceE_o hsh] at hat
  rw [List.map_cons, up_ref ha0]
  exact va_get (C := mjCN ci) (T := mjTT ci) (N := nF ci) hx hb (htf hts) (mjL_at h1) hown hK hP (a - 1) hat (mjC_at (Nat.lt_succ_of_lt h1)) f h2 h3 h4 (by rw [List.getElem?_map, List.getElem?_range h2]; rfl) hd kk
set_option maxHeartbeats 4000000 in
set_option maxRecDepth 100000 in
theorem sn_put {k : Nat} (hx : p.tables.exec = Jvm.exec) (hb : c.code = mB j) (hown : s.vm.findClass (oN (mO j)) = some m.cls) (hnm : meth.name = (mY j).name) (hts : ∀ w ∈ mjS, goodWord w = true → w.before args s = true) (hK : va_K D mjC (tyL cA) s) (hI : Inv M) (hP : va_P D mjC (wsO b ex cA M) H) (hS : va_S (Ab b) s.heap H locs)
    (hd : decode (mB j) pc = .ok (.putfield k, 3)) {a ci f : Nat} {v : Value} {t : List Value} (hsh : M.1 a = .inl ci) (hf : fl (mO j) k ci = some f) (hok : pfOK j ci f = true) (hpf : pf M ci a f v = some M')
    (hz : H.size = b + M.2.2.2.2.1 + 1)
    (kk : ∀ (H' : Heap) (locs' : List Loc), va_P D mjC (wsO b ex cA M') H' → va_S (Ab b) s.heap H' locs' → W p l e R s m args below meth c H' locs' cells slots Q (F0 m (pc + 3) ls (t.map (up b ex)))) : W p l e R s m args below meth c H locs cells slots Q (F0 m pc ls ((v :: Value.ref a :: t).map (up b ex))) := by
  obtain ⟨h1, h2, ref, h3, h4⟩ := fl_same hts hf
  obtain ⟨ha0, haz⟩ := hI.in (a := a) (fun q => by rw [hsh] at q; cases q; exact absurd h1 (by decide))
  have hat := wsO_at (b := b) (ex := ex) (cA := cA) ha0 haz
  rw [ceE_o hsh] at hat
  obtain ⟨g1, g2, g3, g4, g5, g6, g7⟩ := pf_at (b := b) (ex := ex) (cA := cA) hpf
  have hset : wsO b ex cA M' = (wsO b ex cA M).set (a - 1) (b + a, .inr (ci, ((List.range (nF ci)).map fun k => up b ex (fv M ci a k)).set f (up b ex v))) := by
    rw [wsO_set ha0 (by rw [g3]) g1, ceE_o (by rw [g2]; exact hsh)]
    congr 4
    apply List.ext_getElem?
    intro q
    by_cases hq : q < nF ci
    · rw [List.getElem?_map, List.getElem?_range hq]
      by_cases hqf : q = f
      · subst hqf
        rw [List.getElem?_set_self (by simp; exact hq), Option.map_some, g4]
      · rw [List.getElem?_set_ne (Ne.symm hqf), List.getElem?_map, List.getElem?_range hq, Option.map_some, Option.map_some, g5 q hqf]
    · rw [List.getElem?_eq_none (by simp; omega), List.getElem?_eq_none (by simp; omega)]
  rw [List.map_cons, List.map_cons, up_ref ha0]
  by_cases hfin : finF ci f = true
  · have hok2 : (mY j).name = "<init>" ∧ decF ci f = oN (mO j) := by
      unfold pfOK at hok
      rw [hfin] at hok
      simp only [Bool.not_true, Bool.false_or, Bool.and_eq_true, decide_eq_true_eq] at hok
      exact hok
    exact va_putF (C := mjCN ci) (T := mjTT ci) (N := nF ci) hx hb (htf hts) (mjL_at h1) (tyT ci) (mjY_at h1) (mjN_at h1) hown hK hP wsO_D hS (a - 1) hat (mjC_at (Nat.lt_succ_of_lt h1)) f h2 h3 h4 hfin (hnm.trans hok2.1) hok2.2 (mjY_at h1 f h2) g6 g7 (by simp; exact h2) hd (fun H' locs' q1 _ q3 => kk H' locs' (by rw [hset]; exact q1) q3)
  · exact va_put (C := mjCN ci) (T := mjTT ci) (N := nF ci) hx hb (htf hts) (mjL_at h1) (tyT ci) (mjY_at h1) (mjN_at h1) hown hK hP wsO_D hS (a - 1) hat (mjC_at (Nat.lt_succ_of_lt h1)) f h2 h3 h4 (Bool.eq_false_iff.mpr hfin) (mjY_at h1 f h2) g6 g7 (by simp; exact h2) hd (fun H' locs' q1 _ q3 => kk H' locs' (by rw [hset]; exact q1) q3)
end SNC
