/-! ===== soundness: arrays, new things, statics ===== -/
section SND
theorem mjFD_ok : (List.range 14).all (fun ci => (List.range (nF ci)).all (fun k => decide (tyT ci k ≠ .float ∧ tyT ci k ≠ .double))) = true := by decide +kernel
theorem mjAC : Cond.arrayClass .int ∈ mjS ∧ Cond.arrayClass .long ∈ mjS ∧ Cond.arrayClass .byte ∈ mjS ∧ Cond.arrayClass .boolean ∈ mjS := by decide +kernel
variable {p : Program} {l : Launch} {e : Env} {R : Room} {s : State} {m : MethodId} {args : Array Value} {below : List Frame} {meth : Method} {c : Code} {H : Heap} {locs : List Loc} {cells slots : Nat} {Q : State → Prop}
variable {b : Nat} {ex : Nat → Nat} {cA : FieldType → ClassId} {D : va_G} {xs : Nat → Int32} {L d j pc ln : Nat} {st st' : List Value} {ls : Array Slot} {M M' : MH}
theorem sn_arr (hI : Inv M) {a n : Nat} {ty : FieldType} (hsh : M.1 a = .inr (ty, n)) : a ≠ 0 ∧ a ≤ M.2.2.2.2.1 := hI.in (fun q => by rw [hsh] at q; cases q)
set_option maxHeartbeats 4000000 in
theorem sn_iald (hx : p.tables.exec = Jvm.exec) (hb : c.code = mB j) (hK : va_K D mjC (tyL cA) s) (hI : Inv M) (hP : va_P D mjC (wsO b ex cA M) H) (hd : decode (mB j) pc = .ok (.iaload, 1)) {a n : Nat} {x : Int32} {t : List Value} (hsh : M.1 a = .inr (.int, n)) (hin : inb x n = true)
    (kk : W p l e R s m args below meth c H locs cells slots Q (F0 m (pc + 1) ls ((Value.int (M.2.1 a x.toNatClampNeg) :: t).map (up b ex)))) : W p l e R s m args below meth c H locs cells slots Q (F0 m pc ls ((Value.int x :: Value.ref a :: t).map (up b ex))) := by
  obtain ⟨ha0, haz⟩ := sn_arr hI hsh
  have hat := wsO_at (b := b) (ex := ex) (cA := cA) ha0 haz
  rw [ceE_i hsh (by decide)] at hat
  rw [List.map_cons, List.map_cons, up_ref ha0]
  exact va_iald hx hb hK hP (a - 1) 0 hat rfl (inb_in hin) hd kk
set_option maxHeartbeats 4000000 in
theorem sn_bald (hx : p.tables.exec = Jvm.exec) (hb : c.code = mB j) (hK : va_K D mjC (tyL cA) s) (hI : Inv M) (hP : va_P D mjC (wsO b ex cA M) H) (hd : decode (mB j) pc = .ok (.baload, 1)) {a n : Nat} {x : Int32} {t : List Value} {ty : FieldType} (hty : ty = .byte ∨ ty = .boolean) (hsh : M.1 a = .inr (ty, n)) (hin : inb x n = true)
    (kk : W p l e R s m args below meth c H locs cells slots Q (F0 m (pc + 1) ls ((Value.int (M.2.1 a x.toNatClampNeg) :: t).map (up b ex)))) : W p l e R s m args below meth c H locs cells slots Q (F0 m pc ls ((Value.int x :: Value.ref a :: t).map (up b ex))) := by
  obtain ⟨ha0, haz⟩ := sn_arr hI hsh
  have hat := wsO_at (b := b) (ex := ex) (cA := cA) ha0 haz
  rw [List.map_cons, List.map_cons, up_ref ha0]
  rcases hty with rfl | rfl
  · rw [ceE_i hsh (by decide)] at hat
    exact va_bald hx hb hK hP (a - 1) 2 hat rfl (inb_in hin) hd kk
  · rw [ceE_i hsh (by decide)] at hat
    exact va_zald hx hb hK hP (a - 1) 3 hat rfl (inb_in hin) hd kk
set_option maxHeartbeats 4000000 in
theorem sn_lald (hx : p.tables.exec = Jvm.exec) (hb : c.code = mB j) (hK : va_K D mjC (tyL cA) s) (hI : Inv M) (hP : va_P D mjC (wsO b ex cA M) H) (hd : decode (mB j) pc = .ok (.laload, 1)) {a n : Nat} {x : Int32} {t : List Value} (hsh : M.1 a = .inr (.long, n)) (hin : inb x n = true)
    (kk : W p l e R s m args below meth c H locs cells slots Q (F0 m (pc + 1) ls ((Value.long (M.2.2.1 a x.toNatClampNeg) :: t).map (up b ex)))) : W p l e R s m args below meth c H locs cells slots Q (F0 m pc ls ((Value.int x :: Value.ref a :: t).map (up b ex))) := by
  obtain ⟨ha0, haz⟩ := sn_arr hI hsh
  have hat := wsO_at (b := b) (ex := ex) (cA := cA) ha0 haz
  rw [ceE_l hsh] at hat
  rw [List.map_cons, List.map_cons, up_ref ha0]
  exact va_lald hx hb hK hP (a - 1) 1 hat rfl (inb_in hin) hd kk
theorem ws_wI {a k n : Nat} {x : Int32} {ty : FieldType} (ha0 : a ≠ 0) (hsh : M.1 a = .inr (ty, n)) (hty : ty ≠ .long) : wsO b ex cA (wI M a k x) = (wsO b ex cA M).set (a - 1) (b + a, .inl (cA ty, n, .inl (upd (M.2.1 a) k x))) := by
  rw [wsO_set (M := M) (M' := wI M a k x) ha0 rfl (fun y hy => ceE_congr rfl (u2_n _ _ _ hy) rfl rfl), ceE_i (M := wI M a k x) hsh hty]
  simp only [wI, u2_s]
  rfl
theorem ws_wJ {a k n : Nat} {x : Int64} (ha0 : a ≠ 0) (hsh : M.1 a = .inr (.long, n)) : wsO b ex cA (wJ M a k x) = (wsO b ex cA M).set (a - 1) (b + a, .inl (cA .long, n, .inr (.inl (vp_updL (M.2.2.1 a) k x)))) := by
  rw [wsO_set (M := M) (M' := wJ M a k x) ha0 rfl (fun y hy => ceE_congr rfl rfl (u2_n _ _ _ hy) rfl), ceE_l (M := wJ M a k x) hsh]
  simp only [wJ, u2_s]
  rfl
set_option maxHeartbeats 4000000 in
theorem sn_iast (hx : p.tables.exec = Jvm.exec) (hb : c.code = mB j) (hK : va_K D mjC (tyL cA) s) (hI : Inv M) (hP : va_P D mjC (wsO b ex cA M) H) (hS : va_S (Ab b) s.heap H locs) (hd : decode (mB j) pc = .ok (.iastore, 1)) {a n : Nat} {x v : Int32} {t : List Value} (hsh : M.1 a = .inr (.int, n)) (hin : inb x n = true)
    (kk : ∀ (H' : Heap) (locs' : List Loc), va_P D mjC (wsO b ex cA (wI M a x.toNatClampNeg v)) H' → va_S (Ab b) s.heap H' locs' → W p l e R s m args below meth c H' locs' cells slots Q (F0 m (pc + 1) ls (t.map (up b ex)))) : W p l e R s m args below meth c H locs cells slots Q (F0 m pc ls ((Value.int v :: Value.int x :: Value.ref a :: t).map (up b ex))) := by
  obtain ⟨ha0, haz⟩ := sn_arr hI hsh
  have hat := wsO_at (b := b) (ex := ex) (cA := cA) ha0 haz
  rw [ceE_i hsh (by decide)] at hat
  rw [List.map_cons, List.map_cons, List.map_cons, up_ref ha0]
  exact va_iast hx hb hK hP wsO_D hS (a - 1) 0 hat rfl (inb_in hin) hd (fun H' locs' q1 _ q3 => kk H' locs' (by rw [ws_wI ha0 hsh (by decide)]; exact q1) q3)
set_option maxHeartbeats 4000000 in
theorem sn_bast (hx : p.tables.exec = Jvm.exec) (hb : c.code = mB j) (hK : va_K D mjC (tyL cA) s) (hI : Inv M) (hP : va_P D mjC (wsO b ex cA M) H) (hS : va_S (Ab b) s.heap H locs) (hd : decode (mB j) pc = .ok (.bastore, 1)) {a n : Nat} {x v : Int32} {t : List Value} {ty : FieldType} (hty : ty = .byte ∨ ty = .boolean) (hsh : M.1 a = .inr (ty, n)) (hin : inb x n = true)
    (kk : ∀ (H' : Heap) (locs' : List Loc), va_P D mjC (wsO b ex cA (wI M a x.toNatClampNeg (vp_nar ty v))) H' → va_S (Ab b) s.heap H' locs' → W p l e R s m args below meth c H' locs' cells slots Q (F0 m (pc + 1) ls (t.map (up b ex)))) : W p l e R s m args below meth c H locs cells slots Q (F0 m pc ls ((Value.int v :: Value.int x :: Value.ref a :: t).map (up b ex))) := by
  obtain ⟨ha0, haz⟩ := sn_arr hI hsh
  have hat := wsO_at (b := b) (ex := ex) (cA := cA) ha0 haz
  rw [List.map_cons, List.map_cons, List.map_cons, up_ref ha0]
  rcases hty with rfl | rfl
  · rw [ceE_i hsh (by decide)] at hat
    exact va_bast hx hb hK hP wsO_D hS (a - 1) 2 hat rfl (inb_in hin) hd (fun H' locs' q1 _ q3 => kk H' locs' (by rw [ws_wI ha0 hsh (by decide)]; exact q1) q3)
  · rw [ceE_i hsh (by decide)] at hat
    exact va_zast hx hb hK hP wsO_D hS (a - 1) 3 hat rfl (inb_in hin) hd (fun H' locs' q1 _ q3 => kk H' locs' (by rw [ws_wI ha0 hsh (by decide)]; exact q1) q3)
set_option maxHeartbeats 4000000 in
theorem sn_last (hx : p.tables.exec = Jvm.exec) (hb : c.code = mB j) (hK : va_K D mjC (tyL cA) s) (hI : Inv M) (hP : va_P D mjC (wsO b ex cA M) H) (hS : va_S (Ab b) s.heap H locs) (hd : decode (mB j) pc = .ok (.lastore, 1)) {a n : Nat} {x : Int32} {v : Int64} {t : List Value} (hsh : M.1 a = .inr (.long, n)) (hin : inb x n = true)
    (kk : ∀ (H' : Heap) (locs' : List Loc), va_P D mjC (wsO b ex cA (wJ M a x.toNatClampNeg v)) H' → va_S (Ab b) s.heap H' locs' → W p l e R s m args below meth c H' locs' cells slots Q (F0 m (pc + 1) ls (t.map (up b ex)))) : W p l e R s m args below meth c H locs cells slots Q (F0 m pc ls ((Value.long v :: Value.int x :: Value.ref a :: t).map (up b ex))) := by
  obtain ⟨ha0, haz⟩ := sn_arr hI hsh
  have hat := wsO_at (b := b) (ex := ex) (cA := cA) ha0 haz
  rw [ceE_l hsh] at hat
  rw [List.map_cons, List.map_cons, List.map_cons, up_ref ha0]
  exact va_last hx hb hK hP wsO_D hS (a - 1) 1 hat rfl (inb_in hin) hd (fun H' locs' q1 _ q3 => kk H' locs' (by rw [ws_wJ ha0 hsh]; exact q1) q3)
set_option maxHeartbeats 4000000 in
theorem sn_alen (hx : p.tables.exec = Jvm.exec) (hb : c.code = mB j) (hK : va_K D mjC (tyL cA) s) (hI : Inv M) (hP : va_P D mjC (wsO b ex cA M) H) (hd : decode (mB j) pc = .ok (.arraylength, 1)) {a n : Nat} {ty : FieldType} {t : List Value} (hsh : M.1 a = .inr (ty, n))
    (kk : W p l e R s m args below meth c H locs cells slots Q (F0 m (pc + 1) ls ((Value.int (Int32.ofNat n) :: t).map (up b ex)))) : W p l e R s m args below meth c H locs cells slots Q (F0 m pc ls ((Value.ref a :: t).map (up b ex))) := by
  obtain ⟨ha0, haz⟩ := sn_arr hI hsh
  have hat := wsO_at (b := b) (ex := ex) (cA := cA) ha0 haz
  rw [List.map_cons, up_ref ha0]
  rcases hI.2 a ty n hsh with rfl | rfl | rfl | rfl
  · rw [ceE_i hsh (by decide)] at hat
    exact va_alen hx hb hK hP (a - 1) 0 hat (ty := .int) rfl rfl hd kk
  · rw [ceE_l hsh] at hat
    exact va_alen hx hb hK hP (a - 1) 1 hat (ty := .long) rfl rfl hd kk
  · rw [ceE_i hsh (by decide)] at hat
    exact va_alen hx hb hK hP (a - 1) 2 hat (ty := .byte) rfl rfl hd kk
  · rw [ceE_i hsh (by decide)] at hat
    exact va_alen hx hb hK hP (a - 1) 3 hat (ty := .boolean) rfl rfl hd kk
/-- a new cell behind all others -/
theorem sn_push {H' : Heap} (hP : va_P D mjC (wsO b ex cA M) H) (hz : H.size = b + M.2.2.2.2.1 + 1) (hz' : M'.2.2.2.2.1 = M.2.2.2.2.1 + 1) (hce : ∀ x, x ≤ M.2.2.2.2.1 → ceE b ex cA M' x = ceE b ex cA M x) (h1 : ∀ q, q < H.size → H'[q]? = H[q]?) (h2 : va_at D mjC (b + (M.2.2.2.2.1 + 1), ceE b ex cA M' (M.2.2.2.2.1 + 1)) H') : va_P D mjC (wsO b ex cA M') H' := by
  rw [wsO_push hz' hce]
  refine (hP.kept (fun k q hq => h1 q.1 ?_)).app (fun k q hq => ?_)
  · have := (hP k q hq).lt
    exact this
  · have hk : k < 1 := (List.getElem?_eq_some_iff.mp hq).1
    rw [show k = 0 by omega] at hq
    cases hq
    exact h2
theorem sn_pushS {H' : Heap} (hS : va_S (Ab b) s.heap H locs) (h0 : H'.size = H.size + 1) (h1 : ∀ q, q < H.size → H'[q]? = H[q]?) : va_S (Ab b) s.heap H' locs := ⟨by have := hS.1; omega, fun q q1 q2 => (h1 q (Nat.lt_of_lt_of_le q1 hS.1)).trans (hS.2.1 q q1 q2), hS.2.2⟩
theorem ce_new {x : Nat} {S : Shp} {f0 : Nat → Int32} {f1 : Nat → Int64} {f2 : Nat → Nat} {z : Nat × Nat} (hx : x ≤ M.2.2.2.2.1) : ceE b ex cA (u1 M.1 (M.2.2.2.2.1 + 1) S, u1 M.2.1 (M.2.2.2.2.1 + 1) f0, u1 M.2.2.1 (M.2.2.2.2.1 + 1) f1, u1 M.2.2.2.1 (M.2.2.2.2.1 + 1) f2, z) x = ceE b ex cA M x :=
  ceE_congr (u1_n _ _ (by omega)) (u1_n _ _ (by omega)) (u1_n _ _ (by omega)) (u1_n _ _ (by omega))
set_option maxHeartbeats 4000000 in
theorem sn_new {k ci : Nat} (hx : p.tables.exec = Jvm.exec) (hb : c.code = mB j) (hown : s.vm.findClass (oN (mO j)) = some m.cls) (hts : ∀ w ∈ mjS, goodWord w = true → w.before args s = true) (hK : va_K D mjC (tyL cA) s) (hP : va_P D mjC (wsO b ex cA M) H) (hS : va_S (Ab b) s.heap H locs) (hz : H.size = b + M.2.2.2.2.1 + 1)
    (hd : decode (mB j) pc = .ok (.new k, 3)) {t : List Value} (hn : nwl (mO j) k = some ci) (hRc : cells + 1 ≤ R.cells) (hRs : slots + nF ci ≤ R.slots)
    (kk : ∀ (H' : Heap), va_P D mjC (wsO b ex cA (newO M ci)) H' → H'.size = H.size + 1 → va_S (Ab b) s.heap H' locs → W p l e R s m args below meth c H' locs (cells + 1) (slots + nF ci) Q (F0 m (pc + 3) ls ((Value.ref (M.2.2.2.2.1 + 1) :: t).map (up b ex)))) : W p l e R s m args below meth c H locs cells slots Q (F0 m pc ls (t.map (up b ex))) := by
  obtain ⟨h1, h2, h3, h4⟩ := nw_at hn
  have hc := mjC_at (Nat.lt_succ_of_lt h1)
  have hKn := hK.1 ci _ hc
  refine W.newcK hx hb hown (hts _ h2 rfl) (hts _ h3 rfl) (hts _ h4 rfl) rfl hd hRc hRs hKn.2.1 hz fun H1 kC hkC e1 z1 o1 => ?_
  rw [← hz] at z1 o1
  have kk := kk H1 (sn_push (M' := newO M ci) hP hz rfl (fun x hx => ce_new hx) o1 ?_) z1 (sn_pushS hS z1 o1)
  · rw [show b + M.2.2.2.2.1 + 1 = b + (M.2.2.2.2.1 + 1) from rfl]
    exact kk
  · rw [ceE_o (M := newO M ci) (u1_s _ _ _)]
    refine ⟨_, hc, (u_born (tyT ci) (htf hts) (mjL_at h1) hKn hkC e1 (mjY_at h1)).to (fun q hq => ?_)⟩
    rw [vpV_map hq]
    unfold fv newO
    simp only [u1_s]
    have hfd := of_decide_eq_true (List.all_eq_true.mp (List.all_eq_true.mp mjFD_ok ci (List.mem_range.mpr h1)) q (List.mem_range.mpr hq))
    cases htq : tyT ci q <;> first | rfl | (rw [htq] at hfd; exact absurd rfl hfd.1) | (rw [htq] at hfd; exact absurd rfl hfd.2)
set_option maxHeartbeats 4000000 in
theorem sn_newa {aty : ArrayType} {ty : FieldType} (hx : p.tables.exec = Jvm.exec) (hb : c.code = mB j) (hts : ∀ w ∈ mjS, goodWord w = true → w.before args s = true) (hK : va_K D mjC (tyL cA) s) (hP : va_P D mjC (wsO b ex cA M) H) (hS : va_S (Ab b) s.heap H locs) (hz : H.size = b + M.2.2.2.2.1 + 1)
    (hd : decode (mB j) pc = .ok (.newarray aty, 2)) {t : List Value} {n : Int32} (hty : arT aty = some ty) (hn : ¬ n < 0) (hN : n.toNatClampNeg ≤ 1000000) (hRc : cells + 1 ≤ R.cells) (hRs : slots + n.toNatClampNeg ≤ R.slots)
    (kk : ∀ (H' : Heap), va_P D mjC (wsO b ex cA (newA M ty n.toNatClampNeg)) H' → H'.size = H.size + 1 → va_S (Ab b) s.heap H' locs → W p l e R s m args below meth c H' locs (cells + 1) (slots + n.toNatClampNeg) Q (F0 m (pc + 2) ls ((Value.ref (M.2.2.2.2.1 + 1) :: t).map (up b ex)))) : W p l e R s m args below meth c H locs cells slots Q (F0 m pc ls ((Value.int n :: t).map (up b ex))) := by
  have hce : ∀ x, x ≤ M.2.2.2.2.1 → ceE b ex cA (newA M ty n.toNatClampNeg) x = ceE b ex cA M x := fun x hx => ceE_congr (u1_n _ _ (by omega)) (u1_n _ _ (by omega)) (u1_n _ _ (by omega)) rfl
  have key : newarray.typeOf aty = ty → Cond.arrayClass ty ∈ mjS → componentBytes ty ≤ 8 → s.vm.findClass ("[" ++ ty.toString) = some (cA ty) → (∀ H1 : Heap, H1[b + M.2.2.2.2.1 + 1]? = some (arrV (cA ty) n.toNatClampNeg (fun _ => defaultValue ty)) → va_at D mjC (b + (M.2.2.2.2.1 + 1), ceE b ex cA (newA M ty n.toNatClampNeg) (M.2.2.2.2.1 + 1)) H1) → W p l e R s m args below meth c H locs cells slots Q (F0 m pc ls ((Value.int n :: t).map (up b ex))) := by
    intro hto hmem hcb hid hcell
    refine va_newaK hx hb (atype := aty) (by rw [hto]; exact hts _ hmem rfl) rfl hd rfl hn rfl (by rw [hto]; exact Nat.le_trans (Nat.mul_le_mul hN hcb) (by decide)) hRc hRs hz fun H1 cB e1 z1 o1 hAr hNm => ?_
    rw [hto] at e1 hAr hNm
    cases Option.some.inj (hid.symm.trans hNm)
    rw [← hz] at z1 o1
    have kk := kk H1 (sn_push (M' := newA M ty n.toNatClampNeg) hP hz rfl hce o1 (hcell H1 e1)) z1 (sn_pushS hS z1 o1)
    rw [show b + M.2.2.2.2.1 + 1 = b + (M.2.2.2.2.1 + 1) from rfl]
    exact kk
  have hci : ∀ (ty : FieldType), ty ≠ .long → defaultValue ty = .int 0 → ∀ H1 : Heap, H1[b + M.2.2.2.2.1 + 1]? = some (arrV (cA ty) n.toNatClampNeg (fun _ => defaultValue ty)) → va_at D mjC (b + (M.2.2.2.2.1 + 1), ceE b ex cA (newA M ty n.toNatClampNeg) (M.2.2.2.2.1 + 1)) H1 := by
    intro ty h1 h2 H1 e1
    rw [ceE_i (M := newA M ty n.toNatClampNeg) (u1_s _ _ _) h1]
    simp only [newA, u1_s]
    rw [h2] at e1
    exact e1
  cases aty <;> cases hty
  · exact key rfl mjAC.2.2.2 (by decide) (hK.2 3 _ rfl).2 (hci .boolean (by decide) rfl)
  · exact key rfl mjAC.2.2.1 (by decide) (hK.2 2 _ rfl).2 (hci .byte (by decide) rfl)
  · exact key rfl mjAC.1 (by decide) (hK.2 0 _ rfl).2 (hci .int (by decide) rfl)
  · refine key rfl mjAC.2.1 (by decide) (hK.2 1 _ rfl).2 (fun H1 e1 => ?_)
    rw [ceE_l (M := newA M .long n.toNatClampNeg) (u1_s _ _ _)]
    simp only [newA, u1_s]
    exact e1
end SND
