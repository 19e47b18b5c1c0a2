/-! ===== P4: the constructors (by wip/whole/gen/gen344.py) ===== -/
/-- the shapes of the first k cells -/
def SL (k : Nat) : Nat → Shp := fun x => if 1 ≤ x ∧ x ≤ k then (layS.getD (x - 1) (0, .inl 99)).2 else .inl 99
/-- the references in the order in which the constructors put them -/
def prl : List (Nat × Nat × Nat) := [(2, 0, 3), (1, 0, 2), (4, 1, 5), (4, 2, 6), (4, 3, 7), (4, 0, 2), (8, 3, 9), (8, 0, 4), (8, 7, 10), (1, 1, 8), (11, 3, 12), (11, 0, 4), (1, 2, 11), (14, 0, 15), (14, 1, 16), (13, 5, 14), (13, 6, 17), (13, 7, 18), (13, 8, 19), (13, 9, 20), (13, 10, 21), (13, 11, 22), (13, 12, 23), (13, 13, 24), (1, 3, 13), (25, 1, 26), (25, 2, 27), (25, 3, 28), (25, 4, 29), (30, 0, 31), (25, 5, 30), (25, 6, 32), (25, 7, 33), (25, 8, 34), (1, 4, 25), (35, 1, 36), (35, 2, 37), (35, 3, 38), (35, 4, 39), (40, 0, 41), (35, 5, 40), (35, 6, 42), (35, 7, 43), (35, 8, 44), (1, 5, 35), (45, 1, 46), (45, 5, 47), (45, 6, 48), (45, 7, 49), (45, 8, 50), (45, 9, 51), (45, 10, 52), (53, 0, 54), (45, 11, 53), (1, 6, 45), (55, 1, 56), (55, 5, 57), (55, 6, 58), (55, 7, 59), (55, 8, 60), (55, 9, 61), (55, 10, 62), (63, 0, 64), (55, 11, 63), (1, 7, 55), (65, 0, 66), (65, 2, 67), (65, 3, 68), (65, 4, 69), (65, 5, 70), (71, 0, 72), (71, 1, 73), (71, 2, 74), (71, 3, 75), (71, 4, 76), (65, 9, 71), (77, 0, 78), (77, 1, 79), (77, 2, 80), (77, 3, 81), (77, 4, 82), (65, 10, 77), (83, 0, 84), (83, 1, 85), (83, 2, 86), (83, 3, 87), (65, 11, 83), (88, 0, 89), (88, 1, 90), (88, 2, 91), (88, 3, 92), (65, 12, 88), (93, 0, 94), (93, 1, 95), (93, 2, 96), (93, 3, 97), (93, 4, 98), (93, 5, 99), (65, 14, 93), (100, 0, 101), (100, 1, 102), (100, 2, 103), (100, 3, 104), (100, 4, 105), (65, 15, 100), (106, 0, 107), (106, 1, 108), (106, 2, 109), (106, 3, 110), (106, 4, 111), (65, 16, 106), (65, 23, 112), (65, 24, 113), (65, 25, 114), (65, 26, 115), (65, 27, 116), (65, 28, 117), (65, 30, 118)]
def Rg : List (Nat × Nat × Nat) → Nat → Nat → Nat
  | [], _, _ => 0
  | p :: t, a, f => if a = p.1 ∧ f = p.2.1 then p.2.2 else Rg t a f
def Rli (m : Nat) : Nat → Nat → Nat := Rg (prl.take m).reverse
def HH (k m s : Nat) : MH := (SL k, fun _ _ => 0, fun _ _ => 0, Rli m, (k, s))
theorem SL_up {k : Nat} {v : Shp} (h : layS[k]? = some (k + 1, v)) : u1 (SL k) (k + 1) v = SL (k + 1) := by
  funext x
  rw [u1_if]
  unfold SL
  by_cases e : x = k + 1
  · rw [if_pos e, if_pos (by omega), e, Nat.add_sub_cancel, List.getD_eq_getElem?_getD, h]; rfl
  · rw [if_neg e]
    by_cases e2 : 1 ≤ x ∧ x ≤ k
    · rw [if_pos e2, if_pos (by omega)]
    · rw [if_neg e2, if_neg (by omega)]
theorem Rg_0 {a : Nat} : ∀ (l : List (Nat × Nat × Nat)), (∀ p ∈ l, ¬ p.1 = a) → Rg l a = fun _ => 0
  | [], _ => rfl
  | p :: t, h => by
    funext f
    show (if a = p.1 ∧ f = p.2.1 then p.2.2 else Rg t a f) = 0
    rw [if_neg (fun z => h p (List.mem_cons_self ..) z.1.symm), Rg_0 t (fun q hq => h q (List.mem_cons_of_mem _ hq))]
theorem Rli_new {m k : Nat} (h : (prl.take m).all (fun p => decide (p.1 ≤ k)) = true) : u1 (Rli m) (k + 1) (fun _ => 0) = Rli m := by
  funext x
  rw [u1_if]
  by_cases e : x = k + 1
  · rw [if_pos e, e]
    unfold Rli
    rw [Rg_0]
    intro p hp
    have := List.all_eq_true.1 h p (List.mem_reverse.1 hp)
    have := of_decide_eq_true this
    omega
  · rw [if_neg e]
theorem Rli_put {m a f v : Nat} (h : prl[m]? = some (a, f, v)) : u2 (Rli m) a f v = Rli (m + 1) := by
  funext x y
  rw [u2_if]
  unfold Rli
  rw [List.take_succ, h, List.reverse_append]
  rfl
section CON
variable {xs : Nat → Int32} {L d j pc pc' k m s k' m' s' : Nat} {ls st : List Value} {Q : Option (Option Value) → MH → Prop}
theorem N_new {k0 ci : Nat} (hd : decode (mB j) pc = .ok (.new k0, 3)) (hp : pc + 3 = pc') (hn : nwl (mO j) k0 = some ci) (hk : k + 1 = k') (hl : layS[k]? = some (k', .inl ci)) (ha : (prl.take m).all (fun p => decide (p.1 ≤ k)) = true) (hs : s + nF ci = s') (kk : X xs L d j pc' ls (.ref k' :: st) (HH k' m s') Q) : X xs L d j pc ls st (HH k m s) Q := by
  subst hk hs
  refine X_new hd hp hn ?_
  have e : newO (HH k m s) ci = HH (k + 1) m (s + nF ci) := by
    show (u1 (SL k) (k + 1) (.inl ci), u1 (fun _ _ => 0) (k + 1) (fun _ => 0), u1 (fun _ _ => 0) (k + 1) (fun _ => 0), u1 (Rli m) (k + 1) (fun _ => 0), k + 1, s + nF ci) = (SL (k + 1), _, _, Rli m, (k + 1, s + nF ci))
    rw [SL_up hl, Rli_new ha]
    have z1 : u1 (fun _ _ => (0 : Int32)) (k + 1) (fun (_ : Nat) => (0 : Int32)) = fun (_ : Nat) (_ : Nat) => (0 : Int32) := by funext x; rw [u1_if]; split <;> rfl
    have z2 : u1 (fun _ _ => (0 : Int64)) (k + 1) (fun (_ : Nat) => (0 : Int64)) = fun (_ : Nat) (_ : Nat) => (0 : Int64) := by funext x; rw [u1_if]; split <;> rfl
    rw [z1, z2]
  rw [e]; exact kk
theorem N_arr {aty : ArrayType} {ty : FieldType} {n : Int32} {q : Nat} (hd : decode (mB j) pc = .ok (.newarray aty, 2)) (hp : pc + 2 = pc') (ht : arT aty = some ty) (hn : ¬ n < 0) (hq : n.toNatClampNeg = q) (hq2 : q ≤ 1000000) (hk : k + 1 = k') (hl : layS[k]? = some (k', .inr (ty, q))) (hs : s + q = s') (kk : X xs L d j pc' ls (.ref k' :: st) (HH k' m s') Q) : X xs L d j pc ls (.int n :: st) (HH k m s) Q := by
  subst hk hs
  refine X_newa hd hp ht hn hq hq2 ?_
  have e : newA (HH k m s) ty q = HH (k + 1) m (s + q) := by
    show (u1 (SL k) (k + 1) (.inr (ty, q)), u1 (fun _ _ => 0) (k + 1) (fun _ => 0), u1 (fun _ _ => 0) (k + 1) (fun _ => 0), Rli m, k + 1, s + q) = (SL (k + 1), _, _, Rli m, (k + 1, s + q))
    rw [SL_up hl]
    have z1 : u1 (fun _ _ => (0 : Int32)) (k + 1) (fun (_ : Nat) => (0 : Int32)) = fun (_ : Nat) (_ : Nat) => (0 : Int32) := by funext x; rw [u1_if]; split <;> rfl
    have z2 : u1 (fun _ _ => (0 : Int64)) (k + 1) (fun (_ : Nat) => (0 : Int64)) = fun (_ : Nat) (_ : Nat) => (0 : Int64) := by funext x; rw [u1_if]; split <;> rfl
    rw [z1, z2]
  rw [e]; exact kk
theorem N_put {k0 ci f a q : Nat} (hd : decode (mB j) pc = .ok (.putfield k0, 3)) (hp : pc + 3 = pc') (hs : SL k a = .inl ci) (hf : fl (mO j) k0 ci = some f) (hok : pfOK j ci f = true) (ht : isRF (tyT ci f) = true) (hm : m + 1 = m') (h : prl[m]? = some (a, f, q)) (kk : X xs L d j pc' ls st (HH k m' s) Q) : X xs L d j pc ls (.ref q :: .ref a :: st) (HH k m s) Q := by
  subst hm
  refine X_putR hd hp hs hf hok ht ?_
  rw [Rli_put h]; exact kk
theorem N_putZ {k0 ci f a : Nat} (hd : decode (mB j) pc = .ok (.putfield k0, 3)) (hp : pc + 3 = pc') (hs : SL k a = .inl ci) (hf : fl (mO j) k0 ci = some f) (hok : pfOK j ci f = true) (ht : tyT ci f = .boolean) (kk : X xs L d j pc' ls st (HH k m s) Q) : X xs L d j pc ls (.int 0 :: .ref a :: st) (HH k m s) Q := by
  refine X_putZ hd hp hs hf hok ht (Or.inl rfl) ?_
  have z1 : u2 (fun _ _ => (0 : Int32)) a f 0 = fun (_ : Nat) (_ : Nat) => (0 : Int32) := by funext x y; rw [u2_if]; split <;> rfl
  rw [z1]; exact kk
theorem N_get {k0 ci f a q : Nat} (hd : decode (mB j) pc = .ok (.getfield k0, 3)) (hp : pc + 3 = pc') (hs : SL k a = .inl ci) (hf : fl (mO j) k0 ci = some f) (ht : isRF (tyT ci f) = true) (hr : Rli m a f = q) (kk : X xs L d j pc' ls (.ref q :: st) (HH k m s) Q) : X xs L d j pc ls (.ref a :: st) (HH k m s) Q := X_getR hd hp hs hf ht hr kk
end CON
section LCS
variable {xs : Nat → Int32} {L : Nat} {Q : Option (Option Value) → MH → Prop}
theorem lc_0 (k : X xs L 1999 101 27 [.ref 1, .ref 4] [] (HH 7 6 8020) Q) : X xs L 1999 101 0 [.ref 1, .null] [] (HH 1 0 9) Q := by
  refine X_aload_n (q := 0) (show decode (mB 101) 0 = .ok (.aload_n 0, 1) by decide +kernel) (pc' := 1) rfl rfl rfl ?_
  refine X_oinit (show decode (mB 101) 1 = .ok (.invokespecial 1, 3) by decide +kernel) (pc' := 4) rfl (by decide +kernel) ⟨by decide, by omega, by decide⟩ ?_
  refine X_aload_n (q := 0) (show decode (mB 101) 4 = .ok (.aload_n 0, 1) by decide +kernel) (pc' := 5) rfl rfl rfl ?_
  refine N_new (ci := 7) (k' := 2) (s' := 11) (show decode (mB 101) 5 = .ok (.new 7, 3) by decide +kernel) (pc' := 8) rfl (by decide +kernel) rfl (by decide +kernel) (by decide +kernel) rfl ?_
  refine X_dup (show decode (mB 101) 8 = .ok (.dup, 1) by decide +kernel) (pc' := 9) rfl rfl ?_
  refine X_callP (a := 1) (y := 79) (n := 0) (rest := [.ref 2, .ref 1]) (as := [.ref 2]) (ls0 := [.ref 2]) (show decode (mB 101) 9 = .ok (.invokespecial 9, 3) by decide +kernel) (pc' := 12) rfl (by decide +kernel) (by decide +kernel) (by decide +kernel) rfl rfl rfl rfl rfl rfl ?_
  refine X_aload_n (q := 0) (show decode (mB 79) 0 = .ok (.aload_n 0, 1) by decide +kernel) (pc' := 1) rfl rfl rfl ?_
  refine X_oinit (show decode (mB 79) 1 = .ok (.invokespecial 1, 3) by decide +kernel) (pc' := 4) rfl (by decide +kernel) ⟨by decide, by omega, by decide⟩ ?_
  refine X_aload_n (q := 0) (show decode (mB 79) 4 = .ok (.aload_n 0, 1) by decide +kernel) (pc' := 5) rfl rfl rfl ?_
  refine X_sipush (v := 2000) (show decode (mB 79) 5 = .ok (.sipush 2000, 3) by decide +kernel) (pc' := 8) rfl (by decide +kernel) ?_
  refine N_arr (ty := .byte) (q := 2000) (k' := 3) (s' := 2011) (show decode (mB 79) 8 = .ok (.newarray .byte, 2) by decide +kernel) (pc' := 10) rfl rfl (by decide +kernel) (by decide +kernel) (by decide) rfl (by decide +kernel) rfl ?_
  refine N_put (ci := 7) (f := 0) (m' := 1) (show decode (mB 79) 10 = .ok (.putfield 9, 3) by decide +kernel) (pc' := 13) rfl (by decide +kernel) (by decide +kernel) (by decide +kernel) (by decide +kernel) rfl (by decide +kernel) ?_
  refine X_return (show decode (mB 79) 13 = .ok (.return_, 1) by decide +kernel) rfl ?_
  show X xs L 1999 101 12 [.ref 1, .null] [.ref 2, .ref 1] (HH 3 1 2011) _
  refine N_put (ci := 9) (f := 0) (m' := 2) (show decode (mB 101) 12 = .ok (.putfield 10, 3) by decide +kernel) (pc' := 15) rfl (by decide +kernel) (by decide +kernel) (by decide +kernel) (by decide +kernel) rfl (by decide +kernel) ?_
  refine N_new (ci := 8) (k' := 4) (s' := 2017) (show decode (mB 101) 15 = .ok (.new 16, 3) by decide +kernel) (pc' := 18) rfl (by decide +kernel) rfl (by decide +kernel) (by decide +kernel) rfl ?_
  refine X_dup (show decode (mB 101) 18 = .ok (.dup, 1) by decide +kernel) (pc' := 19) rfl rfl ?_
  refine X_aload_n (q := 0) (show decode (mB 101) 19 = .ok (.aload_n 0, 1) by decide +kernel) (pc' := 20) rfl rfl rfl ?_
  refine N_get (ci := 9) (f := 0) (q := 2) (show decode (mB 101) 20 = .ok (.getfield 10, 3) by decide +kernel) (pc' := 23) rfl (by decide +kernel) (by decide +kernel) (by decide +kernel) (by decide +kernel) ?_
  refine X_callP (a := 3) (y := 82) (n := 1) (rest := [.ref 4]) (as := [.ref 4, .ref 2]) (ls0 := [.ref 4, .ref 2]) (show decode (mB 101) 23 = .ok (.invokespecial 18, 3) by decide +kernel) (pc' := 26) rfl (by decide +kernel) (by decide +kernel) (by decide +kernel) rfl rfl rfl rfl rfl rfl ?_
  refine X_aload_n (q := 0) (show decode (mB 82) 0 = .ok (.aload_n 0, 1) by decide +kernel) (pc' := 1) rfl rfl rfl ?_
  refine X_oinit (show decode (mB 82) 1 = .ok (.invokespecial 1, 3) by decide +kernel) (pc' := 4) rfl (by decide +kernel) ⟨by decide, by omega, by decide⟩ ?_
  refine X_aload_n (q := 0) (show decode (mB 82) 4 = .ok (.aload_n 0, 1) by decide +kernel) (pc' := 5) rfl rfl rfl ?_
  refine X_sipush (v := 2001) (show decode (mB 82) 5 = .ok (.sipush 2001, 3) by decide +kernel) (pc' := 8) rfl (by decide +kernel) ?_
  refine N_arr (ty := .int) (q := 2001) (k' := 5) (s' := 4018) (show decode (mB 82) 8 = .ok (.newarray .int, 2) by decide +kernel) (pc' := 10) rfl rfl (by decide +kernel) (by decide +kernel) (by decide) rfl (by decide +kernel) rfl ?_
  refine N_put (ci := 8) (f := 1) (m' := 3) (show decode (mB 82) 10 = .ok (.putfield 9, 3) by decide +kernel) (pc' := 13) rfl (by decide +kernel) (by decide +kernel) (by decide +kernel) (by decide +kernel) rfl (by decide +kernel) ?_
  refine X_aload_n (q := 0) (show decode (mB 82) 13 = .ok (.aload_n 0, 1) by decide +kernel) (pc' := 14) rfl rfl rfl ?_
  refine X_sipush (v := 2001) (show decode (mB 82) 14 = .ok (.sipush 2001, 3) by decide +kernel) (pc' := 17) rfl (by decide +kernel) ?_
  refine N_arr (ty := .int) (q := 2001) (k' := 6) (s' := 6019) (show decode (mB 82) 17 = .ok (.newarray .int, 2) by decide +kernel) (pc' := 19) rfl rfl (by decide +kernel) (by decide +kernel) (by decide) rfl (by decide +kernel) rfl ?_
  refine N_put (ci := 8) (f := 2) (m' := 4) (show decode (mB 82) 19 = .ok (.putfield 15, 3) by decide +kernel) (pc' := 22) rfl (by decide +kernel) (by decide +kernel) (by decide +kernel) (by decide +kernel) rfl (by decide +kernel) ?_
  refine X_aload_n (q := 0) (show decode (mB 82) 22 = .ok (.aload_n 0, 1) by decide +kernel) (pc' := 23) rfl rfl rfl ?_
  refine X_sipush (v := 2001) (show decode (mB 82) 23 = .ok (.sipush 2001, 3) by decide +kernel) (pc' := 26) rfl (by decide +kernel) ?_
  refine N_arr (ty := .long) (q := 2001) (k' := 7) (s' := 8020) (show decode (mB 82) 26 = .ok (.newarray .long, 2) by decide +kernel) (pc' := 28) rfl rfl (by decide +kernel) (by decide +kernel) (by decide) rfl (by decide +kernel) rfl ?_
  refine N_put (ci := 8) (f := 3) (m' := 5) (show decode (mB 82) 28 = .ok (.putfield 18, 3) by decide +kernel) (pc' := 31) rfl (by decide +kernel) (by decide +kernel) (by decide +kernel) (by decide +kernel) rfl (by decide +kernel) ?_
  refine X_aload_n (q := 0) (show decode (mB 82) 31 = .ok (.aload_n 0, 1) by decide +kernel) (pc' := 32) rfl rfl rfl ?_
  refine X_aload_n (q := 1) (show decode (mB 82) 32 = .ok (.aload_n 1, 1) by decide +kernel) (pc' := 33) rfl rfl rfl ?_
  refine N_put (ci := 8) (f := 0) (m' := 6) (show decode (mB 82) 33 = .ok (.putfield 22, 3) by decide +kernel) (pc' := 36) rfl (by decide +kernel) (by decide +kernel) (by decide +kernel) (by decide +kernel) rfl (by decide +kernel) ?_
  refine X_return (show decode (mB 82) 36 = .ok (.return_, 1) by decide +kernel) rfl ?_
  show X xs L 1999 101 26 [.ref 1, .null] [.ref 4] (HH 7 6 8020) _
  refine X_astore_n (q := 1) (ls' := [.ref 1, .ref 4]) (show decode (mB 101) 26 = .ok (.astore_n 1, 1) by decide +kernel) (pc' := 27) rfl rfl rfl ?_
  exact k
theorem lc_1 (k : X xs L 1999 101 48 [.ref 1, .ref 4] [.ref 11, .ref 1] (HH 12 12 8204) Q) : X xs L 1999 101 27 [.ref 1, .ref 4] [] (HH 7 6 8020) Q := by
  refine X_aload_n (q := 0) (show decode (mB 101) 27 = .ok (.aload_n 0, 1) by decide +kernel) (pc' := 28) rfl rfl rfl ?_
  refine N_new (ci := 2) (k' := 8) (s' := 8028) (show decode (mB 101) 28 = .ok (.new 21, 3) by decide +kernel) (pc' := 31) rfl (by decide +kernel) rfl (by decide +kernel) (by decide +kernel) rfl ?_
  refine X_dup (show decode (mB 101) 31 = .ok (.dup, 1) by decide +kernel) (pc' := 32) rfl rfl ?_
  refine X_aload_n (q := 1) (show decode (mB 101) 32 = .ok (.aload_n 1, 1) by decide +kernel) (pc' := 33) rfl rfl rfl ?_
  refine X_callP (a := 7) (y := 37) (n := 1) (rest := [.ref 8, .ref 1]) (as := [.ref 8, .ref 4]) (ls0 := [.ref 8, .ref 4]) (show decode (mB 101) 33 = .ok (.invokespecial 23, 3) by decide +kernel) (pc' := 36) rfl (by decide +kernel) (by decide +kernel) (by decide +kernel) rfl rfl rfl rfl rfl rfl ?_
  refine X_aload_n (q := 0) (show decode (mB 37) 0 = .ok (.aload_n 0, 1) by decide +kernel) (pc' := 1) rfl rfl rfl ?_
  refine X_aload_n (q := 1) (show decode (mB 37) 1 = .ok (.aload_n 1, 1) by decide +kernel) (pc' := 2) rfl rfl rfl ?_
  refine X_callP (a := 7) (y := 60) (n := 1) (rest := []) (as := [.ref 8, .ref 4]) (ls0 := [.ref 8, .ref 4]) (show decode (mB 37) 2 = .ok (.invokespecial 3, 3) by decide +kernel) (pc' := 5) rfl (by decide +kernel) (by decide +kernel) (by decide +kernel) rfl rfl rfl rfl rfl rfl ?_
  refine X_aload_n (q := 0) (show decode (mB 60) 0 = .ok (.aload_n 0, 1) by decide +kernel) (pc' := 1) rfl rfl rfl ?_
  refine X_oinit (show decode (mB 60) 1 = .ok (.invokespecial 1, 3) by decide +kernel) (pc' := 4) rfl (by decide +kernel) ⟨by decide, by omega, by decide⟩ ?_
  refine X_aload_n (q := 0) (show decode (mB 60) 4 = .ok (.aload_n 0, 1) by decide +kernel) (pc' := 5) rfl rfl rfl ?_
  refine X_bipush (v := 64) (show decode (mB 60) 5 = .ok (.bipush 64, 2) by decide +kernel) (pc' := 7) rfl (by decide +kernel) ?_
  refine N_arr (ty := .int) (q := 64) (k' := 9) (s' := 8092) (show decode (mB 60) 7 = .ok (.newarray .int, 2) by decide +kernel) (pc' := 9) rfl rfl (by decide +kernel) (by decide +kernel) (by decide) rfl (by decide +kernel) rfl ?_
  refine N_put (ci := 2) (f := 3) (m' := 7) (show decode (mB 60) 9 = .ok (.putfield 9, 3) by decide +kernel) (pc' := 12) rfl (by decide +kernel) (by decide +kernel) (by decide +kernel) (by decide +kernel) rfl (by decide +kernel) ?_
  refine X_aload_n (q := 0) (show decode (mB 60) 12 = .ok (.aload_n 0, 1) by decide +kernel) (pc' := 13) rfl rfl rfl ?_
  refine X_aload_n (q := 1) (show decode (mB 60) 13 = .ok (.aload_n 1, 1) by decide +kernel) (pc' := 14) rfl rfl rfl ?_
  refine N_put (ci := 2) (f := 0) (m' := 8) (show decode (mB 60) 14 = .ok (.putfield 13, 3) by decide +kernel) (pc' := 17) rfl (by decide +kernel) (by decide +kernel) (by decide +kernel) (by decide +kernel) rfl (by decide +kernel) ?_
  refine X_return (show decode (mB 60) 17 = .ok (.return_, 1) by decide +kernel) rfl ?_
  show X xs L 1998 37 5 [.ref 8, .ref 4] [] (HH 9 8 8092) _
  refine X_aload_n (q := 0) (show decode (mB 37) 5 = .ok (.aload_n 0, 1) by decide +kernel) (pc' := 6) rfl rfl rfl ?_
  refine X_bipush (v := 40) (show decode (mB 37) 6 = .ok (.bipush 40, 2) by decide +kernel) (pc' := 8) rfl (by decide +kernel) ?_
  refine N_arr (ty := .int) (q := 40) (k' := 10) (s' := 8132) (show decode (mB 37) 8 = .ok (.newarray .int, 2) by decide +kernel) (pc' := 10) rfl rfl (by decide +kernel) (by decide +kernel) (by decide) rfl (by decide +kernel) rfl ?_
  refine N_put (ci := 2) (f := 7) (m' := 9) (show decode (mB 37) 10 = .ok (.putfield 11, 3) by decide +kernel) (pc' := 13) rfl (by decide +kernel) (by decide +kernel) (by decide +kernel) (by decide +kernel) rfl (by decide +kernel) ?_
  refine X_return (show decode (mB 37) 13 = .ok (.return_, 1) by decide +kernel) rfl ?_
  show X xs L 1999 101 36 [.ref 1, .ref 4] [.ref 8, .ref 1] (HH 10 9 8132) _
  refine N_put (ci := 9) (f := 1) (m' := 10) (show decode (mB 101) 36 = .ok (.putfield 26, 3) by decide +kernel) (pc' := 39) rfl (by decide +kernel) (by decide +kernel) (by decide +kernel) (by decide +kernel) rfl (by decide +kernel) ?_
  refine X_aload_n (q := 0) (show decode (mB 101) 39 = .ok (.aload_n 0, 1) by decide +kernel) (pc' := 40) rfl rfl rfl ?_
  refine N_new (ci := 4) (k' := 11) (s' := 8140) (show decode (mB 101) 40 = .ok (.new 30, 3) by decide +kernel) (pc' := 43) rfl (by decide +kernel) rfl (by decide +kernel) (by decide +kernel) rfl ?_
  refine X_dup (show decode (mB 101) 43 = .ok (.dup, 1) by decide +kernel) (pc' := 44) rfl rfl ?_
  refine X_aload_n (q := 1) (show decode (mB 101) 44 = .ok (.aload_n 1, 1) by decide +kernel) (pc' := 45) rfl rfl rfl ?_
  refine X_callP (a := 10) (y := 49) (n := 1) (rest := [.ref 11, .ref 1]) (as := [.ref 11, .ref 4]) (ls0 := [.ref 11, .ref 4]) (show decode (mB 101) 45 = .ok (.invokespecial 32, 3) by decide +kernel) (pc' := 48) rfl (by decide +kernel) (by decide +kernel) (by decide +kernel) rfl rfl rfl rfl rfl rfl ?_
  refine X_aload_n (q := 0) (show decode (mB 49) 0 = .ok (.aload_n 0, 1) by decide +kernel) (pc' := 1) rfl rfl rfl ?_
  refine X_aload_n (q := 1) (show decode (mB 49) 1 = .ok (.aload_n 1, 1) by decide +kernel) (pc' := 2) rfl rfl rfl ?_
  refine X_callP (a := 10) (y := 60) (n := 1) (rest := []) (as := [.ref 11, .ref 4]) (ls0 := [.ref 11, .ref 4]) (show decode (mB 49) 2 = .ok (.invokespecial 3, 3) by decide +kernel) (pc' := 5) rfl (by decide +kernel) (by decide +kernel) (by decide +kernel) rfl rfl rfl rfl rfl rfl ?_
  refine X_aload_n (q := 0) (show decode (mB 60) 0 = .ok (.aload_n 0, 1) by decide +kernel) (pc' := 1) rfl rfl rfl ?_
  refine X_oinit (show decode (mB 60) 1 = .ok (.invokespecial 1, 3) by decide +kernel) (pc' := 4) rfl (by decide +kernel) ⟨by decide, by omega, by decide⟩ ?_
  refine X_aload_n (q := 0) (show decode (mB 60) 4 = .ok (.aload_n 0, 1) by decide +kernel) (pc' := 5) rfl rfl rfl ?_
  refine X_bipush (v := 64) (show decode (mB 60) 5 = .ok (.bipush 64, 2) by decide +kernel) (pc' := 7) rfl (by decide +kernel) ?_
  refine N_arr (ty := .int) (q := 64) (k' := 12) (s' := 8204) (show decode (mB 60) 7 = .ok (.newarray .int, 2) by decide +kernel) (pc' := 9) rfl rfl (by decide +kernel) (by decide +kernel) (by decide) rfl (by decide +kernel) rfl ?_
  refine N_put (ci := 4) (f := 3) (m' := 11) (show decode (mB 60) 9 = .ok (.putfield 9, 3) by decide +kernel) (pc' := 12) rfl (by decide +kernel) (by decide +kernel) (by decide +kernel) (by decide +kernel) rfl (by decide +kernel) ?_
  refine X_aload_n (q := 0) (show decode (mB 60) 12 = .ok (.aload_n 0, 1) by decide +kernel) (pc' := 13) rfl rfl rfl ?_
  refine X_aload_n (q := 1) (show decode (mB 60) 13 = .ok (.aload_n 1, 1) by decide +kernel) (pc' := 14) rfl rfl rfl ?_
  refine N_put (ci := 4) (f := 0) (m' := 12) (show decode (mB 60) 14 = .ok (.putfield 13, 3) by decide +kernel) (pc' := 17) rfl (by decide +kernel) (by decide +kernel) (by decide +kernel) (by decide +kernel) rfl (by decide +kernel) ?_
  refine X_return (show decode (mB 60) 17 = .ok (.return_, 1) by decide +kernel) rfl ?_
  show X xs L 1998 49 5 [.ref 11, .ref 4] [] (HH 12 12 8204) _
  refine X_return (show decode (mB 49) 5 = .ok (.return_, 1) by decide +kernel) rfl ?_
  show X xs L 1999 101 48 [.ref 1, .ref 4] [.ref 11, .ref 1] (HH 12 12 8204) _
  exact k
theorem lc_2 (k : X xs L 1999 101 59 [.ref 1, .ref 4] [.ref 13, .ref 1] (HH 24 24 16831) Q) : X xs L 1999 101 48 [.ref 1, .ref 4] [.ref 11, .ref 1] (HH 12 12 8204) Q := by
  refine N_put (ci := 9) (f := 2) (m' := 13) (show decode (mB 101) 48 = .ok (.putfield 33, 3) by decide +kernel) (pc' := 51) rfl (by decide +kernel) (by decide +kernel) (by decide +kernel) (by decide +kernel) rfl (by decide +kernel) ?_
  refine X_aload_n (q := 0) (show decode (mB 101) 51 = .ok (.aload_n 0, 1) by decide +kernel) (pc' := 52) rfl rfl rfl ?_
  refine N_new (ci := 0) (k' := 13) (s' := 8218) (show decode (mB 101) 52 = .ok (.new 37, 3) by decide +kernel) (pc' := 55) rfl (by decide +kernel) rfl (by decide +kernel) (by decide +kernel) rfl ?_
  refine X_dup (show decode (mB 101) 55 = .ok (.dup, 1) by decide +kernel) (pc' := 56) rfl rfl ?_
  refine X_callP (a := 12) (y := 0) (n := 0) (rest := [.ref 13, .ref 1]) (as := [.ref 13]) (ls0 := [.ref 13]) (show decode (mB 101) 56 = .ok (.invokespecial 39, 3) by decide +kernel) (pc' := 59) rfl (by decide +kernel) (by decide +kernel) (by decide +kernel) rfl rfl rfl rfl rfl rfl ?_
  refine X_aload_n (q := 0) (show decode (mB 0) 0 = .ok (.aload_n 0, 1) by decide +kernel) (pc' := 1) rfl rfl rfl ?_
  refine X_oinit (show decode (mB 0) 1 = .ok (.invokespecial 3, 3) by decide +kernel) (pc' := 4) rfl (by decide +kernel) ⟨by decide, by omega, by decide⟩ ?_
  refine X_aload_n (q := 0) (show decode (mB 0) 4 = .ok (.aload_n 0, 1) by decide +kernel) (pc' := 5) rfl rfl rfl ?_
  refine N_new (ci := 6) (k' := 14) (s' := 8221) (show decode (mB 0) 5 = .ok (.new 9, 3) by decide +kernel) (pc' := 8) rfl (by decide +kernel) rfl (by decide +kernel) (by decide +kernel) rfl ?_
  refine X_dup (show decode (mB 0) 8 = .ok (.dup, 1) by decide +kernel) (pc' := 9) rfl rfl ?_
  refine X_callP (a := 13) (y := 71) (n := 0) (rest := [.ref 14, .ref 13]) (as := [.ref 14]) (ls0 := [.ref 14]) (show decode (mB 0) 9 = .ok (.invokespecial 11, 3) by decide +kernel) (pc' := 12) rfl (by decide +kernel) (by decide +kernel) (by decide +kernel) rfl rfl rfl rfl rfl rfl ?_
  refine X_aload_n (q := 0) (show decode (mB 71) 0 = .ok (.aload_n 0, 1) by decide +kernel) (pc' := 1) rfl rfl rfl ?_
  refine X_oinit (show decode (mB 71) 1 = .ok (.invokespecial 1, 3) by decide +kernel) (pc' := 4) rfl (by decide +kernel) ⟨by decide, by omega, by decide⟩ ?_
  refine X_aload_n (q := 0) (show decode (mB 71) 4 = .ok (.aload_n 0, 1) by decide +kernel) (pc' := 5) rfl rfl rfl ?_
  refine X_bipush (v := 64) (show decode (mB 71) 5 = .ok (.bipush 64, 2) by decide +kernel) (pc' := 7) rfl (by decide +kernel) ?_
  refine N_arr (ty := .long) (q := 64) (k' := 15) (s' := 8285) (show decode (mB 71) 7 = .ok (.newarray .long, 2) by decide +kernel) (pc' := 9) rfl rfl (by decide +kernel) (by decide +kernel) (by decide) rfl (by decide +kernel) rfl ?_
  refine N_put (ci := 6) (f := 0) (m' := 14) (show decode (mB 71) 9 = .ok (.putfield 9, 3) by decide +kernel) (pc' := 12) rfl (by decide +kernel) (by decide +kernel) (by decide +kernel) (by decide +kernel) rfl (by decide +kernel) ?_
  refine X_aload_n (q := 0) (show decode (mB 71) 12 = .ok (.aload_n 0, 1) by decide +kernel) (pc' := 13) rfl rfl rfl ?_
  refine X_bipush (v := 64) (show decode (mB 71) 13 = .ok (.bipush 64, 2) by decide +kernel) (pc' := 15) rfl (by decide +kernel) ?_
  refine N_arr (ty := .long) (q := 64) (k' := 16) (s' := 8349) (show decode (mB 71) 15 = .ok (.newarray .long, 2) by decide +kernel) (pc' := 17) rfl rfl (by decide +kernel) (by decide +kernel) (by decide) rfl (by decide +kernel) rfl ?_
  refine N_put (ci := 6) (f := 1) (m' := 15) (show decode (mB 71) 17 = .ok (.putfield 13, 3) by decide +kernel) (pc' := 20) rfl (by decide +kernel) (by decide +kernel) (by decide +kernel) (by decide +kernel) rfl (by decide +kernel) ?_
  refine X_return (show decode (mB 71) 20 = .ok (.return_, 1) by decide +kernel) rfl ?_
  show X xs L 1998 0 12 [.ref 13] [.ref 14, .ref 13] (HH 16 15 8349) _
  refine N_put (ci := 0) (f := 5) (m' := 16) (show decode (mB 0) 12 = .ok (.putfield 12, 3) by decide +kernel) (pc' := 15) rfl (by decide +kernel) (by decide +kernel) (by decide +kernel) (by decide +kernel) rfl (by decide +kernel) ?_
  refine X_aload_n (q := 0) (show decode (mB 0) 15 = .ok (.aload_n 0, 1) by decide +kernel) (pc' := 16) rfl rfl rfl ?_
  refine X_bipush (v := 9) (show decode (mB 0) 16 = .ok (.bipush 9, 2) by decide +kernel) (pc' := 18) rfl (by decide +kernel) ?_
  refine N_arr (ty := .long) (q := 9) (k' := 17) (s' := 8358) (show decode (mB 0) 18 = .ok (.newarray .long, 2) by decide +kernel) (pc' := 20) rfl rfl (by decide +kernel) (by decide +kernel) (by decide) rfl (by decide +kernel) rfl ?_
  refine N_put (ci := 0) (f := 6) (m' := 17) (show decode (mB 0) 20 = .ok (.putfield 20, 3) by decide +kernel) (pc' := 23) rfl (by decide +kernel) (by decide +kernel) (by decide +kernel) (by decide +kernel) rfl (by decide +kernel) ?_
  refine X_aload_n (q := 0) (show decode (mB 0) 23 = .ok (.aload_n 0, 1) by decide +kernel) (pc' := 24) rfl rfl rfl ?_
  refine X_bipush (v := 9) (show decode (mB 0) 24 = .ok (.bipush 9, 2) by decide +kernel) (pc' := 26) rfl (by decide +kernel) ?_
  refine N_arr (ty := .long) (q := 9) (k' := 18) (s' := 8367) (show decode (mB 0) 26 = .ok (.newarray .long, 2) by decide +kernel) (pc' := 28) rfl rfl (by decide +kernel) (by decide +kernel) (by decide) rfl (by decide +kernel) rfl ?_
  refine N_put (ci := 0) (f := 7) (m' := 18) (show decode (mB 0) 28 = .ok (.putfield 24, 3) by decide +kernel) (pc' := 31) rfl (by decide +kernel) (by decide +kernel) (by decide +kernel) (by decide +kernel) rfl (by decide +kernel) ?_
  refine X_aload_n (q := 0) (show decode (mB 0) 31 = .ok (.aload_n 0, 1) by decide +kernel) (pc' := 32) rfl rfl rfl ?_
  refine X_sipush (v := 384) (show decode (mB 0) 32 = .ok (.sipush 384, 3) by decide +kernel) (pc' := 35) rfl (by decide +kernel) ?_
  refine N_arr (ty := .long) (q := 384) (k' := 19) (s' := 8751) (show decode (mB 0) 35 = .ok (.newarray .long, 2) by decide +kernel) (pc' := 37) rfl rfl (by decide +kernel) (by decide +kernel) (by decide) rfl (by decide +kernel) rfl ?_
  refine N_put (ci := 0) (f := 8) (m' := 19) (show decode (mB 0) 37 = .ok (.putfield 27, 3) by decide +kernel) (pc' := 40) rfl (by decide +kernel) (by decide +kernel) (by decide +kernel) (by decide +kernel) rfl (by decide +kernel) ?_
  refine X_aload_n (q := 0) (show decode (mB 0) 40 = .ok (.aload_n 0, 1) by decide +kernel) (pc' := 41) rfl rfl rfl ?_
  refine X_sipush (v := 384) (show decode (mB 0) 41 = .ok (.sipush 384, 3) by decide +kernel) (pc' := 44) rfl (by decide +kernel) ?_
  refine N_arr (ty := .long) (q := 384) (k' := 20) (s' := 9135) (show decode (mB 0) 44 = .ok (.newarray .long, 2) by decide +kernel) (pc' := 46) rfl rfl (by decide +kernel) (by decide +kernel) (by decide) rfl (by decide +kernel) rfl ?_
  refine N_put (ci := 0) (f := 9) (m' := 20) (show decode (mB 0) 46 = .ok (.putfield 30, 3) by decide +kernel) (pc' := 49) rfl (by decide +kernel) (by decide +kernel) (by decide +kernel) (by decide +kernel) rfl (by decide +kernel) ?_
  refine X_aload_n (q := 0) (show decode (mB 0) 49 = .ok (.aload_n 0, 1) by decide +kernel) (pc' := 50) rfl rfl rfl ?_
  refine X_sipush (v := 3840) (show decode (mB 0) 50 = .ok (.sipush 3840, 3) by decide +kernel) (pc' := 53) rfl (by decide +kernel) ?_
  refine N_arr (ty := .long) (q := 3840) (k' := 21) (s' := 12975) (show decode (mB 0) 53 = .ok (.newarray .long, 2) by decide +kernel) (pc' := 55) rfl rfl (by decide +kernel) (by decide +kernel) (by decide) rfl (by decide +kernel) rfl ?_
  refine N_put (ci := 0) (f := 10) (m' := 21) (show decode (mB 0) 55 = .ok (.putfield 35, 3) by decide +kernel) (pc' := 58) rfl (by decide +kernel) (by decide +kernel) (by decide +kernel) (by decide +kernel) rfl (by decide +kernel) ?_
  refine X_aload_n (q := 0) (show decode (mB 0) 58 = .ok (.aload_n 0, 1) by decide +kernel) (pc' := 59) rfl rfl rfl ?_
  refine X_sipush (v := 3840) (show decode (mB 0) 59 = .ok (.sipush 3840, 3) by decide +kernel) (pc' := 62) rfl (by decide +kernel) ?_
  refine N_arr (ty := .long) (q := 3840) (k' := 22) (s' := 16815) (show decode (mB 0) 62 = .ok (.newarray .long, 2) by decide +kernel) (pc' := 64) rfl rfl (by decide +kernel) (by decide +kernel) (by decide) rfl (by decide +kernel) rfl ?_
  refine N_put (ci := 0) (f := 11) (m' := 22) (show decode (mB 0) 64 = .ok (.putfield 38, 3) by decide +kernel) (pc' := 67) rfl (by decide +kernel) (by decide +kernel) (by decide +kernel) (by decide +kernel) rfl (by decide +kernel) ?_
  refine X_aload_n (q := 0) (show decode (mB 0) 67 = .ok (.aload_n 0, 1) by decide +kernel) (pc' := 68) rfl rfl rfl ?_
  refine X_bipush (v := 8) (show decode (mB 0) 68 = .ok (.bipush 8, 2) by decide +kernel) (pc' := 70) rfl (by decide +kernel) ?_
  refine N_arr (ty := .long) (q := 8) (k' := 23) (s' := 16823) (show decode (mB 0) 70 = .ok (.newarray .long, 2) by decide +kernel) (pc' := 72) rfl rfl (by decide +kernel) (by decide +kernel) (by decide) rfl (by decide +kernel) rfl ?_
  refine N_put (ci := 0) (f := 12) (m' := 23) (show decode (mB 0) 72 = .ok (.putfield 41, 3) by decide +kernel) (pc' := 75) rfl (by decide +kernel) (by decide +kernel) (by decide +kernel) (by decide +kernel) rfl (by decide +kernel) ?_
  refine X_aload_n (q := 0) (show decode (mB 0) 75 = .ok (.aload_n 0, 1) by decide +kernel) (pc' := 76) rfl rfl rfl ?_
  refine X_bipush (v := 8) (show decode (mB 0) 76 = .ok (.bipush 8, 2) by decide +kernel) (pc' := 78) rfl (by decide +kernel) ?_
  refine N_arr (ty := .long) (q := 8) (k' := 24) (s' := 16831) (show decode (mB 0) 78 = .ok (.newarray .long, 2) by decide +kernel) (pc' := 80) rfl rfl (by decide +kernel) (by decide +kernel) (by decide) rfl (by decide +kernel) rfl ?_
  refine N_put (ci := 0) (f := 13) (m' := 24) (show decode (mB 0) 80 = .ok (.putfield 44, 3) by decide +kernel) (pc' := 83) rfl (by decide +kernel) (by decide +kernel) (by decide +kernel) (by decide +kernel) rfl (by decide +kernel) ?_
  refine X_return (show decode (mB 0) 83 = .ok (.return_, 1) by decide +kernel) rfl ?_
  show X xs L 1999 101 59 [.ref 1, .ref 4] [.ref 13, .ref 1] (HH 24 24 16831) _
  exact k
theorem lc_3 (k : X xs L 1999 101 70 [.ref 1, .ref 4] [.ref 25, .ref 1] (HH 34 34 19122) Q) : X xs L 1999 101 59 [.ref 1, .ref 4] [.ref 13, .ref 1] (HH 24 24 16831) Q := by
  refine N_put (ci := 9) (f := 3) (m' := 25) (show decode (mB 101) 59 = .ok (.putfield 40, 3) by decide +kernel) (pc' := 62) rfl (by decide +kernel) (by decide +kernel) (by decide +kernel) (by decide +kernel) rfl (by decide +kernel) ?_
  refine X_aload_n (q := 0) (show decode (mB 101) 62 = .ok (.aload_n 0, 1) by decide +kernel) (pc' := 63) rfl rfl rfl ?_
  refine N_new (ci := 1) (k' := 25) (s' := 16840) (show decode (mB 101) 63 = .ok (.new 44, 3) by decide +kernel) (pc' := 66) rfl (by decide +kernel) rfl (by decide +kernel) (by decide +kernel) rfl ?_
  refine X_dup (show decode (mB 101) 66 = .ok (.dup, 1) by decide +kernel) (pc' := 67) rfl rfl ?_
  refine X_callP (a := 24) (y := 26) (n := 0) (rest := [.ref 25, .ref 1]) (as := [.ref 25]) (ls0 := [.ref 25]) (show decode (mB 101) 67 = .ok (.invokespecial 46, 3) by decide +kernel) (pc' := 70) rfl (by decide +kernel) (by decide +kernel) (by decide +kernel) rfl rfl rfl rfl rfl rfl ?_
  refine X_aload_n (q := 0) (show decode (mB 26) 0 = .ok (.aload_n 0, 1) by decide +kernel) (pc' := 1) rfl rfl rfl ?_
  refine X_oinit (show decode (mB 26) 1 = .ok (.invokespecial 3, 3) by decide +kernel) (pc' := 4) rfl (by decide +kernel) ⟨by decide, by omega, by decide⟩ ?_
  refine X_aload_n (q := 0) (show decode (mB 26) 4 = .ok (.aload_n 0, 1) by decide +kernel) (pc' := 5) rfl rfl rfl ?_
  refine X_bipush (v := 40) (show decode (mB 26) 5 = .ok (.bipush 40, 2) by decide +kernel) (pc' := 7) rfl (by decide +kernel) ?_
  refine N_arr (ty := .long) (q := 40) (k' := 26) (s' := 16880) (show decode (mB 26) 7 = .ok (.newarray .long, 2) by decide +kernel) (pc' := 9) rfl rfl (by decide +kernel) (by decide +kernel) (by decide) rfl (by decide +kernel) rfl ?_
  refine N_put (ci := 1) (f := 1) (m' := 26) (show decode (mB 26) 9 = .ok (.putfield 11, 3) by decide +kernel) (pc' := 12) rfl (by decide +kernel) (by decide +kernel) (by decide +kernel) (by decide +kernel) rfl (by decide +kernel) ?_
  refine X_aload_n (q := 0) (show decode (mB 26) 12 = .ok (.aload_n 0, 1) by decide +kernel) (pc' := 13) rfl rfl rfl ?_
  refine X_bipush (v := 40) (show decode (mB 26) 13 = .ok (.bipush 40, 2) by decide +kernel) (pc' := 15) rfl (by decide +kernel) ?_
  refine N_arr (ty := .int) (q := 40) (k' := 27) (s' := 16920) (show decode (mB 26) 15 = .ok (.newarray .int, 2) by decide +kernel) (pc' := 17) rfl rfl (by decide +kernel) (by decide +kernel) (by decide) rfl (by decide +kernel) rfl ?_
  refine N_put (ci := 1) (f := 2) (m' := 27) (show decode (mB 26) 17 = .ok (.putfield 15, 3) by decide +kernel) (pc' := 20) rfl (by decide +kernel) (by decide +kernel) (by decide +kernel) (by decide +kernel) rfl (by decide +kernel) ?_
  refine X_aload_n (q := 0) (show decode (mB 26) 20 = .ok (.aload_n 0, 1) by decide +kernel) (pc' := 21) rfl rfl rfl ?_
  refine X_bipush (v := 40) (show decode (mB 26) 21 = .ok (.bipush 40, 2) by decide +kernel) (pc' := 23) rfl (by decide +kernel) ?_
  refine N_arr (ty := .int) (q := 40) (k' := 28) (s' := 16960) (show decode (mB 26) 23 = .ok (.newarray .int, 2) by decide +kernel) (pc' := 25) rfl rfl (by decide +kernel) (by decide +kernel) (by decide) rfl (by decide +kernel) rfl ?_
  refine N_put (ci := 1) (f := 3) (m' := 28) (show decode (mB 26) 25 = .ok (.putfield 19, 3) by decide +kernel) (pc' := 28) rfl (by decide +kernel) (by decide +kernel) (by decide +kernel) (by decide +kernel) rfl (by decide +kernel) ?_
  refine X_aload_n (q := 0) (show decode (mB 26) 28 = .ok (.aload_n 0, 1) by decide +kernel) (pc' := 29) rfl rfl rfl ?_
  refine X_bipush (v := 40) (show decode (mB 26) 29 = .ok (.bipush 40, 2) by decide +kernel) (pc' := 31) rfl (by decide +kernel) ?_
  refine N_arr (ty := .int) (q := 40) (k' := 29) (s' := 17000) (show decode (mB 26) 31 = .ok (.newarray .int, 2) by decide +kernel) (pc' := 33) rfl rfl (by decide +kernel) (by decide +kernel) (by decide) rfl (by decide +kernel) rfl ?_
  refine N_put (ci := 1) (f := 4) (m' := 29) (show decode (mB 26) 33 = .ok (.putfield 22, 3) by decide +kernel) (pc' := 36) rfl (by decide +kernel) (by decide +kernel) (by decide +kernel) (by decide +kernel) rfl (by decide +kernel) ?_
  refine X_aload_n (q := 0) (show decode (mB 26) 36 = .ok (.aload_n 0, 1) by decide +kernel) (pc' := 37) rfl rfl rfl ?_
  refine N_new (ci := 5) (k' := 30) (s' := 17002) (show decode (mB 26) 37 = .ok (.new 25, 3) by decide +kernel) (pc' := 40) rfl (by decide +kernel) rfl (by decide +kernel) (by decide +kernel) rfl ?_
  refine X_dup (show decode (mB 26) 40 = .ok (.dup, 1) by decide +kernel) (pc' := 41) rfl rfl ?_
  refine X_callP (a := 29) (y := 56) (n := 0) (rest := [.ref 30, .ref 25]) (as := [.ref 30]) (ls0 := [.ref 30]) (show decode (mB 26) 41 = .ok (.invokespecial 27, 3) by decide +kernel) (pc' := 44) rfl (by decide +kernel) (by decide +kernel) (by decide +kernel) rfl rfl rfl rfl rfl rfl ?_
  refine X_aload_n (q := 0) (show decode (mB 56) 0 = .ok (.aload_n 0, 1) by decide +kernel) (pc' := 1) rfl rfl rfl ?_
  refine X_oinit (show decode (mB 56) 1 = .ok (.invokespecial 1, 3) by decide +kernel) (pc' := 4) rfl (by decide +kernel) ⟨by decide, by omega, by decide⟩ ?_
  refine X_aload_n (q := 0) (show decode (mB 56) 4 = .ok (.aload_n 0, 1) by decide +kernel) (pc' := 5) rfl rfl rfl ?_
  refine X_sipush (v := 2000) (show decode (mB 56) 5 = .ok (.sipush 2000, 3) by decide +kernel) (pc' := 8) rfl (by decide +kernel) ?_
  refine N_arr (ty := .int) (q := 2000) (k' := 31) (s' := 19002) (show decode (mB 56) 8 = .ok (.newarray .int, 2) by decide +kernel) (pc' := 10) rfl rfl (by decide +kernel) (by decide +kernel) (by decide) rfl (by decide +kernel) rfl ?_
  refine N_put (ci := 5) (f := 0) (m' := 30) (show decode (mB 56) 10 = .ok (.putfield 9, 3) by decide +kernel) (pc' := 13) rfl (by decide +kernel) (by decide +kernel) (by decide +kernel) (by decide +kernel) rfl (by decide +kernel) ?_
  refine X_return (show decode (mB 56) 13 = .ok (.return_, 1) by decide +kernel) rfl ?_
  show X xs L 1998 26 44 [.ref 25] [.ref 30, .ref 25] (HH 31 30 19002) _
  refine N_put (ci := 1) (f := 5) (m' := 31) (show decode (mB 26) 44 = .ok (.putfield 28, 3) by decide +kernel) (pc' := 47) rfl (by decide +kernel) (by decide +kernel) (by decide +kernel) (by decide +kernel) rfl (by decide +kernel) ?_
  refine X_aload_n (q := 0) (show decode (mB 26) 47 = .ok (.aload_n 0, 1) by decide +kernel) (pc' := 48) rfl rfl rfl ?_
  refine X_bipush (v := 40) (show decode (mB 26) 48 = .ok (.bipush 40, 2) by decide +kernel) (pc' := 50) rfl (by decide +kernel) ?_
  refine N_arr (ty := .long) (q := 40) (k' := 32) (s' := 19042) (show decode (mB 26) 50 = .ok (.newarray .long, 2) by decide +kernel) (pc' := 52) rfl rfl (by decide +kernel) (by decide +kernel) (by decide) rfl (by decide +kernel) rfl ?_
  refine N_put (ci := 1) (f := 6) (m' := 32) (show decode (mB 26) 52 = .ok (.putfield 32, 3) by decide +kernel) (pc' := 55) rfl (by decide +kernel) (by decide +kernel) (by decide +kernel) (by decide +kernel) rfl (by decide +kernel) ?_
  refine X_aload_n (q := 0) (show decode (mB 26) 55 = .ok (.aload_n 0, 1) by decide +kernel) (pc' := 56) rfl rfl rfl ?_
  refine X_bipush (v := 40) (show decode (mB 26) 56 = .ok (.bipush 40, 2) by decide +kernel) (pc' := 58) rfl (by decide +kernel) ?_
  refine N_arr (ty := .long) (q := 40) (k' := 33) (s' := 19082) (show decode (mB 26) 58 = .ok (.newarray .long, 2) by decide +kernel) (pc' := 60) rfl rfl (by decide +kernel) (by decide +kernel) (by decide) rfl (by decide +kernel) rfl ?_
  refine N_put (ci := 1) (f := 7) (m' := 33) (show decode (mB 26) 60 = .ok (.putfield 35, 3) by decide +kernel) (pc' := 63) rfl (by decide +kernel) (by decide +kernel) (by decide +kernel) (by decide +kernel) rfl (by decide +kernel) ?_
  refine X_aload_n (q := 0) (show decode (mB 26) 63 = .ok (.aload_n 0, 1) by decide +kernel) (pc' := 64) rfl rfl rfl ?_
  refine X_bipush (v := 40) (show decode (mB 26) 64 = .ok (.bipush 40, 2) by decide +kernel) (pc' := 66) rfl (by decide +kernel) ?_
  refine N_arr (ty := .int) (q := 40) (k' := 34) (s' := 19122) (show decode (mB 26) 66 = .ok (.newarray .int, 2) by decide +kernel) (pc' := 68) rfl rfl (by decide +kernel) (by decide +kernel) (by decide) rfl (by decide +kernel) rfl ?_
  refine N_put (ci := 1) (f := 8) (m' := 34) (show decode (mB 26) 68 = .ok (.putfield 38, 3) by decide +kernel) (pc' := 71) rfl (by decide +kernel) (by decide +kernel) (by decide +kernel) (by decide +kernel) rfl (by decide +kernel) ?_
  refine X_return (show decode (mB 26) 71 = .ok (.return_, 1) by decide +kernel) rfl ?_
  show X xs L 1999 101 70 [.ref 1, .ref 4] [.ref 25, .ref 1] (HH 34 34 19122) _
  exact k
theorem lc_4 (k : X xs L 1999 101 81 [.ref 1, .ref 4] [.ref 35, .ref 1] (HH 44 44 21413) Q) : X xs L 1999 101 70 [.ref 1, .ref 4] [.ref 25, .ref 1] (HH 34 34 19122) Q := by
  refine N_put (ci := 9) (f := 4) (m' := 35) (show decode (mB 101) 70 = .ok (.putfield 47, 3) by decide +kernel) (pc' := 73) rfl (by decide +kernel) (by decide +kernel) (by decide +kernel) (by decide +kernel) rfl (by decide +kernel) ?_
  refine X_aload_n (q := 0) (show decode (mB 101) 73 = .ok (.aload_n 0, 1) by decide +kernel) (pc' := 74) rfl rfl rfl ?_
  refine N_new (ci := 1) (k' := 35) (s' := 19131) (show decode (mB 101) 74 = .ok (.new 44, 3) by decide +kernel) (pc' := 77) rfl (by decide +kernel) rfl (by decide +kernel) (by decide +kernel) rfl ?_
  refine X_dup (show decode (mB 101) 77 = .ok (.dup, 1) by decide +kernel) (pc' := 78) rfl rfl ?_
  refine X_callP (a := 34) (y := 26) (n := 0) (rest := [.ref 35, .ref 1]) (as := [.ref 35]) (ls0 := [.ref 35]) (show decode (mB 101) 78 = .ok (.invokespecial 46, 3) by decide +kernel) (pc' := 81) rfl (by decide +kernel) (by decide +kernel) (by decide +kernel) rfl rfl rfl rfl rfl rfl ?_
  refine X_aload_n (q := 0) (show decode (mB 26) 0 = .ok (.aload_n 0, 1) by decide +kernel) (pc' := 1) rfl rfl rfl ?_
  refine X_oinit (show decode (mB 26) 1 = .ok (.invokespecial 3, 3) by decide +kernel) (pc' := 4) rfl (by decide +kernel) ⟨by decide, by omega, by decide⟩ ?_
  refine X_aload_n (q := 0) (show decode (mB 26) 4 = .ok (.aload_n 0, 1) by decide +kernel) (pc' := 5) rfl rfl rfl ?_
  refine X_bipush (v := 40) (show decode (mB 26) 5 = .ok (.bipush 40, 2) by decide +kernel) (pc' := 7) rfl (by decide +kernel) ?_
  refine N_arr (ty := .long) (q := 40) (k' := 36) (s' := 19171) (show decode (mB 26) 7 = .ok (.newarray .long, 2) by decide +kernel) (pc' := 9) rfl rfl (by decide +kernel) (by decide +kernel) (by decide) rfl (by decide +kernel) rfl ?_
  refine N_put (ci := 1) (f := 1) (m' := 36) (show decode (mB 26) 9 = .ok (.putfield 11, 3) by decide +kernel) (pc' := 12) rfl (by decide +kernel) (by decide +kernel) (by decide +kernel) (by decide +kernel) rfl (by decide +kernel) ?_
  refine X_aload_n (q := 0) (show decode (mB 26) 12 = .ok (.aload_n 0, 1) by decide +kernel) (pc' := 13) rfl rfl rfl ?_
  refine X_bipush (v := 40) (show decode (mB 26) 13 = .ok (.bipush 40, 2) by decide +kernel) (pc' := 15) rfl (by decide +kernel) ?_
  refine N_arr (ty := .int) (q := 40) (k' := 37) (s' := 19211) (show decode (mB 26) 15 = .ok (.newarray .int, 2) by decide +kernel) (pc' := 17) rfl rfl (by decide +kernel) (by decide +kernel) (by decide) rfl (by decide +kernel) rfl ?_
  refine N_put (ci := 1) (f := 2) (m' := 37) (show decode (mB 26) 17 = .ok (.putfield 15, 3) by decide +kernel) (pc' := 20) rfl (by decide +kernel) (by decide +kernel) (by decide +kernel) (by decide +kernel) rfl (by decide +kernel) ?_
  refine X_aload_n (q := 0) (show decode (mB 26) 20 = .ok (.aload_n 0, 1) by decide +kernel) (pc' := 21) rfl rfl rfl ?_
  refine X_bipush (v := 40) (show decode (mB 26) 21 = .ok (.bipush 40, 2) by decide +kernel) (pc' := 23) rfl (by decide +kernel) ?_
  refine N_arr (ty := .int) (q := 40) (k' := 38) (s' := 19251) (show decode (mB 26) 23 = .ok (.newarray .int, 2) by decide +kernel) (pc' := 25) rfl rfl (by decide +kernel) (by decide +kernel) (by decide) rfl (by decide +kernel) rfl ?_
  refine N_put (ci := 1) (f := 3) (m' := 38) (show decode (mB 26) 25 = .ok (.putfield 19, 3) by decide +kernel) (pc' := 28) rfl (by decide +kernel) (by decide +kernel) (by decide +kernel) (by decide +kernel) rfl (by decide +kernel) ?_
  refine X_aload_n (q := 0) (show decode (mB 26) 28 = .ok (.aload_n 0, 1) by decide +kernel) (pc' := 29) rfl rfl rfl ?_
  refine X_bipush (v := 40) (show decode (mB 26) 29 = .ok (.bipush 40, 2) by decide +kernel) (pc' := 31) rfl (by decide +kernel) ?_
  refine N_arr (ty := .int) (q := 40) (k' := 39) (s' := 19291) (show decode (mB 26) 31 = .ok (.newarray .int, 2) by decide +kernel) (pc' := 33) rfl rfl (by decide +kernel) (by decide +kernel) (by decide) rfl (by decide +kernel) rfl ?_
  refine N_put (ci := 1) (f := 4) (m' := 39) (show decode (mB 26) 33 = .ok (.putfield 22, 3) by decide +kernel) (pc' := 36) rfl (by decide +kernel) (by decide +kernel) (by decide +kernel) (by decide +kernel) rfl (by decide +kernel) ?_
  refine X_aload_n (q := 0) (show decode (mB 26) 36 = .ok (.aload_n 0, 1) by decide +kernel) (pc' := 37) rfl rfl rfl ?_
  refine N_new (ci := 5) (k' := 40) (s' := 19293) (show decode (mB 26) 37 = .ok (.new 25, 3) by decide +kernel) (pc' := 40) rfl (by decide +kernel) rfl (by decide +kernel) (by decide +kernel) rfl ?_
  refine X_dup (show decode (mB 26) 40 = .ok (.dup, 1) by decide +kernel) (pc' := 41) rfl rfl ?_
  refine X_callP (a := 39) (y := 56) (n := 0) (rest := [.ref 40, .ref 35]) (as := [.ref 40]) (ls0 := [.ref 40]) (show decode (mB 26) 41 = .ok (.invokespecial 27, 3) by decide +kernel) (pc' := 44) rfl (by decide +kernel) (by decide +kernel) (by decide +kernel) rfl rfl rfl rfl rfl rfl ?_
  refine X_aload_n (q := 0) (show decode (mB 56) 0 = .ok (.aload_n 0, 1) by decide +kernel) (pc' := 1) rfl rfl rfl ?_
  refine X_oinit (show decode (mB 56) 1 = .ok (.invokespecial 1, 3) by decide +kernel) (pc' := 4) rfl (by decide +kernel) ⟨by decide, by omega, by decide⟩ ?_
  refine X_aload_n (q := 0) (show decode (mB 56) 4 = .ok (.aload_n 0, 1) by decide +kernel) (pc' := 5) rfl rfl rfl ?_
  refine X_sipush (v := 2000) (show decode (mB 56) 5 = .ok (.sipush 2000, 3) by decide +kernel) (pc' := 8) rfl (by decide +kernel) ?_
  refine N_arr (ty := .int) (q := 2000) (k' := 41) (s' := 21293) (show decode (mB 56) 8 = .ok (.newarray .int, 2) by decide +kernel) (pc' := 10) rfl rfl (by decide +kernel) (by decide +kernel) (by decide) rfl (by decide +kernel) rfl ?_
  refine N_put (ci := 5) (f := 0) (m' := 40) (show decode (mB 56) 10 = .ok (.putfield 9, 3) by decide +kernel) (pc' := 13) rfl (by decide +kernel) (by decide +kernel) (by decide +kernel) (by decide +kernel) rfl (by decide +kernel) ?_
  refine X_return (show decode (mB 56) 13 = .ok (.return_, 1) by decide +kernel) rfl ?_
  show X xs L 1998 26 44 [.ref 35] [.ref 40, .ref 35] (HH 41 40 21293) _
  refine N_put (ci := 1) (f := 5) (m' := 41) (show decode (mB 26) 44 = .ok (.putfield 28, 3) by decide +kernel) (pc' := 47) rfl (by decide +kernel) (by decide +kernel) (by decide +kernel) (by decide +kernel) rfl (by decide +kernel) ?_
  refine X_aload_n (q := 0) (show decode (mB 26) 47 = .ok (.aload_n 0, 1) by decide +kernel) (pc' := 48) rfl rfl rfl ?_
  refine X_bipush (v := 40) (show decode (mB 26) 48 = .ok (.bipush 40, 2) by decide +kernel) (pc' := 50) rfl (by decide +kernel) ?_
  refine N_arr (ty := .long) (q := 40) (k' := 42) (s' := 21333) (show decode (mB 26) 50 = .ok (.newarray .long, 2) by decide +kernel) (pc' := 52) rfl rfl (by decide +kernel) (by decide +kernel) (by decide) rfl (by decide +kernel) rfl ?_
  refine N_put (ci := 1) (f := 6) (m' := 42) (show decode (mB 26) 52 = .ok (.putfield 32, 3) by decide +kernel) (pc' := 55) rfl (by decide +kernel) (by decide +kernel) (by decide +kernel) (by decide +kernel) rfl (by decide +kernel) ?_
  refine X_aload_n (q := 0) (show decode (mB 26) 55 = .ok (.aload_n 0, 1) by decide +kernel) (pc' := 56) rfl rfl rfl ?_
  refine X_bipush (v := 40) (show decode (mB 26) 56 = .ok (.bipush 40, 2) by decide +kernel) (pc' := 58) rfl (by decide +kernel) ?_
  refine N_arr (ty := .long) (q := 40) (k' := 43) (s' := 21373) (show decode (mB 26) 58 = .ok (.newarray .long, 2) by decide +kernel) (pc' := 60) rfl rfl (by decide +kernel) (by decide +kernel) (by decide) rfl (by decide +kernel) rfl ?_
  refine N_put (ci := 1) (f := 7) (m' := 43) (show decode (mB 26) 60 = .ok (.putfield 35, 3) by decide +kernel) (pc' := 63) rfl (by decide +kernel) (by decide +kernel) (by decide +kernel) (by decide +kernel) rfl (by decide +kernel) ?_
  refine X_aload_n (q := 0) (show decode (mB 26) 63 = .ok (.aload_n 0, 1) by decide +kernel) (pc' := 64) rfl rfl rfl ?_
  refine X_bipush (v := 40) (show decode (mB 26) 64 = .ok (.bipush 40, 2) by decide +kernel) (pc' := 66) rfl (by decide +kernel) ?_
  refine N_arr (ty := .int) (q := 40) (k' := 44) (s' := 21413) (show decode (mB 26) 66 = .ok (.newarray .int, 2) by decide +kernel) (pc' := 68) rfl rfl (by decide +kernel) (by decide +kernel) (by decide) rfl (by decide +kernel) rfl ?_
  refine N_put (ci := 1) (f := 8) (m' := 44) (show decode (mB 26) 68 = .ok (.putfield 38, 3) by decide +kernel) (pc' := 71) rfl (by decide +kernel) (by decide +kernel) (by decide +kernel) (by decide +kernel) rfl (by decide +kernel) ?_
  refine X_return (show decode (mB 26) 71 = .ok (.return_, 1) by decide +kernel) rfl ?_
  show X xs L 1999 101 81 [.ref 1, .ref 4] [.ref 35, .ref 1] (HH 44 44 21413) _
  exact k
theorem lc_5 (k : X xs L 1999 101 92 [.ref 1, .ref 4] [.ref 45, .ref 1] (HH 54 54 23724) Q) : X xs L 1999 101 81 [.ref 1, .ref 4] [.ref 35, .ref 1] (HH 44 44 21413) Q := by
  refine N_put (ci := 9) (f := 5) (m' := 45) (show decode (mB 101) 81 = .ok (.putfield 51, 3) by decide +kernel) (pc' := 84) rfl (by decide +kernel) (by decide +kernel) (by decide +kernel) (by decide +kernel) rfl (by decide +kernel) ?_
  refine X_aload_n (q := 0) (show decode (mB 101) 84 = .ok (.aload_n 0, 1) by decide +kernel) (pc' := 85) rfl rfl rfl ?_
  refine N_new (ci := 3) (k' := 45) (s' := 21425) (show decode (mB 101) 85 = .ok (.new 54, 3) by decide +kernel) (pc' := 88) rfl (by decide +kernel) rfl (by decide +kernel) (by decide +kernel) rfl ?_
  refine X_dup (show decode (mB 101) 88 = .ok (.dup, 1) by decide +kernel) (pc' := 89) rfl rfl ?_
  refine X_callP (a := 44) (y := 45) (n := 0) (rest := [.ref 45, .ref 1]) (as := [.ref 45]) (ls0 := [.ref 45]) (show decode (mB 101) 89 = .ok (.invokespecial 56, 3) by decide +kernel) (pc' := 92) rfl (by decide +kernel) (by decide +kernel) (by decide +kernel) rfl rfl rfl rfl rfl rfl ?_
  refine X_aload_n (q := 0) (show decode (mB 45) 0 = .ok (.aload_n 0, 1) by decide +kernel) (pc' := 1) rfl rfl rfl ?_
  refine X_oinit (show decode (mB 45) 1 = .ok (.invokespecial 3, 3) by decide +kernel) (pc' := 4) rfl (by decide +kernel) ⟨by decide, by omega, by decide⟩ ?_
  refine X_aload_n (q := 0) (show decode (mB 45) 4 = .ok (.aload_n 0, 1) by decide +kernel) (pc' := 5) rfl rfl rfl ?_
  refine X_bipush (v := 9) (show decode (mB 45) 5 = .ok (.bipush 9, 2) by decide +kernel) (pc' := 7) rfl (by decide +kernel) ?_
  refine N_arr (ty := .long) (q := 9) (k' := 46) (s' := 21434) (show decode (mB 45) 7 = .ok (.newarray .long, 2) by decide +kernel) (pc' := 9) rfl rfl (by decide +kernel) (by decide +kernel) (by decide) rfl (by decide +kernel) rfl ?_
  refine N_put (ci := 3) (f := 1) (m' := 46) (show decode (mB 45) 9 = .ok (.putfield 11, 3) by decide +kernel) (pc' := 12) rfl (by decide +kernel) (by decide +kernel) (by decide +kernel) (by decide +kernel) rfl (by decide +kernel) ?_
  refine X_aload_n (q := 0) (show decode (mB 45) 12 = .ok (.aload_n 0, 1) by decide +kernel) (pc' := 13) rfl rfl rfl ?_
  refine X_bipush (v := 48) (show decode (mB 45) 13 = .ok (.bipush 48, 2) by decide +kernel) (pc' := 15) rfl (by decide +kernel) ?_
  refine N_arr (ty := .int) (q := 48) (k' := 47) (s' := 21482) (show decode (mB 45) 15 = .ok (.newarray .int, 2) by decide +kernel) (pc' := 17) rfl rfl (by decide +kernel) (by decide +kernel) (by decide) rfl (by decide +kernel) rfl ?_
  refine N_put (ci := 3) (f := 5) (m' := 47) (show decode (mB 45) 17 = .ok (.putfield 15, 3) by decide +kernel) (pc' := 20) rfl (by decide +kernel) (by decide +kernel) (by decide +kernel) (by decide +kernel) rfl (by decide +kernel) ?_
  refine X_aload_n (q := 0) (show decode (mB 45) 20 = .ok (.aload_n 0, 1) by decide +kernel) (pc' := 21) rfl rfl rfl ?_
  refine X_bipush (v := 48) (show decode (mB 45) 21 = .ok (.bipush 48, 2) by decide +kernel) (pc' := 23) rfl (by decide +kernel) ?_
  refine N_arr (ty := .int) (q := 48) (k' := 48) (s' := 21530) (show decode (mB 45) 23 = .ok (.newarray .int, 2) by decide +kernel) (pc' := 25) rfl rfl (by decide +kernel) (by decide +kernel) (by decide) rfl (by decide +kernel) rfl ?_
  refine N_put (ci := 3) (f := 6) (m' := 48) (show decode (mB 45) 25 = .ok (.putfield 19, 3) by decide +kernel) (pc' := 28) rfl (by decide +kernel) (by decide +kernel) (by decide +kernel) (by decide +kernel) rfl (by decide +kernel) ?_
  refine X_aload_n (q := 0) (show decode (mB 45) 28 = .ok (.aload_n 0, 1) by decide +kernel) (pc' := 29) rfl rfl rfl ?_
  refine X_bipush (v := 48) (show decode (mB 45) 29 = .ok (.bipush 48, 2) by decide +kernel) (pc' := 31) rfl (by decide +kernel) ?_
  refine N_arr (ty := .int) (q := 48) (k' := 49) (s' := 21578) (show decode (mB 45) 31 = .ok (.newarray .int, 2) by decide +kernel) (pc' := 33) rfl rfl (by decide +kernel) (by decide +kernel) (by decide) rfl (by decide +kernel) rfl ?_
  refine N_put (ci := 3) (f := 7) (m' := 49) (show decode (mB 45) 33 = .ok (.putfield 22, 3) by decide +kernel) (pc' := 36) rfl (by decide +kernel) (by decide +kernel) (by decide +kernel) (by decide +kernel) rfl (by decide +kernel) ?_
  refine X_aload_n (q := 0) (show decode (mB 45) 36 = .ok (.aload_n 0, 1) by decide +kernel) (pc' := 37) rfl rfl rfl ?_
  refine X_bipush (v := 48) (show decode (mB 45) 37 = .ok (.bipush 48, 2) by decide +kernel) (pc' := 39) rfl (by decide +kernel) ?_
  refine N_arr (ty := .int) (q := 48) (k' := 50) (s' := 21626) (show decode (mB 45) 39 = .ok (.newarray .int, 2) by decide +kernel) (pc' := 41) rfl rfl (by decide +kernel) (by decide +kernel) (by decide) rfl (by decide +kernel) rfl ?_
  refine N_put (ci := 3) (f := 8) (m' := 50) (show decode (mB 45) 41 = .ok (.putfield 25, 3) by decide +kernel) (pc' := 44) rfl (by decide +kernel) (by decide +kernel) (by decide +kernel) (by decide +kernel) rfl (by decide +kernel) ?_
  refine X_aload_n (q := 0) (show decode (mB 45) 44 = .ok (.aload_n 0, 1) by decide +kernel) (pc' := 45) rfl rfl rfl ?_
  refine X_bipush (v := 48) (show decode (mB 45) 45 = .ok (.bipush 48, 2) by decide +kernel) (pc' := 47) rfl (by decide +kernel) ?_
  refine N_arr (ty := .int) (q := 48) (k' := 51) (s' := 21674) (show decode (mB 45) 47 = .ok (.newarray .int, 2) by decide +kernel) (pc' := 49) rfl rfl (by decide +kernel) (by decide +kernel) (by decide) rfl (by decide +kernel) rfl ?_
  refine N_put (ci := 3) (f := 9) (m' := 51) (show decode (mB 45) 49 = .ok (.putfield 28, 3) by decide +kernel) (pc' := 52) rfl (by decide +kernel) (by decide +kernel) (by decide +kernel) (by decide +kernel) rfl (by decide +kernel) ?_
  refine X_aload_n (q := 0) (show decode (mB 45) 52 = .ok (.aload_n 0, 1) by decide +kernel) (pc' := 53) rfl rfl rfl ?_
  refine X_bipush (v := 48) (show decode (mB 45) 53 = .ok (.bipush 48, 2) by decide +kernel) (pc' := 55) rfl (by decide +kernel) ?_
  refine N_arr (ty := .int) (q := 48) (k' := 52) (s' := 21722) (show decode (mB 45) 55 = .ok (.newarray .int, 2) by decide +kernel) (pc' := 57) rfl rfl (by decide +kernel) (by decide +kernel) (by decide) rfl (by decide +kernel) rfl ?_
  refine N_put (ci := 3) (f := 10) (m' := 52) (show decode (mB 45) 57 = .ok (.putfield 31, 3) by decide +kernel) (pc' := 60) rfl (by decide +kernel) (by decide +kernel) (by decide +kernel) (by decide +kernel) rfl (by decide +kernel) ?_
  refine X_aload_n (q := 0) (show decode (mB 45) 60 = .ok (.aload_n 0, 1) by decide +kernel) (pc' := 61) rfl rfl rfl ?_
  refine N_new (ci := 5) (k' := 53) (s' := 21724) (show decode (mB 45) 61 = .ok (.new 34, 3) by decide +kernel) (pc' := 64) rfl (by decide +kernel) rfl (by decide +kernel) (by decide +kernel) rfl ?_
  refine X_dup (show decode (mB 45) 64 = .ok (.dup, 1) by decide +kernel) (pc' := 65) rfl rfl ?_
  refine X_callP (a := 52) (y := 56) (n := 0) (rest := [.ref 53, .ref 45]) (as := [.ref 53]) (ls0 := [.ref 53]) (show decode (mB 45) 65 = .ok (.invokespecial 36, 3) by decide +kernel) (pc' := 68) rfl (by decide +kernel) (by decide +kernel) (by decide +kernel) rfl rfl rfl rfl rfl rfl ?_
  refine X_aload_n (q := 0) (show decode (mB 56) 0 = .ok (.aload_n 0, 1) by decide +kernel) (pc' := 1) rfl rfl rfl ?_
  refine X_oinit (show decode (mB 56) 1 = .ok (.invokespecial 1, 3) by decide +kernel) (pc' := 4) rfl (by decide +kernel) ⟨by decide, by omega, by decide⟩ ?_
  refine X_aload_n (q := 0) (show decode (mB 56) 4 = .ok (.aload_n 0, 1) by decide +kernel) (pc' := 5) rfl rfl rfl ?_
  refine X_sipush (v := 2000) (show decode (mB 56) 5 = .ok (.sipush 2000, 3) by decide +kernel) (pc' := 8) rfl (by decide +kernel) ?_
  refine N_arr (ty := .int) (q := 2000) (k' := 54) (s' := 23724) (show decode (mB 56) 8 = .ok (.newarray .int, 2) by decide +kernel) (pc' := 10) rfl rfl (by decide +kernel) (by decide +kernel) (by decide) rfl (by decide +kernel) rfl ?_
  refine N_put (ci := 5) (f := 0) (m' := 53) (show decode (mB 56) 10 = .ok (.putfield 9, 3) by decide +kernel) (pc' := 13) rfl (by decide +kernel) (by decide +kernel) (by decide +kernel) (by decide +kernel) rfl (by decide +kernel) ?_
  refine X_return (show decode (mB 56) 13 = .ok (.return_, 1) by decide +kernel) rfl ?_
  show X xs L 1998 45 68 [.ref 45] [.ref 53, .ref 45] (HH 54 53 23724) _
  refine N_put (ci := 3) (f := 11) (m' := 54) (show decode (mB 45) 68 = .ok (.putfield 37, 3) by decide +kernel) (pc' := 71) rfl (by decide +kernel) (by decide +kernel) (by decide +kernel) (by decide +kernel) rfl (by decide +kernel) ?_
  refine X_return (show decode (mB 45) 71 = .ok (.return_, 1) by decide +kernel) rfl ?_
  show X xs L 1999 101 92 [.ref 1, .ref 4] [.ref 45, .ref 1] (HH 54 54 23724) _
  exact k
theorem lc_6 (k : X xs L 1999 101 103 [.ref 1, .ref 4] [.ref 55, .ref 1] (HH 64 64 26035) Q) : X xs L 1999 101 92 [.ref 1, .ref 4] [.ref 45, .ref 1] (HH 54 54 23724) Q := by
  refine N_put (ci := 9) (f := 6) (m' := 55) (show decode (mB 101) 92 = .ok (.putfield 57, 3) by decide +kernel) (pc' := 95) rfl (by decide +kernel) (by decide +kernel) (by decide +kernel) (by decide +kernel) rfl (by decide +kernel) ?_
  refine X_aload_n (q := 0) (show decode (mB 101) 95 = .ok (.aload_n 0, 1) by decide +kernel) (pc' := 96) rfl rfl rfl ?_
  refine N_new (ci := 3) (k' := 55) (s' := 23736) (show decode (mB 101) 96 = .ok (.new 54, 3) by decide +kernel) (pc' := 99) rfl (by decide +kernel) rfl (by decide +kernel) (by decide +kernel) rfl ?_
  refine X_dup (show decode (mB 101) 99 = .ok (.dup, 1) by decide +kernel) (pc' := 100) rfl rfl ?_
  refine X_callP (a := 54) (y := 45) (n := 0) (rest := [.ref 55, .ref 1]) (as := [.ref 55]) (ls0 := [.ref 55]) (show decode (mB 101) 100 = .ok (.invokespecial 56, 3) by decide +kernel) (pc' := 103) rfl (by decide +kernel) (by decide +kernel) (by decide +kernel) rfl rfl rfl rfl rfl rfl ?_
  refine X_aload_n (q := 0) (show decode (mB 45) 0 = .ok (.aload_n 0, 1) by decide +kernel) (pc' := 1) rfl rfl rfl ?_
  refine X_oinit (show decode (mB 45) 1 = .ok (.invokespecial 3, 3) by decide +kernel) (pc' := 4) rfl (by decide +kernel) ⟨by decide, by omega, by decide⟩ ?_
  refine X_aload_n (q := 0) (show decode (mB 45) 4 = .ok (.aload_n 0, 1) by decide +kernel) (pc' := 5) rfl rfl rfl ?_
  refine X_bipush (v := 9) (show decode (mB 45) 5 = .ok (.bipush 9, 2) by decide +kernel) (pc' := 7) rfl (by decide +kernel) ?_
  refine N_arr (ty := .long) (q := 9) (k' := 56) (s' := 23745) (show decode (mB 45) 7 = .ok (.newarray .long, 2) by decide +kernel) (pc' := 9) rfl rfl (by decide +kernel) (by decide +kernel) (by decide) rfl (by decide +kernel) rfl ?_
  refine N_put (ci := 3) (f := 1) (m' := 56) (show decode (mB 45) 9 = .ok (.putfield 11, 3) by decide +kernel) (pc' := 12) rfl (by decide +kernel) (by decide +kernel) (by decide +kernel) (by decide +kernel) rfl (by decide +kernel) ?_
  refine X_aload_n (q := 0) (show decode (mB 45) 12 = .ok (.aload_n 0, 1) by decide +kernel) (pc' := 13) rfl rfl rfl ?_
  refine X_bipush (v := 48) (show decode (mB 45) 13 = .ok (.bipush 48, 2) by decide +kernel) (pc' := 15) rfl (by decide +kernel) ?_
  refine N_arr (ty := .int) (q := 48) (k' := 57) (s' := 23793) (show decode (mB 45) 15 = .ok (.newarray .int, 2) by decide +kernel) (pc' := 17) rfl rfl (by decide +kernel) (by decide +kernel) (by decide) rfl (by decide +kernel) rfl ?_
  refine N_put (ci := 3) (f := 5) (m' := 57) (show decode (mB 45) 17 = .ok (.putfield 15, 3) by decide +kernel) (pc' := 20) rfl (by decide +kernel) (by decide +kernel) (by decide +kernel) (by decide +kernel) rfl (by decide +kernel) ?_
  refine X_aload_n (q := 0) (show decode (mB 45) 20 = .ok (.aload_n 0, 1) by decide +kernel) (pc' := 21) rfl rfl rfl ?_
  refine X_bipush (v := 48) (show decode (mB 45) 21 = .ok (.bipush 48, 2) by decide +kernel) (pc' := 23) rfl (by decide +kernel) ?_
  refine N_arr (ty := .int) (q := 48) (k' := 58) (s' := 23841) (show decode (mB 45) 23 = .ok (.newarray .int, 2) by decide +kernel) (pc' := 25) rfl rfl (by decide +kernel) (by decide +kernel) (by decide) rfl (by decide +kernel) rfl ?_
  refine N_put (ci := 3) (f := 6) (m' := 58) (show decode (mB 45) 25 = .ok (.putfield 19, 3) by decide +kernel) (pc' := 28) rfl (by decide +kernel) (by decide +kernel) (by decide +kernel) (by decide +kernel) rfl (by decide +kernel) ?_
  refine X_aload_n (q := 0) (show decode (mB 45) 28 = .ok (.aload_n 0, 1) by decide +kernel) (pc' := 29) rfl rfl rfl ?_
  refine X_bipush (v := 48) (show decode (mB 45) 29 = .ok (.bipush 48, 2) by decide +kernel) (pc' := 31) rfl (by decide +kernel) ?_
  refine N_arr (ty := .int) (q := 48) (k' := 59) (s' := 23889) (show decode (mB 45) 31 = .ok (.newarray .int, 2) by decide +kernel) (pc' := 33) rfl rfl (by decide +kernel) (by decide +kernel) (by decide) rfl (by decide +kernel) rfl ?_
  refine N_put (ci := 3) (f := 7) (m' := 59) (show decode (mB 45) 33 = .ok (.putfield 22, 3) by decide +kernel) (pc' := 36) rfl (by decide +kernel) (by decide +kernel) (by decide +kernel) (by decide +kernel) rfl (by decide +kernel) ?_
  refine X_aload_n (q := 0) (show decode (mB 45) 36 = .ok (.aload_n 0, 1) by decide +kernel) (pc' := 37) rfl rfl rfl ?_
  refine X_bipush (v := 48) (show decode (mB 45) 37 = .ok (.bipush 48, 2) by decide +kernel) (pc' := 39) rfl (by decide +kernel) ?_
  refine N_arr (ty := .int) (q := 48) (k' := 60) (s' := 23937) (show decode (mB 45) 39 = .ok (.newarray .int, 2) by decide +kernel) (pc' := 41) rfl rfl (by decide +kernel) (by decide +kernel) (by decide) rfl (by decide +kernel) rfl ?_
  refine N_put (ci := 3) (f := 8) (m' := 60) (show decode (mB 45) 41 = .ok (.putfield 25, 3) by decide +kernel) (pc' := 44) rfl (by decide +kernel) (by decide +kernel) (by decide +kernel) (by decide +kernel) rfl (by decide +kernel) ?_
  refine X_aload_n (q := 0) (show decode (mB 45) 44 = .ok (.aload_n 0, 1) by decide +kernel) (pc' := 45) rfl rfl rfl ?_
  refine X_bipush (v := 48) (show decode (mB 45) 45 = .ok (.bipush 48, 2) by decide +kernel) (pc' := 47) rfl (by decide +kernel) ?_
  refine N_arr (ty := .int) (q := 48) (k' := 61) (s' := 23985) (show decode (mB 45) 47 = .ok (.newarray .int, 2) by decide +kernel) (pc' := 49) rfl rfl (by decide +kernel) (by decide +kernel) (by decide) rfl (by decide +kernel) rfl ?_
  refine N_put (ci := 3) (f := 9) (m' := 61) (show decode (mB 45) 49 = .ok (.putfield 28, 3) by decide +kernel) (pc' := 52) rfl (by decide +kernel) (by decide +kernel) (by decide +kernel) (by decide +kernel) rfl (by decide +kernel) ?_
  refine X_aload_n (q := 0) (show decode (mB 45) 52 = .ok (.aload_n 0, 1) by decide +kernel) (pc' := 53) rfl rfl rfl ?_
  refine X_bipush (v := 48) (show decode (mB 45) 53 = .ok (.bipush 48, 2) by decide +kernel) (pc' := 55) rfl (by decide +kernel) ?_
  refine N_arr (ty := .int) (q := 48) (k' := 62) (s' := 24033) (show decode (mB 45) 55 = .ok (.newarray .int, 2) by decide +kernel) (pc' := 57) rfl rfl (by decide +kernel) (by decide +kernel) (by decide) rfl (by decide +kernel) rfl ?_
  refine N_put (ci := 3) (f := 10) (m' := 62) (show decode (mB 45) 57 = .ok (.putfield 31, 3) by decide +kernel) (pc' := 60) rfl (by decide +kernel) (by decide +kernel) (by decide +kernel) (by decide +kernel) rfl (by decide +kernel) ?_
  refine X_aload_n (q := 0) (show decode (mB 45) 60 = .ok (.aload_n 0, 1) by decide +kernel) (pc' := 61) rfl rfl rfl ?_
  refine N_new (ci := 5) (k' := 63) (s' := 24035) (show decode (mB 45) 61 = .ok (.new 34, 3) by decide +kernel) (pc' := 64) rfl (by decide +kernel) rfl (by decide +kernel) (by decide +kernel) rfl ?_
  refine X_dup (show decode (mB 45) 64 = .ok (.dup, 1) by decide +kernel) (pc' := 65) rfl rfl ?_
  refine X_callP (a := 62) (y := 56) (n := 0) (rest := [.ref 63, .ref 55]) (as := [.ref 63]) (ls0 := [.ref 63]) (show decode (mB 45) 65 = .ok (.invokespecial 36, 3) by decide +kernel) (pc' := 68) rfl (by decide +kernel) (by decide +kernel) (by decide +kernel) rfl rfl rfl rfl rfl rfl ?_
  refine X_aload_n (q := 0) (show decode (mB 56) 0 = .ok (.aload_n 0, 1) by decide +kernel) (pc' := 1) rfl rfl rfl ?_
  refine X_oinit (show decode (mB 56) 1 = .ok (.invokespecial 1, 3) by decide +kernel) (pc' := 4) rfl (by decide +kernel) ⟨by decide, by omega, by decide⟩ ?_
  refine X_aload_n (q := 0) (show decode (mB 56) 4 = .ok (.aload_n 0, 1) by decide +kernel) (pc' := 5) rfl rfl rfl ?_
  refine X_sipush (v := 2000) (show decode (mB 56) 5 = .ok (.sipush 2000, 3) by decide +kernel) (pc' := 8) rfl (by decide +kernel) ?_
  refine N_arr (ty := .int) (q := 2000) (k' := 64) (s' := 26035) (show decode (mB 56) 8 = .ok (.newarray .int, 2) by decide +kernel) (pc' := 10) rfl rfl (by decide +kernel) (by decide +kernel) (by decide) rfl (by decide +kernel) rfl ?_
  refine N_put (ci := 5) (f := 0) (m' := 63) (show decode (mB 56) 10 = .ok (.putfield 9, 3) by decide +kernel) (pc' := 13) rfl (by decide +kernel) (by decide +kernel) (by decide +kernel) (by decide +kernel) rfl (by decide +kernel) ?_
  refine X_return (show decode (mB 56) 13 = .ok (.return_, 1) by decide +kernel) rfl ?_
  show X xs L 1998 45 68 [.ref 55] [.ref 63, .ref 55] (HH 64 63 26035) _
  refine N_put (ci := 3) (f := 11) (m' := 64) (show decode (mB 45) 68 = .ok (.putfield 37, 3) by decide +kernel) (pc' := 71) rfl (by decide +kernel) (by decide +kernel) (by decide +kernel) (by decide +kernel) rfl (by decide +kernel) ?_
  refine X_return (show decode (mB 45) 71 = .ok (.return_, 1) by decide +kernel) rfl ?_
  show X xs L 1999 101 103 [.ref 1, .ref 4] [.ref 55, .ref 1] (HH 64 64 26035) _
  exact k
theorem lc_7 (k : X xs L 1999 101 111 [.ref 1, .ref 4] [] (HH 64 65 26035) Q) : X xs L 1999 101 103 [.ref 1, .ref 4] [.ref 55, .ref 1] (HH 64 64 26035) Q := by
  refine N_put (ci := 9) (f := 7) (m' := 65) (show decode (mB 101) 103 = .ok (.putfield 61, 3) by decide +kernel) (pc' := 106) rfl (by decide +kernel) (by decide +kernel) (by decide +kernel) (by decide +kernel) rfl (by decide +kernel) ?_
  refine X_aload_n (q := 0) (show decode (mB 101) 106 = .ok (.aload_n 0, 1) by decide +kernel) (pc' := 107) rfl rfl rfl ?_
  refine X_iconst (v := 0) (show decode (mB 101) 107 = .ok (.iconst 0, 1) by decide +kernel) (pc' := 108) rfl rfl ?_
  refine N_putZ (ci := 9) (f := 8) (show decode (mB 101) 108 = .ok (.putfield 64, 3) by decide +kernel) (pc' := 111) rfl (by decide +kernel) (by decide +kernel) (by decide +kernel) (by decide +kernel) ?_
  exact k
theorem lc_8 (k : X xs L 1999 118 57 [.ref 65] [.ref 71, .ref 65] (HH 76 75 46076) Q) : X xs L 1999 118 0 [.ref 65] [] (HH 65 65 26066) Q := by
  refine X_aload_n (q := 0) (show decode (mB 118) 0 = .ok (.aload_n 0, 1) by decide +kernel) (pc' := 1) rfl rfl rfl ?_
  refine X_oinit (show decode (mB 118) 1 = .ok (.invokespecial 1, 3) by decide +kernel) (pc' := 4) rfl (by decide +kernel) ⟨by decide, by omega, by decide⟩ ?_
  refine X_aload_n (q := 0) (show decode (mB 118) 4 = .ok (.aload_n 0, 1) by decide +kernel) (pc' := 5) rfl rfl rfl ?_
  refine X_sipush (v := 2000) (show decode (mB 118) 5 = .ok (.sipush 2000, 3) by decide +kernel) (pc' := 8) rfl (by decide +kernel) ?_
  refine N_arr (ty := .byte) (q := 2000) (k' := 66) (s' := 28066) (show decode (mB 118) 8 = .ok (.newarray .byte, 2) by decide +kernel) (pc' := 10) rfl rfl (by decide +kernel) (by decide +kernel) (by decide) rfl (by decide +kernel) rfl ?_
  refine N_put (ci := 13) (f := 0) (m' := 66) (show decode (mB 118) 10 = .ok (.putfield 9, 3) by decide +kernel) (pc' := 13) rfl (by decide +kernel) (by decide +kernel) (by decide +kernel) (by decide +kernel) rfl (by decide +kernel) ?_
  refine X_aload_n (q := 0) (show decode (mB 118) 13 = .ok (.aload_n 0, 1) by decide +kernel) (pc' := 14) rfl rfl rfl ?_
  refine X_sipush (v := 2001) (show decode (mB 118) 14 = .ok (.sipush 2001, 3) by decide +kernel) (pc' := 17) rfl (by decide +kernel) ?_
  refine N_arr (ty := .int) (q := 2001) (k' := 67) (s' := 30067) (show decode (mB 118) 17 = .ok (.newarray .int, 2) by decide +kernel) (pc' := 19) rfl rfl (by decide +kernel) (by decide +kernel) (by decide) rfl (by decide +kernel) rfl ?_
  refine N_put (ci := 13) (f := 2) (m' := 67) (show decode (mB 118) 19 = .ok (.putfield 13, 3) by decide +kernel) (pc' := 22) rfl (by decide +kernel) (by decide +kernel) (by decide +kernel) (by decide +kernel) rfl (by decide +kernel) ?_
  refine X_aload_n (q := 0) (show decode (mB 118) 22 = .ok (.aload_n 0, 1) by decide +kernel) (pc' := 23) rfl rfl rfl ?_
  refine X_sipush (v := 2001) (show decode (mB 118) 23 = .ok (.sipush 2001, 3) by decide +kernel) (pc' := 26) rfl (by decide +kernel) ?_
  refine N_arr (ty := .long) (q := 2001) (k' := 68) (s' := 32068) (show decode (mB 118) 26 = .ok (.newarray .long, 2) by decide +kernel) (pc' := 28) rfl rfl (by decide +kernel) (by decide +kernel) (by decide) rfl (by decide +kernel) rfl ?_
  refine N_put (ci := 13) (f := 3) (m' := 68) (show decode (mB 118) 28 = .ok (.putfield 17, 3) by decide +kernel) (pc' := 31) rfl (by decide +kernel) (by decide +kernel) (by decide +kernel) (by decide +kernel) rfl (by decide +kernel) ?_
  refine X_aload_n (q := 0) (show decode (mB 118) 31 = .ok (.aload_n 0, 1) by decide +kernel) (pc' := 32) rfl rfl rfl ?_
  refine X_sipush (v := 2001) (show decode (mB 118) 32 = .ok (.sipush 2001, 3) by decide +kernel) (pc' := 35) rfl (by decide +kernel) ?_
  refine N_arr (ty := .int) (q := 2001) (k' := 69) (s' := 34069) (show decode (mB 118) 35 = .ok (.newarray .int, 2) by decide +kernel) (pc' := 37) rfl rfl (by decide +kernel) (by decide +kernel) (by decide) rfl (by decide +kernel) rfl ?_
  refine N_put (ci := 13) (f := 4) (m' := 69) (show decode (mB 118) 37 = .ok (.putfield 21, 3) by decide +kernel) (pc' := 40) rfl (by decide +kernel) (by decide +kernel) (by decide +kernel) (by decide +kernel) rfl (by decide +kernel) ?_
  refine X_aload_n (q := 0) (show decode (mB 118) 40 = .ok (.aload_n 0, 1) by decide +kernel) (pc' := 41) rfl rfl rfl ?_
  refine X_sipush (v := 2001) (show decode (mB 118) 41 = .ok (.sipush 2001, 3) by decide +kernel) (pc' := 44) rfl (by decide +kernel) ?_
  refine N_arr (ty := .int) (q := 2001) (k' := 70) (s' := 36070) (show decode (mB 118) 44 = .ok (.newarray .int, 2) by decide +kernel) (pc' := 46) rfl rfl (by decide +kernel) (by decide +kernel) (by decide) rfl (by decide +kernel) rfl ?_
  refine N_put (ci := 13) (f := 5) (m' := 70) (show decode (mB 118) 46 = .ok (.putfield 24, 3) by decide +kernel) (pc' := 49) rfl (by decide +kernel) (by decide +kernel) (by decide +kernel) (by decide +kernel) rfl (by decide +kernel) ?_
  refine X_aload_n (q := 0) (show decode (mB 118) 49 = .ok (.aload_n 0, 1) by decide +kernel) (pc' := 50) rfl rfl rfl ?_
  refine N_new (ci := 12) (k' := 71) (s' := 36076) (show decode (mB 118) 50 = .ok (.new 27, 3) by decide +kernel) (pc' := 53) rfl (by decide +kernel) rfl (by decide +kernel) (by decide +kernel) rfl ?_
  refine X_dup (show decode (mB 118) 53 = .ok (.dup, 1) by decide +kernel) (pc' := 54) rfl rfl ?_
  refine X_callP (a := 70) (y := 117) (n := 0) (rest := [.ref 71, .ref 65]) (as := [.ref 71]) (ls0 := [.ref 71]) (show decode (mB 118) 54 = .ok (.invokespecial 29, 3) by decide +kernel) (pc' := 57) rfl (by decide +kernel) (by decide +kernel) (by decide +kernel) rfl rfl rfl rfl rfl rfl ?_
  refine X_aload_n (q := 0) (show decode (mB 117) 0 = .ok (.aload_n 0, 1) by decide +kernel) (pc' := 1) rfl rfl rfl ?_
  refine X_oinit (show decode (mB 117) 1 = .ok (.invokespecial 3, 3) by decide +kernel) (pc' := 4) rfl (by decide +kernel) ⟨by decide, by omega, by decide⟩ ?_
  refine X_aload_n (q := 0) (show decode (mB 117) 4 = .ok (.aload_n 0, 1) by decide +kernel) (pc' := 5) rfl rfl rfl ?_
  refine X_sipush (v := 2000) (show decode (mB 117) 5 = .ok (.sipush 2000, 3) by decide +kernel) (pc' := 8) rfl (by decide +kernel) ?_
  refine N_arr (ty := .int) (q := 2000) (k' := 72) (s' := 38076) (show decode (mB 117) 8 = .ok (.newarray .int, 2) by decide +kernel) (pc' := 10) rfl rfl (by decide +kernel) (by decide +kernel) (by decide) rfl (by decide +kernel) rfl ?_
  refine N_put (ci := 12) (f := 0) (m' := 71) (show decode (mB 117) 10 = .ok (.putfield 9, 3) by decide +kernel) (pc' := 13) rfl (by decide +kernel) (by decide +kernel) (by decide +kernel) (by decide +kernel) rfl (by decide +kernel) ?_
  refine X_aload_n (q := 0) (show decode (mB 117) 13 = .ok (.aload_n 0, 1) by decide +kernel) (pc' := 14) rfl rfl rfl ?_
  refine X_sipush (v := 2000) (show decode (mB 117) 14 = .ok (.sipush 2000, 3) by decide +kernel) (pc' := 17) rfl (by decide +kernel) ?_
  refine N_arr (ty := .int) (q := 2000) (k' := 73) (s' := 40076) (show decode (mB 117) 17 = .ok (.newarray .int, 2) by decide +kernel) (pc' := 19) rfl rfl (by decide +kernel) (by decide +kernel) (by decide) rfl (by decide +kernel) rfl ?_
  refine N_put (ci := 12) (f := 1) (m' := 72) (show decode (mB 117) 19 = .ok (.putfield 15, 3) by decide +kernel) (pc' := 22) rfl (by decide +kernel) (by decide +kernel) (by decide +kernel) (by decide +kernel) rfl (by decide +kernel) ?_
  refine X_aload_n (q := 0) (show decode (mB 117) 22 = .ok (.aload_n 0, 1) by decide +kernel) (pc' := 23) rfl rfl rfl ?_
  refine X_sipush (v := 2000) (show decode (mB 117) 23 = .ok (.sipush 2000, 3) by decide +kernel) (pc' := 26) rfl (by decide +kernel) ?_
  refine N_arr (ty := .int) (q := 2000) (k' := 74) (s' := 42076) (show decode (mB 117) 26 = .ok (.newarray .int, 2) by decide +kernel) (pc' := 28) rfl rfl (by decide +kernel) (by decide +kernel) (by decide) rfl (by decide +kernel) rfl ?_
  refine N_put (ci := 12) (f := 2) (m' := 73) (show decode (mB 117) 28 = .ok (.putfield 18, 3) by decide +kernel) (pc' := 31) rfl (by decide +kernel) (by decide +kernel) (by decide +kernel) (by decide +kernel) rfl (by decide +kernel) ?_
  refine X_aload_n (q := 0) (show decode (mB 117) 31 = .ok (.aload_n 0, 1) by decide +kernel) (pc' := 32) rfl rfl rfl ?_
  refine X_sipush (v := 2000) (show decode (mB 117) 32 = .ok (.sipush 2000, 3) by decide +kernel) (pc' := 35) rfl (by decide +kernel) ?_
  refine N_arr (ty := .long) (q := 2000) (k' := 75) (s' := 44076) (show decode (mB 117) 35 = .ok (.newarray .long, 2) by decide +kernel) (pc' := 37) rfl rfl (by decide +kernel) (by decide +kernel) (by decide) rfl (by decide +kernel) rfl ?_
  refine N_put (ci := 12) (f := 3) (m' := 74) (show decode (mB 117) 37 = .ok (.putfield 21, 3) by decide +kernel) (pc' := 40) rfl (by decide +kernel) (by decide +kernel) (by decide +kernel) (by decide +kernel) rfl (by decide +kernel) ?_
  refine X_aload_n (q := 0) (show decode (mB 117) 40 = .ok (.aload_n 0, 1) by decide +kernel) (pc' := 41) rfl rfl rfl ?_
  refine X_sipush (v := 2000) (show decode (mB 117) 41 = .ok (.sipush 2000, 3) by decide +kernel) (pc' := 44) rfl (by decide +kernel) ?_
  refine N_arr (ty := .int) (q := 2000) (k' := 76) (s' := 46076) (show decode (mB 117) 44 = .ok (.newarray .int, 2) by decide +kernel) (pc' := 46) rfl rfl (by decide +kernel) (by decide +kernel) (by decide) rfl (by decide +kernel) rfl ?_
  refine N_put (ci := 12) (f := 4) (m' := 75) (show decode (mB 117) 46 = .ok (.putfield 25, 3) by decide +kernel) (pc' := 49) rfl (by decide +kernel) (by decide +kernel) (by decide +kernel) (by decide +kernel) rfl (by decide +kernel) ?_
  refine X_return (show decode (mB 117) 49 = .ok (.return_, 1) by decide +kernel) rfl ?_
  show X xs L 1999 118 57 [.ref 65] [.ref 71, .ref 65] (HH 76 75 46076) _
  exact k
theorem lc_9 (k : X xs L 1999 118 79 [.ref 65] [.ref 83, .ref 65] (HH 87 86 56247) Q) : X xs L 1999 118 57 [.ref 65] [.ref 71, .ref 65] (HH 76 75 46076) Q := by
  refine N_put (ci := 13) (f := 9) (m' := 76) (show decode (mB 118) 57 = .ok (.putfield 30, 3) by decide +kernel) (pc' := 60) rfl (by decide +kernel) (by decide +kernel) (by decide +kernel) (by decide +kernel) rfl (by decide +kernel) ?_
  refine X_aload_n (q := 0) (show decode (mB 118) 60 = .ok (.aload_n 0, 1) by decide +kernel) (pc' := 61) rfl rfl rfl ?_
  refine N_new (ci := 12) (k' := 77) (s' := 46082) (show decode (mB 118) 61 = .ok (.new 27, 3) by decide +kernel) (pc' := 64) rfl (by decide +kernel) rfl (by decide +kernel) (by decide +kernel) rfl ?_
  refine X_dup (show decode (mB 118) 64 = .ok (.dup, 1) by decide +kernel) (pc' := 65) rfl rfl ?_
  refine X_callP (a := 76) (y := 117) (n := 0) (rest := [.ref 77, .ref 65]) (as := [.ref 77]) (ls0 := [.ref 77]) (show decode (mB 118) 65 = .ok (.invokespecial 29, 3) by decide +kernel) (pc' := 68) rfl (by decide +kernel) (by decide +kernel) (by decide +kernel) rfl rfl rfl rfl rfl rfl ?_
  refine X_aload_n (q := 0) (show decode (mB 117) 0 = .ok (.aload_n 0, 1) by decide +kernel) (pc' := 1) rfl rfl rfl ?_
  refine X_oinit (show decode (mB 117) 1 = .ok (.invokespecial 3, 3) by decide +kernel) (pc' := 4) rfl (by decide +kernel) ⟨by decide, by omega, by decide⟩ ?_
  refine X_aload_n (q := 0) (show decode (mB 117) 4 = .ok (.aload_n 0, 1) by decide +kernel) (pc' := 5) rfl rfl rfl ?_
  refine X_sipush (v := 2000) (show decode (mB 117) 5 = .ok (.sipush 2000, 3) by decide +kernel) (pc' := 8) rfl (by decide +kernel) ?_
  refine N_arr (ty := .int) (q := 2000) (k' := 78) (s' := 48082) (show decode (mB 117) 8 = .ok (.newarray .int, 2) by decide +kernel) (pc' := 10) rfl rfl (by decide +kernel) (by decide +kernel) (by decide) rfl (by decide +kernel) rfl ?_
  refine N_put (ci := 12) (f := 0) (m' := 77) (show decode (mB 117) 10 = .ok (.putfield 9, 3) by decide +kernel) (pc' := 13) rfl (by decide +kernel) (by decide +kernel) (by decide +kernel) (by decide +kernel) rfl (by decide +kernel) ?_
  refine X_aload_n (q := 0) (show decode (mB 117) 13 = .ok (.aload_n 0, 1) by decide +kernel) (pc' := 14) rfl rfl rfl ?_
  refine X_sipush (v := 2000) (show decode (mB 117) 14 = .ok (.sipush 2000, 3) by decide +kernel) (pc' := 17) rfl (by decide +kernel) ?_
  refine N_arr (ty := .int) (q := 2000) (k' := 79) (s' := 50082) (show decode (mB 117) 17 = .ok (.newarray .int, 2) by decide +kernel) (pc' := 19) rfl rfl (by decide +kernel) (by decide +kernel) (by decide) rfl (by decide +kernel) rfl ?_
  refine N_put (ci := 12) (f := 1) (m' := 78) (show decode (mB 117) 19 = .ok (.putfield 15, 3) by decide +kernel) (pc' := 22) rfl (by decide +kernel) (by decide +kernel) (by decide +kernel) (by decide +kernel) rfl (by decide +kernel) ?_
  refine X_aload_n (q := 0) (show decode (mB 117) 22 = .ok (.aload_n 0, 1) by decide +kernel) (pc' := 23) rfl rfl rfl ?_
  refine X_sipush (v := 2000) (show decode (mB 117) 23 = .ok (.sipush 2000, 3) by decide +kernel) (pc' := 26) rfl (by decide +kernel) ?_
  refine N_arr (ty := .int) (q := 2000) (k' := 80) (s' := 52082) (show decode (mB 117) 26 = .ok (.newarray .int, 2) by decide +kernel) (pc' := 28) rfl rfl (by decide +kernel) (by decide +kernel) (by decide) rfl (by decide +kernel) rfl ?_
  refine N_put (ci := 12) (f := 2) (m' := 79) (show decode (mB 117) 28 = .ok (.putfield 18, 3) by decide +kernel) (pc' := 31) rfl (by decide +kernel) (by decide +kernel) (by decide +kernel) (by decide +kernel) rfl (by decide +kernel) ?_
  refine X_aload_n (q := 0) (show decode (mB 117) 31 = .ok (.aload_n 0, 1) by decide +kernel) (pc' := 32) rfl rfl rfl ?_
  refine X_sipush (v := 2000) (show decode (mB 117) 32 = .ok (.sipush 2000, 3) by decide +kernel) (pc' := 35) rfl (by decide +kernel) ?_
  refine N_arr (ty := .long) (q := 2000) (k' := 81) (s' := 54082) (show decode (mB 117) 35 = .ok (.newarray .long, 2) by decide +kernel) (pc' := 37) rfl rfl (by decide +kernel) (by decide +kernel) (by decide) rfl (by decide +kernel) rfl ?_
  refine N_put (ci := 12) (f := 3) (m' := 80) (show decode (mB 117) 37 = .ok (.putfield 21, 3) by decide +kernel) (pc' := 40) rfl (by decide +kernel) (by decide +kernel) (by decide +kernel) (by decide +kernel) rfl (by decide +kernel) ?_
  refine X_aload_n (q := 0) (show decode (mB 117) 40 = .ok (.aload_n 0, 1) by decide +kernel) (pc' := 41) rfl rfl rfl ?_
  refine X_sipush (v := 2000) (show decode (mB 117) 41 = .ok (.sipush 2000, 3) by decide +kernel) (pc' := 44) rfl (by decide +kernel) ?_
  refine N_arr (ty := .int) (q := 2000) (k' := 82) (s' := 56082) (show decode (mB 117) 44 = .ok (.newarray .int, 2) by decide +kernel) (pc' := 46) rfl rfl (by decide +kernel) (by decide +kernel) (by decide) rfl (by decide +kernel) rfl ?_
  refine N_put (ci := 12) (f := 4) (m' := 81) (show decode (mB 117) 46 = .ok (.putfield 25, 3) by decide +kernel) (pc' := 49) rfl (by decide +kernel) (by decide +kernel) (by decide +kernel) (by decide +kernel) rfl (by decide +kernel) ?_
  refine X_return (show decode (mB 117) 49 = .ok (.return_, 1) by decide +kernel) rfl ?_
  show X xs L 1999 118 68 [.ref 65] [.ref 77, .ref 65] (HH 82 81 56082) _
  refine N_put (ci := 13) (f := 10) (m' := 82) (show decode (mB 118) 68 = .ok (.putfield 34, 3) by decide +kernel) (pc' := 71) rfl (by decide +kernel) (by decide +kernel) (by decide +kernel) (by decide +kernel) rfl (by decide +kernel) ?_
  refine X_aload_n (q := 0) (show decode (mB 118) 71 = .ok (.aload_n 0, 1) by decide +kernel) (pc' := 72) rfl rfl rfl ?_
  refine N_new (ci := 11) (k' := 83) (s' := 56087) (show decode (mB 118) 72 = .ok (.new 37, 3) by decide +kernel) (pc' := 75) rfl (by decide +kernel) rfl (by decide +kernel) (by decide +kernel) rfl ?_
  refine X_dup (show decode (mB 118) 75 = .ok (.dup, 1) by decide +kernel) (pc' := 76) rfl rfl ?_
  refine X_callP (a := 82) (y := 116) (n := 0) (rest := [.ref 83, .ref 65]) (as := [.ref 83]) (ls0 := [.ref 83]) (show decode (mB 118) 76 = .ok (.invokespecial 39, 3) by decide +kernel) (pc' := 79) rfl (by decide +kernel) (by decide +kernel) (by decide +kernel) rfl rfl rfl rfl rfl rfl ?_
  refine X_aload_n (q := 0) (show decode (mB 116) 0 = .ok (.aload_n 0, 1) by decide +kernel) (pc' := 1) rfl rfl rfl ?_
  refine X_oinit (show decode (mB 116) 1 = .ok (.invokespecial 3, 3) by decide +kernel) (pc' := 4) rfl (by decide +kernel) ⟨by decide, by omega, by decide⟩ ?_
  refine X_aload_n (q := 0) (show decode (mB 116) 4 = .ok (.aload_n 0, 1) by decide +kernel) (pc' := 5) rfl rfl rfl ?_
  refine X_bipush (v := 40) (show decode (mB 116) 5 = .ok (.bipush 40, 2) by decide +kernel) (pc' := 7) rfl (by decide +kernel) ?_
  refine N_arr (ty := .long) (q := 40) (k' := 84) (s' := 56127) (show decode (mB 116) 7 = .ok (.newarray .long, 2) by decide +kernel) (pc' := 9) rfl rfl (by decide +kernel) (by decide +kernel) (by decide) rfl (by decide +kernel) rfl ?_
  refine N_put (ci := 11) (f := 0) (m' := 83) (show decode (mB 116) 9 = .ok (.putfield 9, 3) by decide +kernel) (pc' := 12) rfl (by decide +kernel) (by decide +kernel) (by decide +kernel) (by decide +kernel) rfl (by decide +kernel) ?_
  refine X_aload_n (q := 0) (show decode (mB 116) 12 = .ok (.aload_n 0, 1) by decide +kernel) (pc' := 13) rfl rfl rfl ?_
  refine X_bipush (v := 40) (show decode (mB 116) 13 = .ok (.bipush 40, 2) by decide +kernel) (pc' := 15) rfl (by decide +kernel) ?_
  refine N_arr (ty := .int) (q := 40) (k' := 85) (s' := 56167) (show decode (mB 116) 15 = .ok (.newarray .int, 2) by decide +kernel) (pc' := 17) rfl rfl (by decide +kernel) (by decide +kernel) (by decide) rfl (by decide +kernel) rfl ?_
  refine N_put (ci := 11) (f := 1) (m' := 84) (show decode (mB 116) 17 = .ok (.putfield 15, 3) by decide +kernel) (pc' := 20) rfl (by decide +kernel) (by decide +kernel) (by decide +kernel) (by decide +kernel) rfl (by decide +kernel) ?_
  refine X_aload_n (q := 0) (show decode (mB 116) 20 = .ok (.aload_n 0, 1) by decide +kernel) (pc' := 21) rfl rfl rfl ?_
  refine X_bipush (v := 40) (show decode (mB 116) 21 = .ok (.bipush 40, 2) by decide +kernel) (pc' := 23) rfl (by decide +kernel) ?_
  refine N_arr (ty := .int) (q := 40) (k' := 86) (s' := 56207) (show decode (mB 116) 23 = .ok (.newarray .int, 2) by decide +kernel) (pc' := 25) rfl rfl (by decide +kernel) (by decide +kernel) (by decide) rfl (by decide +kernel) rfl ?_
  refine N_put (ci := 11) (f := 2) (m' := 85) (show decode (mB 116) 25 = .ok (.putfield 19, 3) by decide +kernel) (pc' := 28) rfl (by decide +kernel) (by decide +kernel) (by decide +kernel) (by decide +kernel) rfl (by decide +kernel) ?_
  refine X_aload_n (q := 0) (show decode (mB 116) 28 = .ok (.aload_n 0, 1) by decide +kernel) (pc' := 29) rfl rfl rfl ?_
  refine X_bipush (v := 40) (show decode (mB 116) 29 = .ok (.bipush 40, 2) by decide +kernel) (pc' := 31) rfl (by decide +kernel) ?_
  refine N_arr (ty := .int) (q := 40) (k' := 87) (s' := 56247) (show decode (mB 116) 31 = .ok (.newarray .int, 2) by decide +kernel) (pc' := 33) rfl rfl (by decide +kernel) (by decide +kernel) (by decide) rfl (by decide +kernel) rfl ?_
  refine N_put (ci := 11) (f := 3) (m' := 86) (show decode (mB 116) 33 = .ok (.putfield 22, 3) by decide +kernel) (pc' := 36) rfl (by decide +kernel) (by decide +kernel) (by decide +kernel) (by decide +kernel) rfl (by decide +kernel) ?_
  refine X_return (show decode (mB 116) 36 = .ok (.return_, 1) by decide +kernel) rfl ?_
  show X xs L 1999 118 79 [.ref 65] [.ref 83, .ref 65] (HH 87 86 56247) _
  exact k
theorem lc_10 (k : X xs L 1999 118 101 [.ref 65] [.ref 93, .ref 65] (HH 99 98 56671) Q) : X xs L 1999 118 79 [.ref 65] [.ref 83, .ref 65] (HH 87 86 56247) Q := by
  refine N_put (ci := 13) (f := 11) (m' := 87) (show decode (mB 118) 79 = .ok (.putfield 40, 3) by decide +kernel) (pc' := 82) rfl (by decide +kernel) (by decide +kernel) (by decide +kernel) (by decide +kernel) rfl (by decide +kernel) ?_
  refine X_aload_n (q := 0) (show decode (mB 118) 82 = .ok (.aload_n 0, 1) by decide +kernel) (pc' := 83) rfl rfl rfl ?_
  refine N_new (ci := 11) (k' := 88) (s' := 56252) (show decode (mB 118) 83 = .ok (.new 37, 3) by decide +kernel) (pc' := 86) rfl (by decide +kernel) rfl (by decide +kernel) (by decide +kernel) rfl ?_
  refine X_dup (show decode (mB 118) 86 = .ok (.dup, 1) by decide +kernel) (pc' := 87) rfl rfl ?_
  refine X_callP (a := 87) (y := 116) (n := 0) (rest := [.ref 88, .ref 65]) (as := [.ref 88]) (ls0 := [.ref 88]) (show decode (mB 118) 87 = .ok (.invokespecial 39, 3) by decide +kernel) (pc' := 90) rfl (by decide +kernel) (by decide +kernel) (by decide +kernel) rfl rfl rfl rfl rfl rfl ?_
  refine X_aload_n (q := 0) (show decode (mB 116) 0 = .ok (.aload_n 0, 1) by decide +kernel) (pc' := 1) rfl rfl rfl ?_
  refine X_oinit (show decode (mB 116) 1 = .ok (.invokespecial 3, 3) by decide +kernel) (pc' := 4) rfl (by decide +kernel) ⟨by decide, by omega, by decide⟩ ?_
  refine X_aload_n (q := 0) (show decode (mB 116) 4 = .ok (.aload_n 0, 1) by decide +kernel) (pc' := 5) rfl rfl rfl ?_
  refine X_bipush (v := 40) (show decode (mB 116) 5 = .ok (.bipush 40, 2) by decide +kernel) (pc' := 7) rfl (by decide +kernel) ?_
  refine N_arr (ty := .long) (q := 40) (k' := 89) (s' := 56292) (show decode (mB 116) 7 = .ok (.newarray .long, 2) by decide +kernel) (pc' := 9) rfl rfl (by decide +kernel) (by decide +kernel) (by decide) rfl (by decide +kernel) rfl ?_
  refine N_put (ci := 11) (f := 0) (m' := 88) (show decode (mB 116) 9 = .ok (.putfield 9, 3) by decide +kernel) (pc' := 12) rfl (by decide +kernel) (by decide +kernel) (by decide +kernel) (by decide +kernel) rfl (by decide +kernel) ?_
  refine X_aload_n (q := 0) (show decode (mB 116) 12 = .ok (.aload_n 0, 1) by decide +kernel) (pc' := 13) rfl rfl rfl ?_
  refine X_bipush (v := 40) (show decode (mB 116) 13 = .ok (.bipush 40, 2) by decide +kernel) (pc' := 15) rfl (by decide +kernel) ?_
  refine N_arr (ty := .int) (q := 40) (k' := 90) (s' := 56332) (show decode (mB 116) 15 = .ok (.newarray .int, 2) by decide +kernel) (pc' := 17) rfl rfl (by decide +kernel) (by decide +kernel) (by decide) rfl (by decide +kernel) rfl ?_
  refine N_put (ci := 11) (f := 1) (m' := 89) (show decode (mB 116) 17 = .ok (.putfield 15, 3) by decide +kernel) (pc' := 20) rfl (by decide +kernel) (by decide +kernel) (by decide +kernel) (by decide +kernel) rfl (by decide +kernel) ?_
  refine X_aload_n (q := 0) (show decode (mB 116) 20 = .ok (.aload_n 0, 1) by decide +kernel) (pc' := 21) rfl rfl rfl ?_
  refine X_bipush (v := 40) (show decode (mB 116) 21 = .ok (.bipush 40, 2) by decide +kernel) (pc' := 23) rfl (by decide +kernel) ?_
  refine N_arr (ty := .int) (q := 40) (k' := 91) (s' := 56372) (show decode (mB 116) 23 = .ok (.newarray .int, 2) by decide +kernel) (pc' := 25) rfl rfl (by decide +kernel) (by decide +kernel) (by decide) rfl (by decide +kernel) rfl ?_
  refine N_put (ci := 11) (f := 2) (m' := 90) (show decode (mB 116) 25 = .ok (.putfield 19, 3) by decide +kernel) (pc' := 28) rfl (by decide +kernel) (by decide +kernel) (by decide +kernel) (by decide +kernel) rfl (by decide +kernel) ?_
  refine X_aload_n (q := 0) (show decode (mB 116) 28 = .ok (.aload_n 0, 1) by decide +kernel) (pc' := 29) rfl rfl rfl ?_
  refine X_bipush (v := 40) (show decode (mB 116) 29 = .ok (.bipush 40, 2) by decide +kernel) (pc' := 31) rfl (by decide +kernel) ?_
  refine N_arr (ty := .int) (q := 40) (k' := 92) (s' := 56412) (show decode (mB 116) 31 = .ok (.newarray .int, 2) by decide +kernel) (pc' := 33) rfl rfl (by decide +kernel) (by decide +kernel) (by decide) rfl (by decide +kernel) rfl ?_
  refine N_put (ci := 11) (f := 3) (m' := 91) (show decode (mB 116) 33 = .ok (.putfield 22, 3) by decide +kernel) (pc' := 36) rfl (by decide +kernel) (by decide +kernel) (by decide +kernel) (by decide +kernel) rfl (by decide +kernel) ?_
  refine X_return (show decode (mB 116) 36 = .ok (.return_, 1) by decide +kernel) rfl ?_
  show X xs L 1999 118 90 [.ref 65] [.ref 88, .ref 65] (HH 92 91 56412) _
  refine N_put (ci := 13) (f := 12) (m' := 92) (show decode (mB 118) 90 = .ok (.putfield 44, 3) by decide +kernel) (pc' := 93) rfl (by decide +kernel) (by decide +kernel) (by decide +kernel) (by decide +kernel) rfl (by decide +kernel) ?_
  refine X_aload_n (q := 0) (show decode (mB 118) 93 = .ok (.aload_n 0, 1) by decide +kernel) (pc' := 94) rfl rfl rfl ?_
  refine N_new (ci := 10) (k' := 93) (s' := 56422) (show decode (mB 118) 94 = .ok (.new 47, 3) by decide +kernel) (pc' := 97) rfl (by decide +kernel) rfl (by decide +kernel) (by decide +kernel) rfl ?_
  refine X_dup (show decode (mB 118) 97 = .ok (.dup, 1) by decide +kernel) (pc' := 98) rfl rfl ?_
  refine X_callP (a := 92) (y := 115) (n := 0) (rest := [.ref 93, .ref 65]) (as := [.ref 93]) (ls0 := [.ref 93]) (show decode (mB 118) 98 = .ok (.invokespecial 49, 3) by decide +kernel) (pc' := 101) rfl (by decide +kernel) (by decide +kernel) (by decide +kernel) rfl rfl rfl rfl rfl rfl ?_
  refine X_aload_n (q := 0) (show decode (mB 115) 0 = .ok (.aload_n 0, 1) by decide +kernel) (pc' := 1) rfl rfl rfl ?_
  refine X_oinit (show decode (mB 115) 1 = .ok (.invokespecial 3, 3) by decide +kernel) (pc' := 4) rfl (by decide +kernel) ⟨by decide, by omega, by decide⟩ ?_
  refine X_aload_n (q := 0) (show decode (mB 115) 4 = .ok (.aload_n 0, 1) by decide +kernel) (pc' := 5) rfl rfl rfl ?_
  refine X_bipush (v := 48) (show decode (mB 115) 5 = .ok (.bipush 48, 2) by decide +kernel) (pc' := 7) rfl (by decide +kernel) ?_
  refine N_arr (ty := .int) (q := 48) (k' := 94) (s' := 56470) (show decode (mB 115) 7 = .ok (.newarray .int, 2) by decide +kernel) (pc' := 9) rfl rfl (by decide +kernel) (by decide +kernel) (by decide) rfl (by decide +kernel) rfl ?_
  refine N_put (ci := 10) (f := 0) (m' := 93) (show decode (mB 115) 9 = .ok (.putfield 9, 3) by decide +kernel) (pc' := 12) rfl (by decide +kernel) (by decide +kernel) (by decide +kernel) (by decide +kernel) rfl (by decide +kernel) ?_
  refine X_aload_n (q := 0) (show decode (mB 115) 12 = .ok (.aload_n 0, 1) by decide +kernel) (pc' := 13) rfl rfl rfl ?_
  refine X_bipush (v := 48) (show decode (mB 115) 13 = .ok (.bipush 48, 2) by decide +kernel) (pc' := 15) rfl (by decide +kernel) ?_
  refine N_arr (ty := .int) (q := 48) (k' := 95) (s' := 56518) (show decode (mB 115) 15 = .ok (.newarray .int, 2) by decide +kernel) (pc' := 17) rfl rfl (by decide +kernel) (by decide +kernel) (by decide) rfl (by decide +kernel) rfl ?_
  refine N_put (ci := 10) (f := 1) (m' := 94) (show decode (mB 115) 17 = .ok (.putfield 15, 3) by decide +kernel) (pc' := 20) rfl (by decide +kernel) (by decide +kernel) (by decide +kernel) (by decide +kernel) rfl (by decide +kernel) ?_
  refine X_aload_n (q := 0) (show decode (mB 115) 20 = .ok (.aload_n 0, 1) by decide +kernel) (pc' := 21) rfl rfl rfl ?_
  refine X_bipush (v := 48) (show decode (mB 115) 21 = .ok (.bipush 48, 2) by decide +kernel) (pc' := 23) rfl (by decide +kernel) ?_
  refine N_arr (ty := .int) (q := 48) (k' := 96) (s' := 56566) (show decode (mB 115) 23 = .ok (.newarray .int, 2) by decide +kernel) (pc' := 25) rfl rfl (by decide +kernel) (by decide +kernel) (by decide) rfl (by decide +kernel) rfl ?_
  refine N_put (ci := 10) (f := 2) (m' := 95) (show decode (mB 115) 25 = .ok (.putfield 18, 3) by decide +kernel) (pc' := 28) rfl (by decide +kernel) (by decide +kernel) (by decide +kernel) (by decide +kernel) rfl (by decide +kernel) ?_
  refine X_aload_n (q := 0) (show decode (mB 115) 28 = .ok (.aload_n 0, 1) by decide +kernel) (pc' := 29) rfl rfl rfl ?_
  refine X_bipush (v := 48) (show decode (mB 115) 29 = .ok (.bipush 48, 2) by decide +kernel) (pc' := 31) rfl (by decide +kernel) ?_
  refine N_arr (ty := .int) (q := 48) (k' := 97) (s' := 56614) (show decode (mB 115) 31 = .ok (.newarray .int, 2) by decide +kernel) (pc' := 33) rfl rfl (by decide +kernel) (by decide +kernel) (by decide) rfl (by decide +kernel) rfl ?_
  refine N_put (ci := 10) (f := 3) (m' := 96) (show decode (mB 115) 33 = .ok (.putfield 21, 3) by decide +kernel) (pc' := 36) rfl (by decide +kernel) (by decide +kernel) (by decide +kernel) (by decide +kernel) rfl (by decide +kernel) ?_
  refine X_aload_n (q := 0) (show decode (mB 115) 36 = .ok (.aload_n 0, 1) by decide +kernel) (pc' := 37) rfl rfl rfl ?_
  refine X_bipush (v := 48) (show decode (mB 115) 37 = .ok (.bipush 48, 2) by decide +kernel) (pc' := 39) rfl (by decide +kernel) ?_
  refine N_arr (ty := .int) (q := 48) (k' := 98) (s' := 56662) (show decode (mB 115) 39 = .ok (.newarray .int, 2) by decide +kernel) (pc' := 41) rfl rfl (by decide +kernel) (by decide +kernel) (by decide) rfl (by decide +kernel) rfl ?_
  refine N_put (ci := 10) (f := 4) (m' := 97) (show decode (mB 115) 41 = .ok (.putfield 24, 3) by decide +kernel) (pc' := 44) rfl (by decide +kernel) (by decide +kernel) (by decide +kernel) (by decide +kernel) rfl (by decide +kernel) ?_
  refine X_aload_n (q := 0) (show decode (mB 115) 44 = .ok (.aload_n 0, 1) by decide +kernel) (pc' := 45) rfl rfl rfl ?_
  refine X_bipush (v := 9) (show decode (mB 115) 45 = .ok (.bipush 9, 2) by decide +kernel) (pc' := 47) rfl (by decide +kernel) ?_
  refine N_arr (ty := .long) (q := 9) (k' := 99) (s' := 56671) (show decode (mB 115) 47 = .ok (.newarray .long, 2) by decide +kernel) (pc' := 49) rfl rfl (by decide +kernel) (by decide +kernel) (by decide) rfl (by decide +kernel) rfl ?_
  refine N_put (ci := 10) (f := 5) (m' := 98) (show decode (mB 115) 49 = .ok (.putfield 27, 3) by decide +kernel) (pc' := 52) rfl (by decide +kernel) (by decide +kernel) (by decide +kernel) (by decide +kernel) rfl (by decide +kernel) ?_
  refine X_return (show decode (mB 115) 52 = .ok (.return_, 1) by decide +kernel) rfl ?_
  show X xs L 1999 118 101 [.ref 65] [.ref 93, .ref 65] (HH 99 98 56671) _
  exact k
theorem lc_11 (k : X xs L 1999 118 123 [.ref 65] [.ref 106, .ref 65] (HH 111 110 76683) Q) : X xs L 1999 118 101 [.ref 65] [.ref 93, .ref 65] (HH 99 98 56671) Q := by
  refine N_put (ci := 13) (f := 14) (m' := 99) (show decode (mB 118) 101 = .ok (.putfield 50, 3) by decide +kernel) (pc' := 104) rfl (by decide +kernel) (by decide +kernel) (by decide +kernel) (by decide +kernel) rfl (by decide +kernel) ?_
  refine X_aload_n (q := 0) (show decode (mB 118) 104 = .ok (.aload_n 0, 1) by decide +kernel) (pc' := 105) rfl rfl rfl ?_
  refine N_new (ci := 12) (k' := 100) (s' := 56677) (show decode (mB 118) 105 = .ok (.new 27, 3) by decide +kernel) (pc' := 108) rfl (by decide +kernel) rfl (by decide +kernel) (by decide +kernel) rfl ?_
  refine X_dup (show decode (mB 118) 108 = .ok (.dup, 1) by decide +kernel) (pc' := 109) rfl rfl ?_
  refine X_callP (a := 99) (y := 117) (n := 0) (rest := [.ref 100, .ref 65]) (as := [.ref 100]) (ls0 := [.ref 100]) (show decode (mB 118) 109 = .ok (.invokespecial 29, 3) by decide +kernel) (pc' := 112) rfl (by decide +kernel) (by decide +kernel) (by decide +kernel) rfl rfl rfl rfl rfl rfl ?_
  refine X_aload_n (q := 0) (show decode (mB 117) 0 = .ok (.aload_n 0, 1) by decide +kernel) (pc' := 1) rfl rfl rfl ?_
  refine X_oinit (show decode (mB 117) 1 = .ok (.invokespecial 3, 3) by decide +kernel) (pc' := 4) rfl (by decide +kernel) ⟨by decide, by omega, by decide⟩ ?_
  refine X_aload_n (q := 0) (show decode (mB 117) 4 = .ok (.aload_n 0, 1) by decide +kernel) (pc' := 5) rfl rfl rfl ?_
  refine X_sipush (v := 2000) (show decode (mB 117) 5 = .ok (.sipush 2000, 3) by decide +kernel) (pc' := 8) rfl (by decide +kernel) ?_
  refine N_arr (ty := .int) (q := 2000) (k' := 101) (s' := 58677) (show decode (mB 117) 8 = .ok (.newarray .int, 2) by decide +kernel) (pc' := 10) rfl rfl (by decide +kernel) (by decide +kernel) (by decide) rfl (by decide +kernel) rfl ?_
  refine N_put (ci := 12) (f := 0) (m' := 100) (show decode (mB 117) 10 = .ok (.putfield 9, 3) by decide +kernel) (pc' := 13) rfl (by decide +kernel) (by decide +kernel) (by decide +kernel) (by decide +kernel) rfl (by decide +kernel) ?_
  refine X_aload_n (q := 0) (show decode (mB 117) 13 = .ok (.aload_n 0, 1) by decide +kernel) (pc' := 14) rfl rfl rfl ?_
  refine X_sipush (v := 2000) (show decode (mB 117) 14 = .ok (.sipush 2000, 3) by decide +kernel) (pc' := 17) rfl (by decide +kernel) ?_
  refine N_arr (ty := .int) (q := 2000) (k' := 102) (s' := 60677) (show decode (mB 117) 17 = .ok (.newarray .int, 2) by decide +kernel) (pc' := 19) rfl rfl (by decide +kernel) (by decide +kernel) (by decide) rfl (by decide +kernel) rfl ?_
  refine N_put (ci := 12) (f := 1) (m' := 101) (show decode (mB 117) 19 = .ok (.putfield 15, 3) by decide +kernel) (pc' := 22) rfl (by decide +kernel) (by decide +kernel) (by decide +kernel) (by decide +kernel) rfl (by decide +kernel) ?_
  refine X_aload_n (q := 0) (show decode (mB 117) 22 = .ok (.aload_n 0, 1) by decide +kernel) (pc' := 23) rfl rfl rfl ?_
  refine X_sipush (v := 2000) (show decode (mB 117) 23 = .ok (.sipush 2000, 3) by decide +kernel) (pc' := 26) rfl (by decide +kernel) ?_
  refine N_arr (ty := .int) (q := 2000) (k' := 103) (s' := 62677) (show decode (mB 117) 26 = .ok (.newarray .int, 2) by decide +kernel) (pc' := 28) rfl rfl (by decide +kernel) (by decide +kernel) (by decide) rfl (by decide +kernel) rfl ?_
  refine N_put (ci := 12) (f := 2) (m' := 102) (show decode (mB 117) 28 = .ok (.putfield 18, 3) by decide +kernel) (pc' := 31) rfl (by decide +kernel) (by decide +kernel) (by decide +kernel) (by decide +kernel) rfl (by decide +kernel) ?_
  refine X_aload_n (q := 0) (show decode (mB 117) 31 = .ok (.aload_n 0, 1) by decide +kernel) (pc' := 32) rfl rfl rfl ?_
  refine X_sipush (v := 2000) (show decode (mB 117) 32 = .ok (.sipush 2000, 3) by decide +kernel) (pc' := 35) rfl (by decide +kernel) ?_
  refine N_arr (ty := .long) (q := 2000) (k' := 104) (s' := 64677) (show decode (mB 117) 35 = .ok (.newarray .long, 2) by decide +kernel) (pc' := 37) rfl rfl (by decide +kernel) (by decide +kernel) (by decide) rfl (by decide +kernel) rfl ?_
  refine N_put (ci := 12) (f := 3) (m' := 103) (show decode (mB 117) 37 = .ok (.putfield 21, 3) by decide +kernel) (pc' := 40) rfl (by decide +kernel) (by decide +kernel) (by decide +kernel) (by decide +kernel) rfl (by decide +kernel) ?_
  refine X_aload_n (q := 0) (show decode (mB 117) 40 = .ok (.aload_n 0, 1) by decide +kernel) (pc' := 41) rfl rfl rfl ?_
  refine X_sipush (v := 2000) (show decode (mB 117) 41 = .ok (.sipush 2000, 3) by decide +kernel) (pc' := 44) rfl (by decide +kernel) ?_
  refine N_arr (ty := .int) (q := 2000) (k' := 105) (s' := 66677) (show decode (mB 117) 44 = .ok (.newarray .int, 2) by decide +kernel) (pc' := 46) rfl rfl (by decide +kernel) (by decide +kernel) (by decide) rfl (by decide +kernel) rfl ?_
  refine N_put (ci := 12) (f := 4) (m' := 104) (show decode (mB 117) 46 = .ok (.putfield 25, 3) by decide +kernel) (pc' := 49) rfl (by decide +kernel) (by decide +kernel) (by decide +kernel) (by decide +kernel) rfl (by decide +kernel) ?_
  refine X_return (show decode (mB 117) 49 = .ok (.return_, 1) by decide +kernel) rfl ?_
  show X xs L 1999 118 112 [.ref 65] [.ref 100, .ref 65] (HH 105 104 66677) _
  refine N_put (ci := 13) (f := 15) (m' := 105) (show decode (mB 118) 112 = .ok (.putfield 54, 3) by decide +kernel) (pc' := 115) rfl (by decide +kernel) (by decide +kernel) (by decide +kernel) (by decide +kernel) rfl (by decide +kernel) ?_
  refine X_aload_n (q := 0) (show decode (mB 118) 115 = .ok (.aload_n 0, 1) by decide +kernel) (pc' := 116) rfl rfl rfl ?_
  refine N_new (ci := 12) (k' := 106) (s' := 66683) (show decode (mB 118) 116 = .ok (.new 27, 3) by decide +kernel) (pc' := 119) rfl (by decide +kernel) rfl (by decide +kernel) (by decide +kernel) rfl ?_
  refine X_dup (show decode (mB 118) 119 = .ok (.dup, 1) by decide +kernel) (pc' := 120) rfl rfl ?_
  refine X_callP (a := 105) (y := 117) (n := 0) (rest := [.ref 106, .ref 65]) (as := [.ref 106]) (ls0 := [.ref 106]) (show decode (mB 118) 120 = .ok (.invokespecial 29, 3) by decide +kernel) (pc' := 123) rfl (by decide +kernel) (by decide +kernel) (by decide +kernel) rfl rfl rfl rfl rfl rfl ?_
  refine X_aload_n (q := 0) (show decode (mB 117) 0 = .ok (.aload_n 0, 1) by decide +kernel) (pc' := 1) rfl rfl rfl ?_
  refine X_oinit (show decode (mB 117) 1 = .ok (.invokespecial 3, 3) by decide +kernel) (pc' := 4) rfl (by decide +kernel) ⟨by decide, by omega, by decide⟩ ?_
  refine X_aload_n (q := 0) (show decode (mB 117) 4 = .ok (.aload_n 0, 1) by decide +kernel) (pc' := 5) rfl rfl rfl ?_
  refine X_sipush (v := 2000) (show decode (mB 117) 5 = .ok (.sipush 2000, 3) by decide +kernel) (pc' := 8) rfl (by decide +kernel) ?_
  refine N_arr (ty := .int) (q := 2000) (k' := 107) (s' := 68683) (show decode (mB 117) 8 = .ok (.newarray .int, 2) by decide +kernel) (pc' := 10) rfl rfl (by decide +kernel) (by decide +kernel) (by decide) rfl (by decide +kernel) rfl ?_
  refine N_put (ci := 12) (f := 0) (m' := 106) (show decode (mB 117) 10 = .ok (.putfield 9, 3) by decide +kernel) (pc' := 13) rfl (by decide +kernel) (by decide +kernel) (by decide +kernel) (by decide +kernel) rfl (by decide +kernel) ?_
  refine X_aload_n (q := 0) (show decode (mB 117) 13 = .ok (.aload_n 0, 1) by decide +kernel) (pc' := 14) rfl rfl rfl ?_
  refine X_sipush (v := 2000) (show decode (mB 117) 14 = .ok (.sipush 2000, 3) by decide +kernel) (pc' := 17) rfl (by decide +kernel) ?_
  refine N_arr (ty := .int) (q := 2000) (k' := 108) (s' := 70683) (show decode (mB 117) 17 = .ok (.newarray .int, 2) by decide +kernel) (pc' := 19) rfl rfl (by decide +kernel) (by decide +kernel) (by decide) rfl (by decide +kernel) rfl ?_
  refine N_put (ci := 12) (f := 1) (m' := 107) (show decode (mB 117) 19 = .ok (.putfield 15, 3) by decide +kernel) (pc' := 22) rfl (by decide +kernel) (by decide +kernel) (by decide +kernel) (by decide +kernel) rfl (by decide +kernel) ?_
  refine X_aload_n (q := 0) (show decode (mB 117) 22 = .ok (.aload_n 0, 1) by decide +kernel) (pc' := 23) rfl rfl rfl ?_
  refine X_sipush (v := 2000) (show decode (mB 117) 23 = .ok (.sipush 2000, 3) by decide +kernel) (pc' := 26) rfl (by decide +kernel) ?_
  refine N_arr (ty := .int) (q := 2000) (k' := 109) (s' := 72683) (show decode (mB 117) 26 = .ok (.newarray .int, 2) by decide +kernel) (pc' := 28) rfl rfl (by decide +kernel) (by decide +kernel) (by decide) rfl (by decide +kernel) rfl ?_
  refine N_put (ci := 12) (f := 2) (m' := 108) (show decode (mB 117) 28 = .ok (.putfield 18, 3) by decide +kernel) (pc' := 31) rfl (by decide +kernel) (by decide +kernel) (by decide +kernel) (by decide +kernel) rfl (by decide +kernel) ?_
  refine X_aload_n (q := 0) (show decode (mB 117) 31 = .ok (.aload_n 0, 1) by decide +kernel) (pc' := 32) rfl rfl rfl ?_
  refine X_sipush (v := 2000) (show decode (mB 117) 32 = .ok (.sipush 2000, 3) by decide +kernel) (pc' := 35) rfl (by decide +kernel) ?_
  refine N_arr (ty := .long) (q := 2000) (k' := 110) (s' := 74683) (show decode (mB 117) 35 = .ok (.newarray .long, 2) by decide +kernel) (pc' := 37) rfl rfl (by decide +kernel) (by decide +kernel) (by decide) rfl (by decide +kernel) rfl ?_
  refine N_put (ci := 12) (f := 3) (m' := 109) (show decode (mB 117) 37 = .ok (.putfield 21, 3) by decide +kernel) (pc' := 40) rfl (by decide +kernel) (by decide +kernel) (by decide +kernel) (by decide +kernel) rfl (by decide +kernel) ?_
  refine X_aload_n (q := 0) (show decode (mB 117) 40 = .ok (.aload_n 0, 1) by decide +kernel) (pc' := 41) rfl rfl rfl ?_
  refine X_sipush (v := 2000) (show decode (mB 117) 41 = .ok (.sipush 2000, 3) by decide +kernel) (pc' := 44) rfl (by decide +kernel) ?_
  refine N_arr (ty := .int) (q := 2000) (k' := 111) (s' := 76683) (show decode (mB 117) 44 = .ok (.newarray .int, 2) by decide +kernel) (pc' := 46) rfl rfl (by decide +kernel) (by decide +kernel) (by decide) rfl (by decide +kernel) rfl ?_
  refine N_put (ci := 12) (f := 4) (m' := 110) (show decode (mB 117) 46 = .ok (.putfield 25, 3) by decide +kernel) (pc' := 49) rfl (by decide +kernel) (by decide +kernel) (by decide +kernel) (by decide +kernel) rfl (by decide +kernel) ?_
  refine X_return (show decode (mB 117) 49 = .ok (.return_, 1) by decide +kernel) rfl ?_
  show X xs L 1999 118 123 [.ref 65] [.ref 106, .ref 65] (HH 111 110 76683) _
  exact k
theorem lc_12 (k : X xs L 1999 118 186 [.ref 65] [] (HH 118 118 324571) Q) : X xs L 1999 118 123 [.ref 65] [.ref 106, .ref 65] (HH 111 110 76683) Q := by
  refine N_put (ci := 13) (f := 16) (m' := 111) (show decode (mB 118) 123 = .ok (.putfield 57, 3) by decide +kernel) (pc' := 126) rfl (by decide +kernel) (by decide +kernel) (by decide +kernel) (by decide +kernel) rfl (by decide +kernel) ?_
  refine X_aload_n (q := 0) (show decode (mB 118) 126 = .ok (.aload_n 0, 1) by decide +kernel) (pc' := 127) rfl rfl rfl ?_
  refine X_ldc (v := 245760) (show decode (mB 118) 127 = .ok (.ldc 60, 2) by decide +kernel) (pc' := 129) rfl (by decide +kernel) ?_
  refine N_arr (ty := .byte) (q := 245760) (k' := 112) (s' := 322443) (show decode (mB 118) 129 = .ok (.newarray .byte, 2) by decide +kernel) (pc' := 131) rfl rfl (by decide +kernel) (by decide +kernel) (by decide) rfl (by decide +kernel) rfl ?_
  refine N_put (ci := 13) (f := 23) (m' := 112) (show decode (mB 118) 131 = .ok (.putfield 61, 3) by decide +kernel) (pc' := 134) rfl (by decide +kernel) (by decide +kernel) (by decide +kernel) (by decide +kernel) rfl (by decide +kernel) ?_
  refine X_aload_n (q := 0) (show decode (mB 118) 134 = .ok (.aload_n 0, 1) by decide +kernel) (pc' := 135) rfl rfl rfl ?_
  refine X_sipush (v := 512) (show decode (mB 118) 135 = .ok (.sipush 512, 3) by decide +kernel) (pc' := 138) rfl (by decide +kernel) ?_
  refine N_arr (ty := .boolean) (q := 512) (k' := 113) (s' := 322955) (show decode (mB 118) 138 = .ok (.newarray .boolean, 2) by decide +kernel) (pc' := 140) rfl rfl (by decide +kernel) (by decide +kernel) (by decide) rfl (by decide +kernel) rfl ?_
  refine N_put (ci := 13) (f := 24) (m' := 113) (show decode (mB 118) 140 = .ok (.putfield 64, 3) by decide +kernel) (pc' := 143) rfl (by decide +kernel) (by decide +kernel) (by decide +kernel) (by decide +kernel) rfl (by decide +kernel) ?_
  refine X_aload_n (q := 0) (show decode (mB 118) 143 = .ok (.aload_n 0, 1) by decide +kernel) (pc' := 144) rfl rfl rfl ?_
  refine X_sipush (v := 512) (show decode (mB 118) 144 = .ok (.sipush 512, 3) by decide +kernel) (pc' := 147) rfl (by decide +kernel) ?_
  refine N_arr (ty := .boolean) (q := 512) (k' := 114) (s' := 323467) (show decode (mB 118) 147 = .ok (.newarray .boolean, 2) by decide +kernel) (pc' := 149) rfl rfl (by decide +kernel) (by decide +kernel) (by decide) rfl (by decide +kernel) rfl ?_
  refine N_put (ci := 13) (f := 25) (m' := 114) (show decode (mB 118) 149 = .ok (.putfield 68, 3) by decide +kernel) (pc' := 152) rfl (by decide +kernel) (by decide +kernel) (by decide +kernel) (by decide +kernel) rfl (by decide +kernel) ?_
  refine X_aload_n (q := 0) (show decode (mB 118) 152 = .ok (.aload_n 0, 1) by decide +kernel) (pc' := 153) rfl rfl rfl ?_
  refine X_sipush (v := 512) (show decode (mB 118) 153 = .ok (.sipush 512, 3) by decide +kernel) (pc' := 156) rfl (by decide +kernel) ?_
  refine N_arr (ty := .int) (q := 512) (k' := 115) (s' := 323979) (show decode (mB 118) 156 = .ok (.newarray .int, 2) by decide +kernel) (pc' := 158) rfl rfl (by decide +kernel) (by decide +kernel) (by decide) rfl (by decide +kernel) rfl ?_
  refine N_put (ci := 13) (f := 26) (m' := 115) (show decode (mB 118) 158 = .ok (.putfield 71, 3) by decide +kernel) (pc' := 161) rfl (by decide +kernel) (by decide +kernel) (by decide +kernel) (by decide +kernel) rfl (by decide +kernel) ?_
  refine X_aload_n (q := 0) (show decode (mB 118) 161 = .ok (.aload_n 0, 1) by decide +kernel) (pc' := 162) rfl rfl rfl ?_
  refine X_sipush (v := 512) (show decode (mB 118) 162 = .ok (.sipush 512, 3) by decide +kernel) (pc' := 165) rfl (by decide +kernel) ?_
  refine N_arr (ty := .int) (q := 512) (k' := 116) (s' := 324491) (show decode (mB 118) 165 = .ok (.newarray .int, 2) by decide +kernel) (pc' := 167) rfl rfl (by decide +kernel) (by decide +kernel) (by decide) rfl (by decide +kernel) rfl ?_
  refine N_put (ci := 13) (f := 27) (m' := 116) (show decode (mB 118) 167 = .ok (.putfield 74, 3) by decide +kernel) (pc' := 170) rfl (by decide +kernel) (by decide +kernel) (by decide +kernel) (by decide +kernel) rfl (by decide +kernel) ?_
  refine X_aload_n (q := 0) (show decode (mB 118) 170 = .ok (.aload_n 0, 1) by decide +kernel) (pc' := 171) rfl rfl rfl ?_
  refine X_bipush (v := 40) (show decode (mB 118) 171 = .ok (.bipush 40, 2) by decide +kernel) (pc' := 173) rfl (by decide +kernel) ?_
  refine N_arr (ty := .boolean) (q := 40) (k' := 117) (s' := 324531) (show decode (mB 118) 173 = .ok (.newarray .boolean, 2) by decide +kernel) (pc' := 175) rfl rfl (by decide +kernel) (by decide +kernel) (by decide) rfl (by decide +kernel) rfl ?_
  refine N_put (ci := 13) (f := 28) (m' := 117) (show decode (mB 118) 175 = .ok (.putfield 77, 3) by decide +kernel) (pc' := 178) rfl (by decide +kernel) (by decide +kernel) (by decide +kernel) (by decide +kernel) rfl (by decide +kernel) ?_
  refine X_aload_n (q := 0) (show decode (mB 118) 178 = .ok (.aload_n 0, 1) by decide +kernel) (pc' := 179) rfl rfl rfl ?_
  refine X_bipush (v := 40) (show decode (mB 118) 179 = .ok (.bipush 40, 2) by decide +kernel) (pc' := 181) rfl (by decide +kernel) ?_
  refine N_arr (ty := .boolean) (q := 40) (k' := 118) (s' := 324571) (show decode (mB 118) 181 = .ok (.newarray .boolean, 2) by decide +kernel) (pc' := 183) rfl rfl (by decide +kernel) (by decide +kernel) (by decide) rfl (by decide +kernel) rfl ?_
  refine N_put (ci := 13) (f := 30) (m' := 118) (show decode (mB 118) 183 = .ok (.putfield 80, 3) by decide +kernel) (pc' := 186) rfl (by decide +kernel) (by decide +kernel) (by decide +kernel) (by decide +kernel) rfl (by decide +kernel) ?_
  exact k
end LCS
theorem law_start {xs : Nat → Int32} {L : Nat} {Q : Option (Option Value) → MH → Prop} (k : X xs L 2000 168 18 [.retAddr 0, .ref 1, .ref 65, .int 0] [] (HH 118 118 324571) Q) : X xs L 2000 168 0 [.retAddr 0, .null, .null, .null] [] (HH 0 0 0) Q := by
  refine N_new (ci := 9) (k' := 1) (s' := 9) (show decode (mB 168) 0 = .ok (.new 7, 3) by decide +kernel) (pc' := 3) rfl (by decide +kernel) rfl (by decide +kernel) (by decide +kernel) rfl ?_
  refine X_dup (show decode (mB 168) 3 = .ok (.dup, 1) by decide +kernel) (pc' := 4) rfl rfl ?_
  refine X_callP (a := 0) (y := 101) (n := 0) (rest := [.ref 1]) (as := [.ref 1]) (ls0 := [.ref 1, .null]) (show decode (mB 168) 4 = .ok (.invokespecial 9, 3) by decide +kernel) (pc' := 7) rfl (by decide +kernel) (by decide +kernel) (by decide +kernel) rfl rfl rfl rfl rfl rfl ?_
  refine lc_0 ?_
  refine lc_1 ?_
  refine lc_2 ?_
  refine lc_3 ?_
  refine lc_4 ?_
  refine lc_5 ?_
  refine lc_6 ?_
  refine lc_7 ?_
  refine X_return (show decode (mB 101) 111 = .ok (.return_, 1) by decide +kernel) rfl ?_
  show X xs L 2000 168 7 [.retAddr 0, .null, .null, .null] [.ref 1] (HH 64 65 26035) _
  refine X_astore_n (q := 1) (ls' := [.retAddr 0, .ref 1, .null, .null]) (show decode (mB 168) 7 = .ok (.astore_n 1, 1) by decide +kernel) (pc' := 8) rfl rfl rfl ?_
  refine N_new (ci := 13) (k' := 65) (s' := 26066) (show decode (mB 168) 8 = .ok (.new 10, 3) by decide +kernel) (pc' := 11) rfl (by decide +kernel) rfl (by decide +kernel) (by decide +kernel) rfl ?_
  refine X_dup (show decode (mB 168) 11 = .ok (.dup, 1) by decide +kernel) (pc' := 12) rfl rfl ?_
  refine X_callP (a := 64) (y := 118) (n := 0) (rest := [.ref 65]) (as := [.ref 65]) (ls0 := [.ref 65]) (show decode (mB 168) 12 = .ok (.invokespecial 12, 3) by decide +kernel) (pc' := 15) rfl (by decide +kernel) (by decide +kernel) (by decide +kernel) rfl rfl rfl rfl rfl rfl ?_
  refine lc_8 ?_
  refine lc_9 ?_
  refine lc_10 ?_
  refine lc_11 ?_
  refine lc_12 ?_
  refine X_return (show decode (mB 118) 186 = .ok (.return_, 1) by decide +kernel) rfl ?_
  show X xs L 2000 168 15 [.retAddr 0, .ref 1, .null, .null] [.ref 65] (HH 118 118 324571) _
  refine X_astore_n (q := 2) (ls' := [.retAddr 0, .ref 1, .ref 65, .null]) (show decode (mB 168) 15 = .ok (.astore_n 2, 1) by decide +kernel) (pc' := 16) rfl rfl rfl ?_
  refine X_iconst (v := 0) (show decode (mB 168) 16 = .ok (.iconst 0, 1) by decide +kernel) (pc' := 17) rfl rfl ?_
  refine X_istore_n (q := 3) (ls' := [.retAddr 0, .ref 1, .ref 65, .int 0]) (show decode (mB 168) 17 = .ok (.istore_n 3, 1) by decide +kernel) (pc' := 18) rfl rfl rfl ?_
  exact k
