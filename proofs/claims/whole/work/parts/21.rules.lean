/-! ===== P0: a rule an instruction ===== -/
section RULES
variable {xs : Nat → Int32} {L d j pc pc' : Nat} {ls st ls' : List Value} {M : MH} {Q : Option (Option Value) → MH → Prop} {S : Nat → Shp} {I : Nat → Nat → Int32} {J : Nat → Nat → Int64} {R : Nat → Nat → Nat} {c : Nat × Nat}
theorem X_iconst {n : Int} {v : Int32} (hd : decode (mB j) pc = .ok (.iconst n, 1)) (hp : pc + 1 = pc') (hv : Int32.ofInt n = v) (k : X xs L d j pc' ls (.int v :: st) M Q) : X xs L d j pc ls st M Q := by
  subst hp
  subst hv
  exact X_A hd rfl rfl k
theorem X_bipush {n : Int} {v : Int32} (hd : decode (mB j) pc = .ok (.bipush n, 2)) (hp : pc + 2 = pc') (hv : (Int8.ofInt n).toInt32 = v) (k : X xs L d j pc' ls (.int v :: st) M Q) : X xs L d j pc ls st M Q := by
  subst hp
  subst hv
  exact X_A hd rfl rfl k
theorem X_sipush {n : Int} {v : Int32} (hd : decode (mB j) pc = .ok (.sipush n, 3)) (hp : pc + 3 = pc') (hv : (Int16.ofInt n).toInt32 = v) (k : X xs L d j pc' ls (.int v :: st) M Q) : X xs L d j pc ls st M Q := by
  subst hp
  subst hv
  exact X_A hd rfl rfl k
theorem X_lconst {n : Fin 2} {v : Int64} (hd : decode (mB j) pc = .ok (.lconst n, 1)) (hp : pc + 1 = pc') (hv : Int64.ofNat (n : Nat) = v) (k : X xs L d j pc' ls (.long v :: st) M Q) : X xs L d j pc ls st M Q := by
  subst hp
  subst hv
  exact X_A hd rfl rfl k
theorem X_null  (hd : decode (mB j) pc = .ok (.aconst_null, 1)) (hp : pc + 1 = pc')  (k : X xs L d j pc' ls (.ref 0 :: st) M Q) : X xs L d j pc ls st M Q := by
  subst hp
  exact X_A hd rfl rfl k
theorem X_ldc {k0 : Nat} {v : Int32} (hd : decode (mB j) pc = .ok (.ldc k0, 2)) (hp : pc + 2 = pc') (hv : kIl (mO j) k0 = some v) (k : X xs L d j pc' ls (.int v :: st) M Q) : X xs L d j pc ls st M Q := by
  subst hp
  exact X_A hd rfl (by simp only [xnA, hv, Option.map_some]) k
theorem X_ldc2 {k0 : Nat} {v : Int64} (hd : decode (mB j) pc = .ok (.ldc2_w k0, 3)) (hp : pc + 3 = pc') (hv : kJl (mO j) k0 = some v) (k : X xs L d j pc' ls (.long v :: st) M Q) : X xs L d j pc ls st M Q := by
  subst hp
  exact X_A hd rfl (by simp only [xnA, hv, Option.map_some]) k
theorem X_iload_n {n : Fin 4} {q : Nat} {x : Int32} (hd : decode (mB j) pc = .ok (.iload_n n, 1)) (hp : pc + 1 = pc') (hn : (n : Nat) = q) (hl : ls[q]? = some (.int x)) (k : X xs L d j pc' ls (.int x :: st) M Q) : X xs L d j pc ls st M Q := by
  subst hp
  exact X_A hd rfl (by simp only [xnA, hn, ldI, hl, Option.map_some]) k
theorem X_iload {q : Nat} {x : Int32} (hd : decode (mB j) pc = .ok (.iload q, 2)) (hp : pc + 2 = pc') (hl : ls[q]? = some (.int x)) (k : X xs L d j pc' ls (.int x :: st) M Q) : X xs L d j pc ls st M Q := by
  subst hp
  exact X_A hd rfl (by simp only [xnA, ldI, hl, Option.map_some]) k
theorem X_lload_n {n : Fin 4} {q : Nat} {x : Int64} (hd : decode (mB j) pc = .ok (.lload_n n, 1)) (hp : pc + 1 = pc') (hn : (n : Nat) = q) (hl : ls[q]? = some (.long x)) (k : X xs L d j pc' ls (.long x :: st) M Q) : X xs L d j pc ls st M Q := by
  subst hp
  exact X_A hd rfl (by simp only [xnA, hn, ldJ, hl, Option.map_some]) k
theorem X_lload {q : Nat} {x : Int64} (hd : decode (mB j) pc = .ok (.lload q, 2)) (hp : pc + 2 = pc') (hl : ls[q]? = some (.long x)) (k : X xs L d j pc' ls (.long x :: st) M Q) : X xs L d j pc ls st M Q := by
  subst hp
  exact X_A hd rfl (by simp only [xnA, ldJ, hl, Option.map_some]) k
theorem X_aload_n {n : Fin 4} {q : Nat} {x : Nat} (hd : decode (mB j) pc = .ok (.aload_n n, 1)) (hp : pc + 1 = pc') (hn : (n : Nat) = q) (hl : ls[q]? = some (.ref x)) (k : X xs L d j pc' ls (.ref x :: st) M Q) : X xs L d j pc ls st M Q := by
  subst hp
  exact X_A hd rfl (by simp only [xnA, hn, ldR, hl, Option.map_some]) k
theorem X_aload {q : Nat} {x : Nat} (hd : decode (mB j) pc = .ok (.aload q, 2)) (hp : pc + 2 = pc') (hl : ls[q]? = some (.ref x)) (k : X xs L d j pc' ls (.ref x :: st) M Q) : X xs L d j pc ls st M Q := by
  subst hp
  exact X_A hd rfl (by simp only [xnA, ldR, hl, Option.map_some]) k
theorem X_eload_n {n : Fin 4} {q : Nat} {x : Nat} (hd : decode (mB j) pc = .ok (.aload_n n, 1)) (hp : pc + 1 = pc') (hn : (n : Nat) = q) (hl : ls[q]? = some (.retAddr x)) (k : X xs L d j pc' ls (.retAddr x :: st) M Q) : X xs L d j pc ls st M Q := by
  subst hp
  exact X_A hd rfl (by simp only [xnA, hn, ldR, hl, Option.map_some]) k
theorem X_eload {q : Nat} {x : Nat} (hd : decode (mB j) pc = .ok (.aload q, 2)) (hp : pc + 2 = pc') (hl : ls[q]? = some (.retAddr x)) (k : X xs L d j pc' ls (.retAddr x :: st) M Q) : X xs L d j pc ls st M Q := by
  subst hp
  exact X_A hd rfl (by simp only [xnA, ldR, hl, Option.map_some]) k
theorem X_istore_n {n : Fin 4} {q : Nat} {x : Int32} (hd : decode (mB j) pc = .ok (.istore_n n, 1)) (hp : pc + 1 = pc') (hn : (n : Nat) = q) (hl : st1 ls q (.int x) = some ls') (k : X xs L d j pc' ls' st M Q) : X xs L d j pc ls (.int x :: st) M Q := by
  subst hp
  exact X_A hd rfl (by simp only [xnA, hn, hl, Option.map_some]) k
theorem X_istore {q : Nat} {x : Int32} (hd : decode (mB j) pc = .ok (.istore q, 2)) (hp : pc + 2 = pc') (hl : st1 ls q (.int x) = some ls') (k : X xs L d j pc' ls' st M Q) : X xs L d j pc ls (.int x :: st) M Q := by
  subst hp
  exact X_A hd rfl (by simp only [xnA, hl, Option.map_some]) k
theorem X_lstore_n {n : Fin 4} {q : Nat} {x : Int64} (hd : decode (mB j) pc = .ok (.lstore_n n, 1)) (hp : pc + 1 = pc') (hn : (n : Nat) = q) (hl : st2 ls q (.long x) = some ls') (k : X xs L d j pc' ls' st M Q) : X xs L d j pc ls (.long x :: st) M Q := by
  subst hp
  exact X_A hd rfl (by simp only [xnA, hn, hl, Option.map_some]) k
theorem X_lstore {q : Nat} {x : Int64} (hd : decode (mB j) pc = .ok (.lstore q, 2)) (hp : pc + 2 = pc') (hl : st2 ls q (.long x) = some ls') (k : X xs L d j pc' ls' st M Q) : X xs L d j pc ls (.long x :: st) M Q := by
  subst hp
  exact X_A hd rfl (by simp only [xnA, hl, Option.map_some]) k
theorem X_astore_n {n : Fin 4} {q x : Nat} (hd : decode (mB j) pc = .ok (.astore_n n, 1)) (hp : pc + 1 = pc') (hn : (n : Nat) = q) (hl : st1 ls q (.ref x) = some ls') (k : X xs L d j pc' ls' st M Q) : X xs L d j pc ls (.ref x :: st) M Q := by
  subst hp
  exact X_A hd rfl (by simp only [xnA, isR, if_true, hn, hl, Option.map_some]) k
theorem X_astore {q x : Nat} (hd : decode (mB j) pc = .ok (.astore q, 2)) (hp : pc + 2 = pc') (hl : st1 ls q (.ref x) = some ls') (k : X xs L d j pc' ls' st M Q) : X xs L d j pc ls (.ref x :: st) M Q := by
  subst hp
  exact X_A hd rfl (by simp only [xnA, isR, if_true, hl, Option.map_some]) k
theorem X_iinc {q : Nat} {n : Int} {x v : Int32} (hd : decode (mB j) pc = .ok (.iinc q n, 3)) (hp : pc + 3 = pc') (hx : ls[q]? = some (.int x)) (hv : x + Int32.ofInt n = v) (hl : ls.set q (.int v) = ls') (k : X xs L d j pc' ls' st M Q) : X xs L d j pc ls st M Q := by
  subst hp
  exact X_A hd rfl (by simp only [xnA, ldI, hx, Option.map_some, hv, hl]) k
theorem X_dup {v : Value} (hd : decode (mB j) pc = .ok (.dup, 1)) (hp : pc + 1 = pc') (hc : v.category = 1) (k : X xs L d j pc' ls (v :: v :: st) M Q) : X xs L d j pc ls (v :: st) M Q := by
  subst hp
  exact X_A hd rfl (by simp only [xnA, hc, if_true]) k
theorem X_dup2 {v w : Value} (hd : decode (mB j) pc = .ok (.dup2, 1)) (hp : pc + 1 = pc') (hc : v.category = 1) (hw : w.category = 1) (k : X xs L d j pc' ls (v :: w :: v :: w :: st) M Q) : X xs L d j pc ls (v :: w :: st) M Q := by
  subst hp
  exact X_A hd rfl (by simp only [xnA, hc, hw, and_self, if_true]) k
theorem X_iadd {x y : Int32} (hd : decode (mB j) pc = .ok (.iadd, 1)) (hp : pc + 1 = pc')  (k : X xs L d j pc' ls (.int (x + y) :: st) M Q) : X xs L d j pc ls (.int y :: .int x :: st) M Q := by
  subst hp
  exact X_A hd rfl rfl k
theorem X_isub {x y : Int32} (hd : decode (mB j) pc = .ok (.isub, 1)) (hp : pc + 1 = pc')  (k : X xs L d j pc' ls (.int (x - y) :: st) M Q) : X xs L d j pc ls (.int y :: .int x :: st) M Q := by
  subst hp
  exact X_A hd rfl rfl k
theorem X_imul {x y : Int32} (hd : decode (mB j) pc = .ok (.imul, 1)) (hp : pc + 1 = pc')  (k : X xs L d j pc' ls (.int (x * y) :: st) M Q) : X xs L d j pc ls (.int y :: .int x :: st) M Q := by
  subst hp
  exact X_A hd rfl rfl k
theorem X_iand {x y : Int32} (hd : decode (mB j) pc = .ok (.iand, 1)) (hp : pc + 1 = pc')  (k : X xs L d j pc' ls (.int (x &&& y) :: st) M Q) : X xs L d j pc ls (.int y :: .int x :: st) M Q := by
  subst hp
  exact X_A hd rfl rfl k
theorem X_ior {x y : Int32} (hd : decode (mB j) pc = .ok (.ior, 1)) (hp : pc + 1 = pc')  (k : X xs L d j pc' ls (.int (x ||| y) :: st) M Q) : X xs L d j pc ls (.int y :: .int x :: st) M Q := by
  subst hp
  exact X_A hd rfl rfl k
theorem X_ixor {x y : Int32} (hd : decode (mB j) pc = .ok (.ixor, 1)) (hp : pc + 1 = pc')  (k : X xs L d j pc' ls (.int (x ^^^ y) :: st) M Q) : X xs L d j pc ls (.int y :: .int x :: st) M Q := by
  subst hp
  exact X_A hd rfl rfl k
theorem X_ishl {x y : Int32} (hd : decode (mB j) pc = .ok (.ishl, 1)) (hp : pc + 1 = pc')  (k : X xs L d j pc' ls (.int (x <<< (y &&& 31)) :: st) M Q) : X xs L d j pc ls (.int y :: .int x :: st) M Q := by
  subst hp
  exact X_A hd rfl rfl k
theorem X_ishr {x y : Int32} (hd : decode (mB j) pc = .ok (.ishr, 1)) (hp : pc + 1 = pc')  (k : X xs L d j pc' ls (.int (x >>> (y &&& 31)) :: st) M Q) : X xs L d j pc ls (.int y :: .int x :: st) M Q := by
  subst hp
  exact X_A hd rfl rfl k
theorem X_idiv {x y : Int32} (hd : decode (mB j) pc = .ok (.idiv, 1)) (hp : pc + 1 = pc') (hy : ¬ y = 0) (k : X xs L d j pc' ls (.int (x / y) :: st) M Q) : X xs L d j pc ls (.int y :: .int x :: st) M Q := by
  subst hp
  exact X_A hd rfl (by simp only [xnA, if_neg hy]) k
theorem X_irem {x y : Int32} (hd : decode (mB j) pc = .ok (.irem, 1)) (hp : pc + 1 = pc') (hy : ¬ y = 0) (k : X xs L d j pc' ls (.int (x - x / y * y) :: st) M Q) : X xs L d j pc ls (.int y :: .int x :: st) M Q := by
  subst hp
  exact X_A hd rfl (by simp only [xnA, if_neg hy]) k
theorem X_ladd {x y : Int64} (hd : decode (mB j) pc = .ok (.ladd, 1)) (hp : pc + 1 = pc')  (k : X xs L d j pc' ls (.long (x + y) :: st) M Q) : X xs L d j pc ls (.long y :: .long x :: st) M Q := by
  subst hp
  exact X_A hd rfl rfl k
theorem X_lsub {x y : Int64} (hd : decode (mB j) pc = .ok (.lsub, 1)) (hp : pc + 1 = pc')  (k : X xs L d j pc' ls (.long (x - y) :: st) M Q) : X xs L d j pc ls (.long y :: .long x :: st) M Q := by
  subst hp
  exact X_A hd rfl rfl k
theorem X_lmul {x y : Int64} (hd : decode (mB j) pc = .ok (.lmul, 1)) (hp : pc + 1 = pc')  (k : X xs L d j pc' ls (.long (x * y) :: st) M Q) : X xs L d j pc ls (.long y :: .long x :: st) M Q := by
  subst hp
  exact X_A hd rfl rfl k
theorem X_land {x y : Int64} (hd : decode (mB j) pc = .ok (.land, 1)) (hp : pc + 1 = pc')  (k : X xs L d j pc' ls (.long (x &&& y) :: st) M Q) : X xs L d j pc ls (.long y :: .long x :: st) M Q := by
  subst hp
  exact X_A hd rfl rfl k
theorem X_lor {x y : Int64} (hd : decode (mB j) pc = .ok (.lor, 1)) (hp : pc + 1 = pc')  (k : X xs L d j pc' ls (.long (x ||| y) :: st) M Q) : X xs L d j pc ls (.long y :: .long x :: st) M Q := by
  subst hp
  exact X_A hd rfl rfl k
theorem X_lxor {x y : Int64} (hd : decode (mB j) pc = .ok (.lxor, 1)) (hp : pc + 1 = pc')  (k : X xs L d j pc' ls (.long (x ^^^ y) :: st) M Q) : X xs L d j pc ls (.long y :: .long x :: st) M Q := by
  subst hp
  exact X_A hd rfl rfl k
theorem X_ineg {x : Int32} (hd : decode (mB j) pc = .ok (.ineg, 1)) (hp : pc + 1 = pc')  (k : X xs L d j pc' ls (.int (-x) :: st) M Q) : X xs L d j pc ls (.int x :: st) M Q := by
  subst hp
  exact X_A hd rfl rfl k
theorem X_lneg {x : Int64} (hd : decode (mB j) pc = .ok (.lneg, 1)) (hp : pc + 1 = pc')  (k : X xs L d j pc' ls (.long (-x) :: st) M Q) : X xs L d j pc ls (.long x :: st) M Q := by
  subst hp
  exact X_A hd rfl rfl k
theorem X_lshl {x : Int64} {y : Int32} (hd : decode (mB j) pc = .ok (.lshl, 1)) (hp : pc + 1 = pc')  (k : X xs L d j pc' ls (.long (x <<< (y.toInt64 &&& 63)) :: st) M Q) : X xs L d j pc ls (.int y :: .long x :: st) M Q := by
  subst hp
  exact X_A hd rfl rfl k
theorem X_lshr {x : Int64} {y : Int32} (hd : decode (mB j) pc = .ok (.lshr, 1)) (hp : pc + 1 = pc')  (k : X xs L d j pc' ls (.long (x >>> (y.toInt64 &&& 63)) :: st) M Q) : X xs L d j pc ls (.int y :: .long x :: st) M Q := by
  subst hp
  exact X_A hd rfl rfl k
theorem X_lushr {x : Int64} {y : Int32} (hd : decode (mB j) pc = .ok (.lushr, 1)) (hp : pc + 1 = pc')  (k : X xs L d j pc' ls (.long ((x.toUInt64 >>> (y.toInt64.toUInt64 &&& Int64.toUInt64 63)).toInt64) :: st) M Q) : X xs L d j pc ls (.int y :: .long x :: st) M Q := by
  subst hp
  exact X_A hd rfl rfl k
theorem X_i2l {x : Int32} (hd : decode (mB j) pc = .ok (.i2l, 1)) (hp : pc + 1 = pc')  (k : X xs L d j pc' ls (.long x.toInt64 :: st) M Q) : X xs L d j pc ls (.int x :: st) M Q := by
  subst hp
  exact X_A hd rfl rfl k
theorem X_l2i {x : Int64} (hd : decode (mB j) pc = .ok (.l2i, 1)) (hp : pc + 1 = pc')  (k : X xs L d j pc' ls (.int x.toInt32 :: st) M Q) : X xs L d j pc ls (.long x :: st) M Q := by
  subst hp
  exact X_A hd rfl rfl k
theorem X_i2b {x : Int32} (hd : decode (mB j) pc = .ok (.i2b, 1)) (hp : pc + 1 = pc')  (k : X xs L d j pc' ls (.int x.toInt8.toInt32 :: st) M Q) : X xs L d j pc ls (.int x :: st) M Q := by
  subst hp
  exact X_A hd rfl rfl k
theorem X_lcmp {x y : Int64} (hd : decode (mB j) pc = .ok (.lcmp, 1)) (hp : pc + 1 = pc')  (k : X xs L d j pc' ls (.int (lg_cmp x y) :: st) M Q) : X xs L d j pc ls (.long y :: .long x :: st) M Q := by
  subst hp
  exact X_A hd rfl rfl k
theorem X_goto {off : Int} {tgt : Nat} (hd : decode (mB j) pc = .ok (.goto off, 3)) (ht : tg pc off = some tgt) (k : X xs L d j tgt ls st M Q) : X xs L d j pc ls st M Q := X_B hd rfl rfl (by simp only [xnB, ht, Option.map_some]) k
theorem X_if_eq {x : Int32} {off : Int} {tgt : Nat} (hd : decode (mB j) pc = .ok (.ifCond .eq off, 3)) (ht : tg pc off = some tgt) (hp : pc + 3 = pc') (kt : x = 0 → X xs L d j tgt ls st M Q) (kf : ¬ (x = 0) → X xs L d j pc' ls st M Q) : X xs L d j pc ls (.int x :: st) M Q := by
  subst hp
  by_cases hc : x = 0
  · exact X_B hd rfl rfl (by simp only [xnB, ht, Option.map_some]; rw [if_pos (show cnd .eq x 0 = true from decide_eq_true hc)]) (kt hc)
  · exact X_B hd rfl rfl (by simp only [xnB, ht, Option.map_some]; rw [if_neg (show ¬ cnd .eq x 0 = true from fun q => hc (of_decide_eq_true q))]) (kf hc)
theorem X_icmp_eq {x y : Int32} {off : Int} {tgt : Nat} (hd : decode (mB j) pc = .ok (.if_icmp .eq off, 3)) (ht : tg pc off = some tgt) (hp : pc + 3 = pc') (kt : x = y → X xs L d j tgt ls st M Q) (kf : ¬ (x = y) → X xs L d j pc' ls st M Q) : X xs L d j pc ls (.int y :: .int x :: st) M Q := by
  subst hp
  by_cases hc : x = y
  · exact X_B hd rfl rfl (by simp only [xnB, ht, Option.map_some]; rw [if_pos (show cnd .eq x y = true from decide_eq_true hc)]) (kt hc)
  · exact X_B hd rfl rfl (by simp only [xnB, ht, Option.map_some]; rw [if_neg (show ¬ cnd .eq x y = true from fun q => hc (of_decide_eq_true q))]) (kf hc)
theorem X_if_ne {x : Int32} {off : Int} {tgt : Nat} (hd : decode (mB j) pc = .ok (.ifCond .ne off, 3)) (ht : tg pc off = some tgt) (hp : pc + 3 = pc') (kt : ¬ x = 0 → X xs L d j tgt ls st M Q) (kf : ¬ (¬ x = 0) → X xs L d j pc' ls st M Q) : X xs L d j pc ls (.int x :: st) M Q := by
  subst hp
  by_cases hc : ¬ x = 0
  · exact X_B hd rfl rfl (by simp only [xnB, ht, Option.map_some]; rw [if_pos (show cnd .ne x 0 = true from decide_eq_true hc)]) (kt hc)
  · exact X_B hd rfl rfl (by simp only [xnB, ht, Option.map_some]; rw [if_neg (show ¬ cnd .ne x 0 = true from fun q => hc (of_decide_eq_true q))]) (kf hc)
theorem X_icmp_ne {x y : Int32} {off : Int} {tgt : Nat} (hd : decode (mB j) pc = .ok (.if_icmp .ne off, 3)) (ht : tg pc off = some tgt) (hp : pc + 3 = pc') (kt : ¬ x = y → X xs L d j tgt ls st M Q) (kf : ¬ (¬ x = y) → X xs L d j pc' ls st M Q) : X xs L d j pc ls (.int y :: .int x :: st) M Q := by
  subst hp
  by_cases hc : ¬ x = y
  · exact X_B hd rfl rfl (by simp only [xnB, ht, Option.map_some]; rw [if_pos (show cnd .ne x y = true from decide_eq_true hc)]) (kt hc)
  · exact X_B hd rfl rfl (by simp only [xnB, ht, Option.map_some]; rw [if_neg (show ¬ cnd .ne x y = true from fun q => hc (of_decide_eq_true q))]) (kf hc)
theorem X_if_lt {x : Int32} {off : Int} {tgt : Nat} (hd : decode (mB j) pc = .ok (.ifCond .lt off, 3)) (ht : tg pc off = some tgt) (hp : pc + 3 = pc') (kt : x < 0 → X xs L d j tgt ls st M Q) (kf : ¬ (x < 0) → X xs L d j pc' ls st M Q) : X xs L d j pc ls (.int x :: st) M Q := by
  subst hp
  by_cases hc : x < 0
  · exact X_B hd rfl rfl (by simp only [xnB, ht, Option.map_some]; rw [if_pos (show cnd .lt x 0 = true from decide_eq_true hc)]) (kt hc)
  · exact X_B hd rfl rfl (by simp only [xnB, ht, Option.map_some]; rw [if_neg (show ¬ cnd .lt x 0 = true from fun q => hc (of_decide_eq_true q))]) (kf hc)
theorem X_icmp_lt {x y : Int32} {off : Int} {tgt : Nat} (hd : decode (mB j) pc = .ok (.if_icmp .lt off, 3)) (ht : tg pc off = some tgt) (hp : pc + 3 = pc') (kt : x < y → X xs L d j tgt ls st M Q) (kf : ¬ (x < y) → X xs L d j pc' ls st M Q) : X xs L d j pc ls (.int y :: .int x :: st) M Q := by
  subst hp
  by_cases hc : x < y
  · exact X_B hd rfl rfl (by simp only [xnB, ht, Option.map_some]; rw [if_pos (show cnd .lt x y = true from decide_eq_true hc)]) (kt hc)
  · exact X_B hd rfl rfl (by simp only [xnB, ht, Option.map_some]; rw [if_neg (show ¬ cnd .lt x y = true from fun q => hc (of_decide_eq_true q))]) (kf hc)
theorem X_if_ge {x : Int32} {off : Int} {tgt : Nat} (hd : decode (mB j) pc = .ok (.ifCond .ge off, 3)) (ht : tg pc off = some tgt) (hp : pc + 3 = pc') (kt : 0 ≤ x → X xs L d j tgt ls st M Q) (kf : ¬ (0 ≤ x) → X xs L d j pc' ls st M Q) : X xs L d j pc ls (.int x :: st) M Q := by
  subst hp
  by_cases hc : 0 ≤ x
  · exact X_B hd rfl rfl (by simp only [xnB, ht, Option.map_some]; rw [if_pos (show cnd .ge x 0 = true from decide_eq_true hc)]) (kt hc)
  · exact X_B hd rfl rfl (by simp only [xnB, ht, Option.map_some]; rw [if_neg (show ¬ cnd .ge x 0 = true from fun q => hc (of_decide_eq_true q))]) (kf hc)
theorem X_icmp_ge {x y : Int32} {off : Int} {tgt : Nat} (hd : decode (mB j) pc = .ok (.if_icmp .ge off, 3)) (ht : tg pc off = some tgt) (hp : pc + 3 = pc') (kt : y ≤ x → X xs L d j tgt ls st M Q) (kf : ¬ (y ≤ x) → X xs L d j pc' ls st M Q) : X xs L d j pc ls (.int y :: .int x :: st) M Q := by
  subst hp
  by_cases hc : y ≤ x
  · exact X_B hd rfl rfl (by simp only [xnB, ht, Option.map_some]; rw [if_pos (show cnd .ge x y = true from decide_eq_true hc)]) (kt hc)
  · exact X_B hd rfl rfl (by simp only [xnB, ht, Option.map_some]; rw [if_neg (show ¬ cnd .ge x y = true from fun q => hc (of_decide_eq_true q))]) (kf hc)
theorem X_if_gt {x : Int32} {off : Int} {tgt : Nat} (hd : decode (mB j) pc = .ok (.ifCond .gt off, 3)) (ht : tg pc off = some tgt) (hp : pc + 3 = pc') (kt : 0 < x → X xs L d j tgt ls st M Q) (kf : ¬ (0 < x) → X xs L d j pc' ls st M Q) : X xs L d j pc ls (.int x :: st) M Q := by
  subst hp
  by_cases hc : 0 < x
  · exact X_B hd rfl rfl (by simp only [xnB, ht, Option.map_some]; rw [if_pos (show cnd .gt x 0 = true from decide_eq_true hc)]) (kt hc)
  · exact X_B hd rfl rfl (by simp only [xnB, ht, Option.map_some]; rw [if_neg (show ¬ cnd .gt x 0 = true from fun q => hc (of_decide_eq_true q))]) (kf hc)
theorem X_icmp_gt {x y : Int32} {off : Int} {tgt : Nat} (hd : decode (mB j) pc = .ok (.if_icmp .gt off, 3)) (ht : tg pc off = some tgt) (hp : pc + 3 = pc') (kt : y < x → X xs L d j tgt ls st M Q) (kf : ¬ (y < x) → X xs L d j pc' ls st M Q) : X xs L d j pc ls (.int y :: .int x :: st) M Q := by
  subst hp
  by_cases hc : y < x
  · exact X_B hd rfl rfl (by simp only [xnB, ht, Option.map_some]; rw [if_pos (show cnd .gt x y = true from decide_eq_true hc)]) (kt hc)
  · exact X_B hd rfl rfl (by simp only [xnB, ht, Option.map_some]; rw [if_neg (show ¬ cnd .gt x y = true from fun q => hc (of_decide_eq_true q))]) (kf hc)
theorem X_if_le {x : Int32} {off : Int} {tgt : Nat} (hd : decode (mB j) pc = .ok (.ifCond .le off, 3)) (ht : tg pc off = some tgt) (hp : pc + 3 = pc') (kt : x ≤ 0 → X xs L d j tgt ls st M Q) (kf : ¬ (x ≤ 0) → X xs L d j pc' ls st M Q) : X xs L d j pc ls (.int x :: st) M Q := by
  subst hp
  by_cases hc : x ≤ 0
  · exact X_B hd rfl rfl (by simp only [xnB, ht, Option.map_some]; rw [if_pos (show cnd .le x 0 = true from decide_eq_true hc)]) (kt hc)
  · exact X_B hd rfl rfl (by simp only [xnB, ht, Option.map_some]; rw [if_neg (show ¬ cnd .le x 0 = true from fun q => hc (of_decide_eq_true q))]) (kf hc)
theorem X_icmp_le {x y : Int32} {off : Int} {tgt : Nat} (hd : decode (mB j) pc = .ok (.if_icmp .le off, 3)) (ht : tg pc off = some tgt) (hp : pc + 3 = pc') (kt : x ≤ y → X xs L d j tgt ls st M Q) (kf : ¬ (x ≤ y) → X xs L d j pc' ls st M Q) : X xs L d j pc ls (.int y :: .int x :: st) M Q := by
  subst hp
  by_cases hc : x ≤ y
  · exact X_B hd rfl rfl (by simp only [xnB, ht, Option.map_some]; rw [if_pos (show cnd .le x y = true from decide_eq_true hc)]) (kt hc)
  · exact X_B hd rfl rfl (by simp only [xnB, ht, Option.map_some]; rw [if_neg (show ¬ cnd .le x y = true from fun q => hc (of_decide_eq_true q))]) (kf hc)
theorem X_ifnull {a : Nat} {off : Int} {tgt : Nat} (hd : decode (mB j) pc = .ok (.ifnull off, 3)) (ht : tg pc off = some tgt) (hp : pc + 3 = pc') (kt : a = 0 → X xs L d j tgt ls st M Q) (kf : ¬ a = 0 → X xs L d j pc' ls st M Q) : X xs L d j pc ls (.ref a :: st) M Q := by
  subst hp
  by_cases hc : a = 0
  · exact X_B hd rfl rfl (by simp only [xnB, if_pos hc, ht, Option.map_some]) (kt hc)
  · exact X_B hd rfl rfl (by simp only [xnB, if_neg hc]) (kf hc)
theorem X_ifnonnull {a : Nat} {off : Int} {tgt : Nat} (hd : decode (mB j) pc = .ok (.ifnonnull off, 3)) (ht : tg pc off = some tgt) (hp : pc + 3 = pc') (kt : ¬ a = 0 → X xs L d j tgt ls st M Q) (kf : a = 0 → X xs L d j pc' ls st M Q) : X xs L d j pc ls (.ref a :: st) M Q := by
  subst hp
  by_cases hc : a = 0
  · exact X_B hd rfl rfl (by simp only [xnB, if_pos hc]) (kf hc)
  · exact X_B hd rfl rfl (by simp only [xnB, if_neg hc, ht, Option.map_some]) (kt hc)
theorem X_sw {i : Instr} {ln tgt : Nat} {x : Int32} (hd : decode (mB j) pc = .ok (i, ln)) (hok : okL i ln = true) (h0 : xnA j i ls (.int x :: st) = none) (h : xnB pc i (.int x :: st) = some (tgt, st)) (k : X xs L d j tgt ls st M Q) : X xs L d j pc ls (.int x :: st) M Q := X_B hd hok h0 h k
def isIF (t : FieldType) : Bool := match t with
  | .int => true
  | .boolean => true
  | _ => false
def isRF (t : FieldType) : Bool := match t with
  | .object _ => true
  | .array _ => true
  | _ => false
theorem X_getI {k0 ci f a : Nat} {x : Int32} (hd : decode (mB j) pc = .ok (.getfield k0, 3)) (hp : pc + 3 = pc') (hs : S a = .inl ci) (hf : fl (mO j) k0 ci = some f) (ht : isIF (tyT ci f) = true) (hx : I a f = x) (k : X xs L d j pc' ls (.int x :: st) (S, I, J, R, c) Q) : X xs L d j pc ls (.ref a :: st) (S, I, J, R, c) Q := by
  subst hp
  subst hx
  have hv : fv (S, I, J, R, c) ci a f = .int (I a f) := by
    unfold fv
    cases hq : tyT ci f <;> rw [hq] at ht <;> first | rfl | cases ht
  exact X_C hd rfl rfl rfl (by simp only [xnC, hs, hf, Option.map_some, hv]) k
theorem X_getJ {k0 ci f a : Nat} {x : Int64} (hd : decode (mB j) pc = .ok (.getfield k0, 3)) (hp : pc + 3 = pc') (hs : S a = .inl ci) (hf : fl (mO j) k0 ci = some f) (ht : tyT ci f = .long) (hx : J a f = x) (k : X xs L d j pc' ls (.long x :: st) (S, I, J, R, c) Q) : X xs L d j pc ls (.ref a :: st) (S, I, J, R, c) Q := by
  subst hp
  subst hx
  exact X_C hd rfl rfl rfl (by simp only [xnC, hs, hf, Option.map_some, fv, ht]) k
theorem X_getR {k0 ci f a q : Nat} (hd : decode (mB j) pc = .ok (.getfield k0, 3)) (hp : pc + 3 = pc') (hs : S a = .inl ci) (hf : fl (mO j) k0 ci = some f) (ht : isRF (tyT ci f) = true) (hr : R a f = q) (k : X xs L d j pc' ls (.ref q :: st) (S, I, J, R, c) Q) : X xs L d j pc ls (.ref a :: st) (S, I, J, R, c) Q := by
  subst hp
  have hv : fv (S, I, J, R, c) ci a f = .ref q := by
    unfold fv
    cases hq : tyT ci f <;> rw [hq] at ht <;> first | (simp only [hr]; done) | cases ht
  exact X_C hd rfl rfl rfl (by simp only [xnC, hs, hf, Option.map_some, hv]) k
theorem X_putI {k0 ci f a : Nat} {x : Int32} (hd : decode (mB j) pc = .ok (.putfield k0, 3)) (hp : pc + 3 = pc') (hs : S a = .inl ci) (hf : fl (mO j) k0 ci = some f) (hok : pfOK j ci f = true) (ht : tyT ci f = .int) (k : X xs L d j pc' ls st (S, u2 I a f x, J, R, c) Q) : X xs L d j pc ls (.int x :: .ref a :: st) (S, I, J, R, c) Q := by
  subst hp
  exact X_C hd rfl rfl rfl (by simp only [xnC, hs, hf, hok, if_true, pf, ht, Option.map_some]; rfl) k
theorem X_putZ {k0 ci f a : Nat} {x : Int32} (hd : decode (mB j) pc = .ok (.putfield k0, 3)) (hp : pc + 3 = pc') (hs : S a = .inl ci) (hf : fl (mO j) k0 ci = some f) (hok : pfOK j ci f = true) (ht : tyT ci f = .boolean) (hx : x = 0 ∨ x = 1) (k : X xs L d j pc' ls st (S, u2 I a f x, J, R, c) Q) : X xs L d j pc ls (.int x :: .ref a :: st) (S, I, J, R, c) Q := by
  subst hp
  exact X_C hd rfl rfl rfl (by simp only [xnC, hs, hf, hok, if_true, pf, ht, if_pos hx, Option.map_some]; rfl) k
theorem X_putJ {k0 ci f a : Nat} {x : Int64} (hd : decode (mB j) pc = .ok (.putfield k0, 3)) (hp : pc + 3 = pc') (hs : S a = .inl ci) (hf : fl (mO j) k0 ci = some f) (hok : pfOK j ci f = true) (ht : tyT ci f = .long) (k : X xs L d j pc' ls st (S, I, u2 J a f x, R, c) Q) : X xs L d j pc ls (.long x :: .ref a :: st) (S, I, J, R, c) Q := by
  subst hp
  exact X_C hd rfl rfl rfl (by simp only [xnC, hs, hf, hok, if_true, pf, ht, Option.map_some]; rfl) k
theorem X_putR {k0 ci f a q : Nat} (hd : decode (mB j) pc = .ok (.putfield k0, 3)) (hp : pc + 3 = pc') (hs : S a = .inl ci) (hf : fl (mO j) k0 ci = some f) (hok : pfOK j ci f = true) (ht : isRF (tyT ci f) = true) (k : X xs L d j pc' ls st (S, I, J, u2 R a f q, c) Q) : X xs L d j pc ls (.ref q :: .ref a :: st) (S, I, J, R, c) Q := by
  subst hp
  have hv : pf (S, I, J, R, c) ci a f (.ref q) = some (S, I, J, u2 R a f q, c) := by
    unfold pf
    cases hq : tyT ci f <;> rw [hq] at ht <;> first | rfl | cases ht
  exact X_C hd rfl rfl rfl (by simp only [xnC, hs, hf, hok, if_true, hv, Option.map_some]) k
theorem X_iaload {a n : Nat} {x : Int32} {w : Int32} (hd : decode (mB j) pc = .ok (.iaload, 1)) (hp : pc + 1 = pc') (hs : S a = .inr (.int, n)) (hin : inb x n = true) (hx : I a x.toNatClampNeg = w) (k : X xs L d j pc' ls (.int w :: st) (S, I, J, R, c) Q) : X xs L d j pc ls (.int x :: .ref a :: st) (S, I, J, R, c) Q := by
  subst hp
  subst hx
  exact X_C hd rfl rfl rfl (by simp only [xnC, hs, hin, if_true]) k
theorem X_saload {x : Int32} (hd : decode (mB j) pc = .ok (.iaload, 1)) (hp : pc + 1 = pc') (hin : inb x L = true) (k : X xs L d j pc' ls (.int (xs x.toNatClampNeg) :: st) (S, I, J, R, c) Q) : X xs L d j pc ls (.int x :: .retAddr 0 :: st) (S, I, J, R, c) Q := by
  subst hp
  exact X_C hd rfl rfl rfl (by simp only [xnC, hin, if_true]) k
theorem X_laload {a n : Nat} {x : Int32} {w : Int64} (hd : decode (mB j) pc = .ok (.laload, 1)) (hp : pc + 1 = pc') (hs : S a = .inr (.long, n)) (hin : inb x n = true) (hx : J a x.toNatClampNeg = w) (k : X xs L d j pc' ls (.long w :: st) (S, I, J, R, c) Q) : X xs L d j pc ls (.int x :: .ref a :: st) (S, I, J, R, c) Q := by
  subst hp
  subst hx
  exact X_C hd rfl rfl rfl (by simp only [xnC, hs, hin, if_true]) k
theorem X_tlaload {e : Nat} {x : Int32} (hd : decode (mB j) pc = .ok (.laload, 1)) (hp : pc + 1 = pc') (hin : inb x (jTab e).length = true) (k : X xs L d j pc' ls (.long ((jTab e).getD x.toNatClampNeg 0) :: st) (S, I, J, R, c) Q) : X xs L d j pc ls (.int x :: .retAddr e :: st) (S, I, J, R, c) Q := by
  subst hp
  exact X_C hd rfl rfl rfl (by simp only [xnC, hin, if_true]) k
theorem X_baload {a n : Nat} {x w : Int32} (hd : decode (mB j) pc = .ok (.baload, 1)) (hp : pc + 1 = pc') (hs : S a = .inr (.byte, n)) (hin : inb x n = true) (hx : I a x.toNatClampNeg = w) (k : X xs L d j pc' ls (.int w :: st) (S, I, J, R, c) Q) : X xs L d j pc ls (.int x :: .ref a :: st) (S, I, J, R, c) Q := by
  subst hp
  subst hx
  exact X_C hd rfl rfl rfl (by simp only [xnC, hs, hin, if_true]) k
theorem X_bastore {a n : Nat} {x v : Int32} (hd : decode (mB j) pc = .ok (.bastore, 1)) (hp : pc + 1 = pc') (hs : S a = .inr (.byte, n)) (hin : inb x n = true) (k : X xs L d j pc' ls st (S, u2 I a x.toNatClampNeg (vp_nar .byte v), J, R, c) Q) : X xs L d j pc ls (.int v :: .int x :: .ref a :: st) (S, I, J, R, c) Q := by
  subst hp
  exact X_C hd rfl rfl rfl (by simp only [xnC, hs, hin, if_true]; rfl) k
theorem X_zaload {a n : Nat} {x w : Int32} (hd : decode (mB j) pc = .ok (.baload, 1)) (hp : pc + 1 = pc') (hs : S a = .inr (.boolean, n)) (hin : inb x n = true) (hx : I a x.toNatClampNeg = w) (k : X xs L d j pc' ls (.int w :: st) (S, I, J, R, c) Q) : X xs L d j pc ls (.int x :: .ref a :: st) (S, I, J, R, c) Q := by
  subst hp
  subst hx
  exact X_C hd rfl rfl rfl (by simp only [xnC, hs, hin, if_true]) k
theorem X_zastore {a n : Nat} {x v : Int32} (hd : decode (mB j) pc = .ok (.bastore, 1)) (hp : pc + 1 = pc') (hs : S a = .inr (.boolean, n)) (hin : inb x n = true) (k : X xs L d j pc' ls st (S, u2 I a x.toNatClampNeg (vp_nar .boolean v), J, R, c) Q) : X xs L d j pc ls (.int v :: .int x :: .ref a :: st) (S, I, J, R, c) Q := by
  subst hp
  exact X_C hd rfl rfl rfl (by simp only [xnC, hs, hin, if_true]; rfl) k
theorem X_iastore {a n : Nat} {x v : Int32} (hd : decode (mB j) pc = .ok (.iastore, 1)) (hp : pc + 1 = pc') (hs : S a = .inr (.int, n)) (hin : inb x n = true) (k : X xs L d j pc' ls st (S, u2 I a x.toNatClampNeg v, J, R, c) Q) : X xs L d j pc ls (.int v :: .int x :: .ref a :: st) (S, I, J, R, c) Q := by
  subst hp
  exact X_C hd rfl rfl rfl (by simp only [xnC, hs, hin, if_true]; rfl) k
theorem X_lastore {a n : Nat} {x : Int32} {v : Int64} (hd : decode (mB j) pc = .ok (.lastore, 1)) (hp : pc + 1 = pc') (hs : S a = .inr (.long, n)) (hin : inb x n = true) (k : X xs L d j pc' ls st (S, I, u2 J a x.toNatClampNeg v, R, c) Q) : X xs L d j pc ls (.long v :: .int x :: .ref a :: st) (S, I, J, R, c) Q := by
  subst hp
  exact X_C hd rfl rfl rfl (by simp only [xnC, hs, hin, if_true]; rfl) k
theorem X_alen {a n : Nat} {ty : FieldType} (hd : decode (mB j) pc = .ok (.arraylength, 1)) (hp : pc + 1 = pc') (hs : S a = .inr (ty, n)) (k : X xs L d j pc' ls (.int (Int32.ofNat n) :: st) (S, I, J, R, c) Q) : X xs L d j pc ls (.ref a :: st) (S, I, J, R, c) Q := by
  subst hp
  exact X_C hd rfl rfl rfl (by simp only [xnC, hs]) k
theorem X_slen  (hd : decode (mB j) pc = .ok (.arraylength, 1)) (hp : pc + 1 = pc')  (k : X xs L d j pc' ls (.int (Int32.ofNat L) :: st) (S, I, J, R, c) Q) : X xs L d j pc ls (.retAddr 0 :: st) (S, I, J, R, c) Q := by
  subst hp
  exact X_C hd rfl rfl rfl rfl k
theorem X_new {k0 ci : Nat} (hd : decode (mB j) pc = .ok (.new k0, 3)) (hp : pc + 3 = pc') (hn : nwl (mO j) k0 = some ci) (k : X xs L d j pc' ls (.ref (M.2.2.2.2.1 + 1) :: st) (newO M ci) Q) : X xs L d j pc ls st M Q := by
  subst hp
  exact X_C hd rfl rfl rfl (by simp only [xnC, hn, Option.map_some]) k
theorem X_newa {aty : ArrayType} {ty : FieldType} {n : Int32} {q : Nat} (hd : decode (mB j) pc = .ok (.newarray aty, 2)) (hp : pc + 2 = pc') (ht : arT aty = some ty) (hn : ¬ n < 0) (hq : n.toNatClampNeg = q) (hq2 : q ≤ 1000000) (k : X xs L d j pc' ls (.ref (M.2.2.2.2.1 + 1) :: st) (newA M ty q) Q) : X xs L d j pc ls (.int n :: st) M Q := by
  subst hp
  subst hq
  exact X_C hd rfl rfl rfl (by simp only [xnC, ht]; rw [if_pos ⟨hn, hq2⟩]) k
theorem X_gets {k0 e : Nat} (hd : decode (mB j) pc = .ok (.getstatic k0, 3)) (hp : pc + 3 = pc') (hg : gsl (mO j) k0 = some e) (k : X xs L d j pc' ls (.retAddr e :: st) M Q) : X xs L d j pc ls st M Q := by
  subst hp
  exact X_C hd rfl rfl rfl (by simp only [xnC, hg, Option.map_some]) k
theorem X_ldcs (hd : decode (mB j) pc = .ok (.ldc 115, 2)) (hp : pc + 2 = pc') (ho : mO j = 14) (k : X xs L d j pc' ls (.retAddr 3 :: st) M Q) : X xs L d j pc ls st M Q := by
  subst hp
  have h0 : xnA j (.ldc 115) ls st = none := by
    simp only [xnA, ho]
    rw [show kIl 14 115 = none by decide +kernel]
    rfl
  exact X_C hd rfl h0 rfl (by simp only [xnC, ho, and_self, if_true]) k
theorem X_indexOf {x : Int32} (hd : decode (mB j) pc = .ok (.invokevirtual 117, 3)) (hp : pc + 3 = pc') (ho : mO j = 14) (h8 : 8 ≤ d) (hw : wt st ≤ 8) (k : X xs L d j pc' ls (.int (ixOf x) :: st) M Q) : X xs L d j pc ls (.int x :: .retAddr 3 :: st) M Q := by
  subst hp
  exact X_C hd rfl rfl rfl (by simp only [xnC, ho, and_self, if_true]; rw [if_pos ⟨h8, hw⟩]) k
theorem X_oinit {k0 a : Nat} (hd : decode (mB j) pc = .ok (.invokespecial k0, 3)) (hp : pc + 3 = pc') (ho : mjO.getD (mO j) 9999 = k0 ∧ k0 ≠ 9999) (ha : a ≠ 0 ∧ 1 ≤ d ∧ wt st ≤ 8) (k : X xs L d j pc' ls st M Q) : X xs L d j pc ls (.ref a :: st) M Q := by
  subst hp
  exact X_C hd rfl rfl rfl (by simp only [xnC, if_pos ho]; rw [if_pos ha]) k
theorem X_max {k0 : Nat} {x y : Int32} (hd : decode (mB j) pc = .ok (.invokestatic k0, 3)) (hp : pc + 3 = pc') (ho : mjMx.any (fun r => r.1 == mO j && r.2.1 == k0) = true) (ha : 1 ≤ d ∧ wt st ≤ 8) (k : X xs L d j pc' ls (.int (if x < y then y else x) :: st) M Q) : X xs L d j pc ls (.int y :: .int x :: st) M Q := by
  subst hp
  exact X_C hd rfl rfl rfl (by simp only [xnC]; rw [if_pos ho, if_pos ha]) k
theorem X_ireturn {x : Int32} {ty : FieldType} (hd : decode (mB j) pc = .ok (.ireturn, 1)) (hr : mR j = some ty) (hn : narrow ty (.int x) = .int x) (k : Q (some (some (.int x))) M) : X xs L d j pc ls [.int x] M Q := X_ret hd rfl rfl rfl rfl (by simp only [rt, hr, hn, if_true]) k
theorem X_lreturn {x : Int64} (hd : decode (mB j) pc = .ok (.lreturn, 1)) (hr : mR j = some .long) (k : Q (some (some (.long x))) M) : X xs L d j pc ls [.long x] M Q := X_ret hd rfl rfl rfl rfl (by simp only [rt, hr, if_true]) k
theorem X_return (hd : decode (mB j) pc = .ok (.return_, 1)) (hr : mR j = none) (k : Q (some none) M) : X xs L d j pc ls [] M Q := X_ret hd rfl rfl rfl rfl (by simp only [rt, hr, if_true]) k
end RULES
