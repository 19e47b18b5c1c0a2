/-! ===== the mini machine ===== -/
/-- what an address is: an object of a class (by its place in mjC), or an array of a type and a length -/
abbrev Shp : Type := Nat ⊕ (FieldType × Nat)
/-- the heap: shapes; int fields and int, byte, boolean arrays; long fields and arrays; references (0 is null); cells made; slots made -/
abbrev MH : Type := (Nat → Shp) × (Nat → Nat → Int32) × (Nat → Nat → Int64) × (Nat → Nat → Nat) × Nat × Nat
def u1 {α : Type} (f : Nat → α) (a : Nat) (v : α) : Nat → α := fun x => if x = a then v else f x
def u2 {α : Type} (f : Nat → Nat → α) (a k : Nat) (v : α) : Nat → Nat → α := u1 f a (u1 (f a) k v)
def fl (o idx ci : Nat) : Option Nat := ((mjF.getD o []).find? (fun r => r.1 == idx && r.2.1 == ci)).map (fun r => r.2.2.1)
def csl (o idx : Nat) : Option Nat := ((mjCs.getD o []).find? (fun r => r.1 == idx)).map (fun r => r.2.1)
def cpl (o idx : Nat) : Option Nat := ((mjCp.getD o []).find? (fun r => r.1 == idx)).map (fun r => r.2.1)
def cvl (o idx ci : Nat) : Option Nat := ((mjCv.getD o []).find? (fun r => r.1 == idx && r.2.1 == ci)).map (fun r => r.2.2.1)
def cvn (o idx : Nat) : Option Nat := ((mjCn.getD o []).find? (fun r => r.1 == idx)).map (fun r => r.2)
def kIl (o idx : Nat) : Option Int32 := ((mjK.getD o []).find? (fun r => r.1 == idx)).map (fun r => r.2.1)
def kJl (o idx : Nat) : Option Int64 := ((mjJ.getD o []).find? (fun r => r.1 == idx)).map (fun r => r.2.1)
def nwl (o idx : Nat) : Option Nat := ((mjW.getD o []).find? (fun r => r.1 == idx)).map (fun r => r.2.1)
def gsl (o idx : Nat) : Option Nat := (mjG.find? (fun r => r.1 == o && r.2.1 == idx)).map (fun r => r.2.2.1)
def ldI (ls : List Value) (n : Nat) : Option Int32 := match ls[n]? with
  | some (.int x) => some x
  | _ => none
def ldJ (ls : List Value) (n : Nat) : Option Int64 := match ls[n]? with
  | some (.long x) => some x
  | _ => none
def ldR (ls : List Value) (n : Nat) : Option Value := match ls[n]? with
  | some (.ref a) => some (.ref a)
  | some (.retAddr a) => some (.retAddr a)
  | _ => none
def klL (ls : List Value) (n : Nat) : List Value := match n with
  | 0 => ls
  | k + 1 => match ls[k]? with
    | some (.int _) => ls
    | some (.ref _) => ls
    | some (.retAddr _) => ls
    | some .null => ls
    | _ => ls.set k .null
def st1 (ls : List Value) (n : Nat) (v : Value) : Option (List Value) := if n < ls.length then some ((klL ls n).set n v) else none
def st2 (ls : List Value) (n : Nat) (v : Value) : Option (List Value) := if n + 1 < ls.length then some (((klL ls n).set n v).set (n + 1) .null) else none
def isR (v : Value) : Bool := match v with
  | .ref _ => true
  | .retAddr _ => true
  | _ => false
/-- constants, locals, the stack, arithmetic: locals, stack -/
def xnA (j : Nat) (i : Instr) (ls st : List Value) : Option (List Value × List Value) := match i with
  | .iconst n => some (ls, .int (Int32.ofInt n) :: st)
  | .bipush n => some (ls, .int (Int8.ofInt n).toInt32 :: st)
  | .sipush n => some (ls, .int (Int16.ofInt n).toInt32 :: st)
  | .lconst n => some (ls, .long (Int64.ofNat (n : Nat)) :: st)
  | .aconst_null => some (ls, .ref 0 :: st)
  | .ldc k => (kIl (mO j) k).map fun v => (ls, .int v :: st)
  | .ldc2_w k => (kJl (mO j) k).map fun v => (ls, .long v :: st)
  | .iload_n n => (ldI ls (n : Nat)).map fun x => (ls, .int x :: st)
  | .iload n => (ldI ls n).map fun x => (ls, .int x :: st)
  | .lload_n n => (ldJ ls (n : Nat)).map fun x => (ls, .long x :: st)
  | .lload n => (ldJ ls n).map fun x => (ls, .long x :: st)
  | .aload_n n => (ldR ls (n : Nat)).map fun x => (ls, x :: st)
  | .aload n => (ldR ls n).map fun x => (ls, x :: st)
  | .istore_n n => match st with
    | .int x :: t => (st1 ls (n : Nat) (.int x)).map fun l => (l, t)
    | _ => none
  | .istore n => match st with
    | .int x :: t => (st1 ls n (.int x)).map fun l => (l, t)
    | _ => none
  | .lstore_n n => match st with
    | .long x :: t => (st2 ls (n : Nat) (.long x)).map fun l => (l, t)
    | _ => none
  | .lstore n => match st with
    | .long x :: t => (st2 ls n (.long x)).map fun l => (l, t)
    | _ => none
  | .astore_n n => match st with
    | v :: t => if isR v then (st1 ls (n : Nat) v).map fun l => (l, t) else none
    | _ => none
  | .astore n => match st with
    | v :: t => if isR v then (st1 ls n v).map fun l => (l, t) else none
    | _ => none
  | .iinc n c => (ldI ls n).map fun x => (ls.set n (.int (x + Int32.ofInt c)), st)
  | .dup => match st with
    | v :: t => if v.category = 1 then some (ls, v :: v :: t) else none
    | _ => none
  | .dup2 => match st with
    | v :: w :: t => if v.category = 1 ∧ w.category = 1 then some (ls, v :: w :: v :: w :: t) else none
    | _ => none
  | .iadd => match st with
    | .int y :: .int x :: t => some (ls, .int (x + y) :: t)
    | _ => none
  | .isub => match st with
    | .int y :: .int x :: t => some (ls, .int (x - y) :: t)
    | _ => none
  | .imul => match st with
    | .int y :: .int x :: t => some (ls, .int (x * y) :: t)
    | _ => none
  | .idiv => match st with
    | .int y :: .int x :: t => if y = 0 then none else some (ls, .int (x / y) :: t)
    | _ => none
  | .irem => match st with
    | .int y :: .int x :: t => if y = 0 then none else some (ls, .int (x - x / y * y) :: t)
    | _ => none
  | .iand => match st with
    | .int y :: .int x :: t => some (ls, .int (x &&& y) :: t)
    | _ => none
  | .ior => match st with
    | .int y :: .int x :: t => some (ls, .int (x ||| y) :: t)
    | _ => none
  | .ixor => match st with
    | .int y :: .int x :: t => some (ls, .int (x ^^^ y) :: t)
    | _ => none
  | .ineg => match st with
    | .int x :: t => some (ls, .int (-x) :: t)
    | _ => none
  | .ishl => match st with
    | .int y :: .int x :: t => some (ls, .int (x <<< (y &&& 31)) :: t)
    | _ => none
  | .ishr => match st with
    | .int y :: .int x :: t => some (ls, .int (x >>> (y &&& 31)) :: t)
    | _ => none
  | .ladd => match st with
    | .long y :: .long x :: t => some (ls, .long (x + y) :: t)
    | _ => none
  | .lsub => match st with
    | .long y :: .long x :: t => some (ls, .long (x - y) :: t)
    | _ => none
  | .lmul => match st with
    | .long y :: .long x :: t => some (ls, .long (x * y) :: t)
    | _ => none
  | .land => match st with
    | .long y :: .long x :: t => some (ls, .long (x &&& y) :: t)
    | _ => none
  | .lor => match st with
    | .long y :: .long x :: t => some (ls, .long (x ||| y) :: t)
    | _ => none
  | .lxor => match st with
    | .long y :: .long x :: t => some (ls, .long (x ^^^ y) :: t)
    | _ => none
  | .lneg => match st with
    | .long x :: t => some (ls, .long (-x) :: t)
    | _ => none
  | .lshl => match st with
    | .int y :: .long x :: t => some (ls, .long (x <<< (y.toInt64 &&& 63)) :: t)
    | _ => none
  | .lshr => match st with
    | .int y :: .long x :: t => some (ls, .long (x >>> (y.toInt64 &&& 63)) :: t)
    | _ => none
  | .lushr => match st with
    | .int y :: .long x :: t => some (ls, .long (x.toUInt64 >>> (y.toInt64.toUInt64 &&& Int64.toUInt64 63)).toInt64 :: t)
    | _ => none
  | .i2l => match st with
    | .int x :: t => some (ls, .long x.toInt64 :: t)
    | _ => none
  | .l2i => match st with
    | .long x :: t => some (ls, .int x.toInt32 :: t)
    | _ => none
  | .i2b => match st with
    | .int x :: t => some (ls, .int x.toInt8.toInt32 :: t)
    | _ => none
  | .lcmp => match st with
    | .long y :: .long x :: t => some (ls, .int (lg_cmp x y) :: t)
    | _ => none
  | _ => none
def tg (pc : Nat) (off : Int) : Option Nat := match (pc : Int) + off with
  | .ofNat t => some t
  | .negSucc _ => none
def cnd (c : ClassFile.Cond) (x y : Int32) : Bool := match c with
  | .eq => decide (x = y)
  | .ne => decide (¬ x = y)
  | .lt => decide (x < y)
  | .ge => decide (y ≤ x)
  | .gt => decide (y < x)
  | .le => decide (x ≤ y)
/-- branches: target, stack -/
def xnB (pc : Nat) (i : Instr) (st : List Value) : Option (Nat × List Value) := match i with
  | .goto off => (tg pc off).map fun t => (t, st)
  | .ifCond c off => match st with
    | .int x :: t => (tg pc off).map fun g => if cnd c x 0 = true then (g, t) else (pc + 3, t)
    | _ => none
  | .if_icmp c off => match st with
    | .int y :: .int x :: t => (tg pc off).map fun g => if cnd c x y = true then (g, t) else (pc + 3, t)
    | _ => none
  | .ifnull off => match st with
    | .ref a :: t => if a = 0 then (tg pc off).map fun g => (g, t) else some (pc + 3, t)
    | _ => none
  | .ifnonnull off => match st with
    | .ref a :: t => if a = 0 then some (pc + 3, t) else (tg pc off).map fun g => (g, t)
    | _ => none
  | .tableswitch dflt lo hi offs => match st with
    | .int x :: t => if x.toInt < lo ∨ hi < x.toInt then (tg pc dflt).map fun g => (g, t) else match offs[(x.toInt - lo).toNat]? with
      | some off => (tg pc off).map fun g => (g, t)
      | none => none
    | _ => none
  | .lookupswitch dflt ps => match st with
    | .int x :: t => if (ps.toList.zip (ps.toList.drop 1)).all (fun (a, next) => a.1 < next.1) = true then (tg pc (Op.lookupswitch.offset ps.toList dflt x.toInt)).map fun g => (g, t) else none
    | _ => none
  | _ => none
def inb (i : Int32) (n : Nat) : Bool := decide (¬ (i < 0 ∨ n ≤ i.toNatClampNeg))
def fv (M : MH) (ci a f : Nat) : Value := match tyT ci f with
  | .long => .long (M.2.2.1 a f)
  | .object _ => .ref (M.2.2.2.1 a f)
  | .array _ => .ref (M.2.2.2.1 a f)
  | _ => .int (M.2.1 a f)
def wI (M : MH) (a k : Nat) (x : Int32) : MH := (M.1, u2 M.2.1 a k x, M.2.2)
def wJ (M : MH) (a k : Nat) (x : Int64) : MH := (M.1, M.2.1, u2 M.2.2.1 a k x, M.2.2.2)
def wR (M : MH) (a k : Nat) (x : Nat) : MH := (M.1, M.2.1, M.2.2.1, u2 M.2.2.2.1 a k x, M.2.2.2.2)
def pf (M : MH) (ci a f : Nat) (v : Value) : Option MH := match tyT ci f with
  | .long => match v with
    | .long x => some (wJ M a f x)
    | _ => none
  | .int => match v with
    | .int x => some (wI M a f x)
    | _ => none
  | .boolean => match v with
    | .int x => if x = 0 ∨ x = 1 then some (wI M a f x) else none
    | _ => none
  | .object _ => match v with
    | .ref q => some (wR M a f q)
    | _ => none
  | .array _ => match v with
    | .ref q => some (wR M a f q)
    | _ => none
  | _ => none
def finF (ci f : Nat) : Bool := ((mjC.getD ci ("", TX6, 0)).2.1 f).2.2.2
def decF (ci f : Nat) : String := ((mjC.getD ci ("", TX6, 0)).2.1 f).1
def pfOK (j ci f : Nat) : Bool := !(finF ci f) || (decide ((mY j).name = "<init>") && decide (decF ci f = oN (mO j)))
def newO (M : MH) (ci : Nat) : MH := (u1 M.1 (M.2.2.2.2.1 + 1) (.inl ci), u1 M.2.1 (M.2.2.2.2.1 + 1) (fun _ => 0), u1 M.2.2.1 (M.2.2.2.2.1 + 1) (fun _ => 0), u1 M.2.2.2.1 (M.2.2.2.2.1 + 1) (fun _ => 0), M.2.2.2.2.1 + 1, M.2.2.2.2.2 + nF ci)
def newA (M : MH) (ty : FieldType) (n : Nat) : MH := (u1 M.1 (M.2.2.2.2.1 + 1) (.inr (ty, n)), u1 M.2.1 (M.2.2.2.2.1 + 1) (fun _ => 0), u1 M.2.2.1 (M.2.2.2.2.1 + 1) (fun _ => 0), M.2.2.2.1, M.2.2.2.2.1 + 1, M.2.2.2.2.2 + n)
def arT (t : ArrayType) : Option FieldType := match t with
  | .int => some .int
  | .long => some .long
  | .byte => some .byte
  | .boolean => some .boolean
  | _ => none
def jTab (e : Nat) : List Int64 := match e with
  | 1 => [-6148914691236517206, -3689348814741910324, -1085102592571150096, -71777214294589696, -281470681808896, -4294967296]
  | 2 => [452824429940, 2003399269, 465491485544, 444150998382, 1952998766, 26995, 26982, 24948, 29807]
  | _ => []
def ixT : List Int32 := [61, 38, 124, 94, 33, 40, 41, 59, 44, 46]
def ixF (c : Int32) : List Int32 → Nat → Int32
  | [], _ => -1
  | x :: l, k => if x = c then nI k else ixF c l (k + 1)
def ixOf (c : Int32) : Int32 := ixF c ixT 0
def wt (st : List Value) : Nat := (st.map fun v => v.category).sum
/-- the heap: next pc, stack, heap -/
def xnC (xs : Nat → Int32) (L d j pc : Nat) (i : Instr) (st : List Value) (M : MH) : Option (Nat × List Value × MH) := match i with
  | .getfield k => match st with
    | .ref a :: t => match M.1 a with
      | .inl ci => (fl (mO j) k ci).map fun f => (pc + 3, fv M ci a f :: t, M)
      | _ => none
    | _ => none
  | .putfield k => match st with
    | v :: .ref a :: t => match M.1 a with
      | .inl ci => match fl (mO j) k ci with
        | some f => if pfOK j ci f then (pf M ci a f v).map fun M' => (pc + 3, t, M') else none
        | none => none
      | _ => none
    | _ => none
  | .iaload => match st with
    | .int x :: .ref a :: t => match M.1 a with
      | .inr (.int, n) => if inb x n then some (pc + 1, .int (M.2.1 a x.toNatClampNeg) :: t, M) else none
      | _ => none
    | .int x :: .retAddr 0 :: t => if inb x L then some (pc + 1, .int (xs x.toNatClampNeg) :: t, M) else none
    | _ => none
  | .laload => match st with
    | .int x :: .ref a :: t => match M.1 a with
      | .inr (.long, n) => if inb x n then some (pc + 1, .long (M.2.2.1 a x.toNatClampNeg) :: t, M) else none
      | _ => none
    | .int x :: .retAddr e :: t => if inb x (jTab e).length then some (pc + 1, .long ((jTab e).getD x.toNatClampNeg 0) :: t, M) else none
    | _ => none
  | .baload => match st with
    | .int x :: .ref a :: t => match M.1 a with
      | .inr (.byte, n) => if inb x n then some (pc + 1, .int (M.2.1 a x.toNatClampNeg) :: t, M) else none
      | .inr (.boolean, n) => if inb x n then some (pc + 1, .int (M.2.1 a x.toNatClampNeg) :: t, M) else none
      | _ => none
    | _ => none
  | .iastore => match st with
    | .int v :: .int x :: .ref a :: t => match M.1 a with
      | .inr (.int, n) => if inb x n then some (pc + 1, t, wI M a x.toNatClampNeg v) else none
      | _ => none
    | _ => none
  | .lastore => match st with
    | .long v :: .int x :: .ref a :: t => match M.1 a with
      | .inr (.long, n) => if inb x n then some (pc + 1, t, wJ M a x.toNatClampNeg v) else none
      | _ => none
    | _ => none
  | .bastore => match st with
    | .int v :: .int x :: .ref a :: t => match M.1 a with
      | .inr (.byte, n) => if inb x n then some (pc + 1, t, wI M a x.toNatClampNeg (vp_nar .byte v)) else none
      | .inr (.boolean, n) => if inb x n then some (pc + 1, t, wI M a x.toNatClampNeg (vp_nar .boolean v)) else none
      | _ => none
    | _ => none
  | .arraylength => match st with
    | .ref a :: t => match M.1 a with
      | .inr (_, n) => some (pc + 1, .int (Int32.ofNat n) :: t, M)
      | _ => none
    | .retAddr 0 :: t => some (pc + 1, .int (Int32.ofNat L) :: t, M)
    | _ => none
  | .new k => (nwl (mO j) k).map fun ci => (pc + 3, .ref (M.2.2.2.2.1 + 1) :: st, newO M ci)
  | .newarray ty => match st with
    | .int n :: t => match arT ty with
      | some y => if ¬ n < 0 ∧ n.toNatClampNeg ≤ 1000000 then some (pc + 2, .ref (M.2.2.2.2.1 + 1) :: t, newA M y n.toNatClampNeg) else none
      | none => none
    | _ => none
  | .getstatic k => (gsl (mO j) k).map fun e => (pc + 3, .retAddr e :: st, M)
  | .ldc k => if mO j = 14 ∧ k = 115 then some (pc + 2, .retAddr 3 :: st, M) else none
  | .invokespecial k => if mjO.getD (mO j) 9999 = k ∧ k ≠ 9999 then match st with
      | .ref a :: t => if a ≠ 0 ∧ 1 ≤ d ∧ wt t ≤ 8 then some (pc + 3, t, M) else none
      | _ => none
    else none
  | .invokestatic k => if mjMx.any (fun r => r.1 == mO j && r.2.1 == k) = true then match st with
      | .int y :: .int x :: t => if 1 ≤ d ∧ wt t ≤ 8 then some (pc + 3, .int (if x < y then y else x) :: t, M) else none
      | _ => none
    else none
  | .invokevirtual k => if mO j = 14 ∧ k = 117 then match st with
      | .int c :: .retAddr 3 :: t => if 8 ≤ d ∧ wt t ≤ 8 then some (pc + 3, .int (ixOf c) :: t, M) else none
      | _ => none
    else none
  | _ => none
/-- lengths of the instructions that the mini machine knows, but for the switches -/
def ilen (i : Instr) : Option Nat := match i with
  | .aconst_null => some 1
  | .iload_n _ => some 1
  | .lload_n _ => some 1
  | .aload_n _ => some 1
  | .istore_n _ => some 1
  | .lstore_n _ => some 1
  | .astore_n _ => some 1
  | .dup => some 1
  | .dup2 => some 1
  | .iadd => some 1
  | .isub => some 1
  | .imul => some 1
  | .idiv => some 1
  | .irem => some 1
  | .iand => some 1
  | .ior => some 1
  | .ixor => some 1
  | .ineg => some 1
  | .ishl => some 1
  | .ishr => some 1
  | .ladd => some 1
  | .lsub => some 1
  | .lmul => some 1
  | .land => some 1
  | .lor => some 1
  | .lxor => some 1
  | .lneg => some 1
  | .lshl => some 1
  | .lshr => some 1
  | .lushr => some 1
  | .i2l => some 1
  | .l2i => some 1
  | .i2b => some 1
  | .lcmp => some 1
  | .iaload => some 1
  | .laload => some 1
  | .baload => some 1
  | .iastore => some 1
  | .lastore => some 1
  | .bastore => some 1
  | .arraylength => some 1
  | .ireturn => some 1
  | .lreturn => some 1
  | .return_ => some 1
  | .iconst _ => some 1
  | .lconst _ => some 1
  | .bipush _ => some 2
  | .ldc _ => some 2
  | .iload _ => some 2
  | .lload _ => some 2
  | .aload _ => some 2
  | .istore _ => some 2
  | .lstore _ => some 2
  | .astore _ => some 2
  | .newarray _ => some 2
  | .sipush _ => some 3
  | .ldc2_w _ => some 3
  | .iinc _ _ => some 3
  | .goto _ => some 3
  | .ifCond _ _ => some 3
  | .if_icmp _ _ => some 3
  | .ifnull _ => some 3
  | .ifnonnull _ => some 3
  | .getfield _ => some 3
  | .putfield _ => some 3
  | .new _ => some 3
  | .getstatic _ => some 3
  | .invokespecial _ => some 3
  | .invokevirtual _ => some 3
  | .invokestatic _ => some 3
  | _ => none
def okL (i : Instr) (ln : Nat) : Bool := match ilen i with
  | some k => decide (k = ln)
  | none => true
def xn (xs : Nat → Int32) (L d j pc ln : Nat) (i : Instr) (ls st : List Value) (M : MH) : Option (Nat × List Value × List Value × MH) := match xnA j i ls st with
  | some r => some (pc + ln, r.1, r.2, M)
  | none => match xnB pc i st with
    | some r => some (r.1, ls, r.2, M)
    | none => (xnC xs L d j pc i st M).map fun r => (r.1, ls, r.2.1, r.2.2)
def lay : List Value → List Value
  | [] => []
  | .long x :: t => .long x :: .null :: lay t
  | .double x :: t => .double x :: .null :: lay t
  | v :: t => v :: lay t
def en (k : Nat) (as : List Value) : List Value := lay as ++ List.replicate (mL k - (lay as).length) .null
def rt (j : Nat) (i : Instr) (st : List Value) : Option (Option Value) := match i with
  | .ireturn => match st with
    | [.int x] => match mR j with
      | some ty => if narrow ty (.int x) = .int x then some (some (.int x)) else none
      | none => none
    | _ => none
  | .lreturn => match st with
    | [.long x] => if mR j = some .long then some (some (.long x)) else none
    | _ => none
  | .return_ => match st with
    | [] => if mR j = none then some none else none
    | _ => none
  | _ => none
/-- values that a call may hand over -/
def vOK (v : Value) : Bool := match v with
  | .int _ => true
  | .long _ => true
  | .ref _ => true
  | _ => false
def cvk (o idx ci : Nat) : Bool := (mjCv.getD o []).any (fun r => r.1 == idx && r.2.1 == ci && r.2.2.2.1 == 0 && (mHH r.2.2.1).isEmpty)
/-- a call: the callee, its arguments, what stays on the stack; whether it may throw here -/
def cl (j : Nat) (i : Instr) (st : List Value) (M : MH) : Option (Nat × List Value × List Value × Bool) := match i with
  | .invokestatic k => match csl (mO j) k with
    | some y => if mP y ≤ st.length ∧ (lay (st.take (mP y)).reverse).length ≤ mL y ∧ wt (st.drop (mP y)) ≤ 8 ∧ (st.take (mP y)).all vOK = true then some (y, (st.take (mP y)).reverse, st.drop (mP y), false) else none
    | none => none
  | .invokespecial k => match cpl (mO j) k with
    | some y => match st.drop (mP y) with
      | .ref (a + 1) :: t => if (lay (.ref (a + 1) :: (st.take (mP y)).reverse)).length ≤ mL y ∧ wt t ≤ 8 ∧ (st.take (mP y)).all vOK = true then some (y, .ref (a + 1) :: (st.take (mP y)).reverse, t, false) else none
      | _ => none
    | none => none
  | .invokevirtual k => match cvn (mO j) k with
    | some n => match st.drop n with
      | .ref a :: t => match M.1 a with
        | .inl ci => match cvl (mO j) k ci with
          | some y => if (lay (.ref a :: (st.take n).reverse)).length ≤ mL y ∧ wt t ≤ 8 ∧ (st.take n).all vOK = true then some (y, .ref a :: (st.take n).reverse, t, cvk (mO j) k ci) else none
          | none => none
        | _ => none
      | _ => none
    | none => none
  | _ => none
/-- the handler that covers a pc: where it goes on behind its first instruction, the local that takes the exception -/
def hd (j pc : Nat) : Option (Nat × Nat) := match mHH j with
  | [(a, b, h, _)] => if a ≤ pc ∧ pc < b then some (h + 1, 1) else none
  | _ => none
def th (d j pc : Nat) (st : List Value) : Bool := decide ((j, pc) ∈ mjTh) && st.isEmpty && decide (8 ≤ d)
def thM (M : MH) : MH := (u1 M.1 (M.2.2.2.2.1 + 1) (.inl 14), M.2.1, M.2.2.1, M.2.2.2.1, M.2.2.2.2.1 + 1, M.2.2.2.2.2 + 6)
def xq (xs : Nat → Int32) (L : Nat) : Nat → Nat → Nat → Nat → List Value → List Value → MH → Option (Option (Option Value) × MH)
  | 0, _, _, _, _, _, _ => none
  | n + 1, d, j, pc, ls, st, M => match decode (mB j) pc with
    | .error _ => none
    | .ok (i, ln) => if okL i ln = false then none else match xn xs L d j pc ln i ls st M with
      | some r => xq xs L n d j r.1 r.2.1 r.2.2.1 r.2.2.2
      | none => match rt j i st with
        | some v => some (some v, M)
        | none => match cl j i st M with
          | some r => match d with
            | 0 => none
            | d' + 1 => match xq xs L n d' r.1 0 (en r.1 r.2.1) [] M with
              | none => none
              | some (some v, M') => xq xs L n (d' + 1) j (pc + 3) ls (v.toList ++ r.2.2.1) M'
              | some (none, M') => if r.2.2.2 = false then none else match hd j pc with
                | some h => xq xs L n (d' + 1) j h.1 ((klL ls h.2).set h.2 .null) [] M'
                | none => some (none, M')
          | none => if th d j pc st then some (none, thM M) else none
