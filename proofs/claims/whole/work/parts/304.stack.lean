/-! ===== P3: formulas on a stack ===== -/
def isB (x : Int32) : Bool := x == -38 || x == -94 || x == -124
theorem isB_iff {x : Int32} : isB x = true ↔ bop x := by
  unfold isB bop; simp only [Bool.or_eq_true, beq_iff_eq, or_assoc]
def hst (h : Nat) (x : Int32) : Nat := if isB x = true then h - 1 else if x = -33 then h else h + 1
/-- a code goes through on a stack of b places that holds h -/
def OKc (b : Nat) : Nat → List Int32 → Prop
  | _, [] => True
  | h, x :: l => (if isB x = true then 2 ≤ h else if x = -33 then 1 ≤ h else h < b) ∧ OKc b (hst h x) l
theorem OKc_app {b : Nat} : ∀ (l r : List Int32) (h : Nat), OKc b h (l ++ r) ↔ OKc b h l ∧ OKc b (l.foldl hst h) r
  | [], r, h => by simp [OKc]
  | x :: l, r, h => by
    show _ ∧ OKc b (hst h x) (l ++ r) ↔ (_ ∧ OKc b (hst h x) l) ∧ OKc b (l.foldl hst (hst h x)) r
    rw [OKc_app l r (hst h x), and_assoc]
/-- the operators of two operands that wait -/
def bnw (w : List Int32) : Nat := (w.filter (fun a => isOp a)).length
theorem bnw_cons (a : Int32) (w : List Int32) : bnw (a :: w) = (if isOp a = true then 1 else 0) + bnw w := by
  unfold bnw
  rw [List.filter_cons]
  by_cases h : isOp a = true
  · rw [if_pos h, if_pos h, List.length_cons]; omega
  · rw [if_neg h, if_neg h]; omega
theorem bnw_le (w : List Int32) : bnw w ≤ w.length := List.length_filter_le _ _
theorem isB_neg {a : Int32} (h : isOp a = true) : isB (-a) = true := by
  rcases isOp_iff.1 h with q | q | q <;> subst q <;> decide
theorem isB_nn {a : Int32} (h : sgw a) (h1 : 1 ≤ strg a) (h2 : ¬ isOp a = true) : -a = -33 ∧ isB (-a) = false := by
  rcases h with q | q | q | q | q <;> subst q
  · exact ⟨rfl, rfl⟩
  · exact absurd (by decide) h2
  · exact absurd h1 (by decide)
  · exact absurd (by decide) h2
  · exact absurd (by decide) h2
theorem fre_H {s : Nat} (hs : 1 ≤ s) : ∀ (w : List Int32) (dp : Nat), (∀ x ∈ w, sgw x) → OKc 64 (bnw w + 1) (fre s w dp).2.2 ∧ (fre s w dp).2.2.foldl hst (bnw w + 1) = bnw (fre s w dp).1 + 1
  | [], dp, _ => ⟨trivial, rfl⟩
  | a :: w, dp, hw => by
    rw [fre]
    split
    · rename_i q
      have ih := fre_H hs w (if a = 33 then dp - 1 else dp) (fun x hx => hw x (List.mem_cons_of_mem _ hx))
      rw [bnw_cons]
      by_cases ho : isOp a = true
      · have hb := isB_neg ho
        rw [if_pos ho]
        refine ⟨⟨by rw [if_pos hb]; omega, ?_⟩, ?_⟩
        · show OKc 64 (hst (1 + bnw w + 1) (-a)) _
          unfold hst; rw [if_pos hb, show 1 + bnw w + 1 - 1 = bnw w + 1 by omega]; exact ih.1
        · show List.foldl hst (hst (1 + bnw w + 1) (-a)) _ = _
          conv => lhs; arg 2; unfold hst
          rw [if_pos hb, show 1 + bnw w + 1 - 1 = bnw w + 1 by omega]; exact ih.2
      · obtain ⟨e1, e2⟩ := isB_nn (hw a (List.mem_cons_self ..)) (by omega) ho
        rw [if_neg ho, Nat.zero_add]
        refine ⟨⟨by rw [if_neg (by rw [e2]; decide), if_pos e1]; omega, ?_⟩, ?_⟩
        · show OKc 64 (hst (bnw w + 1) (-a)) _
          unfold hst; rw [if_neg (by rw [e2]; decide), if_pos e1]; exact ih.1
        · show List.foldl hst (hst (bnw w + 1) (-a)) _ = _
          conv => lhs; arg 2; unfold hst
          rw [if_neg (by rw [e2]; decide), if_pos e1]; exact ih.2
    · exact ⟨trivial, rfl⟩
theorem lfx_H {x : Int32} (h : lfx x) : isB x = false ∧ ¬ x = -33 := by
  rcases h with h | h | h
  · constructor
    · cases q : isB x with
      | false => rfl
      | true => rcases isB_iff.1 q with e | e | e <;> rw [e] at h <;> exact absurd h (by decide)
    · intro e; rw [e] at h; exact absurd h (by decide)
  · subst h; decide
  · subst h; decide
theorem sy_H {kd : Nat → Int32} {lf : Nat → LeS → Option (Int32 × LeS)} {l0 : List Int32} {m : Nat} (h0 : kd m = 0) {PG : LeS → Prop} {P : LeS → Int32 → Prop} (hop : ∀ g a, sgw a → 1 ≤ strg a → P g (-a)) (hlf : ∀ n g x g', n ≤ m → PG g → lf n g = some (x, g') → n < m ∧ lfx x ∧ PG g' ∧ P g' x ∧ ∀ y, P g y → P g' y) : ∀ (f : Nat) (b : Bool) (n : Nat) (w : List Int32) (dp : Nat) (o : List Int32) (g : LeS), n ≤ m → PG g → (∀ y ∈ l0 ++ o, P g y) → WI w dp → OKc 64 0 o → o.foldl hst 0 = bnw w + (if b = true then 0 else 1) → (∃ o', (sy kd lf f b n w dp (l0 ++ o) g).2.2.1 = l0 ++ o' ∧ OKc 64 0 o') ∧ PG (sy kd lf f b n w dp (l0 ++ o) g).2.2.2 ∧ (∀ y ∈ (sy kd lf f b n w dp (l0 ++ o) g).2.2.1, P (sy kd lf f b n w dp (l0 ++ o) g).2.2.2 y) ∧ (sy kd lf f b n w dp (l0 ++ o) g).2.1 ≤ m
  | 0, _, n, w, dp, o, g, hn, hg, hp, hw, ho, hh => ⟨⟨o, rfl, ho⟩, hg, hp, hn⟩
  | f + 1, true, n, w, dp, o, g, hn, hg, hp, hw, ho, hh => by
    have hh : o.foldl hst 0 = bnw w := hh
    have hwl := WI_len hw
    have hbl := bnw_le w
    rw [sy]
    split
    · rename_i hk
      split
      · exact ⟨⟨o, rfl, ho⟩, hg, hp, hn⟩
      · rename_i hd
        refine sy_H h0 hop hlf f true (n + 1) (kd n :: w) (dp + 1) o g (lt_of_kd h0 hn (by rcases hk with q | q <;> rw [q] <;> decide)) hg hp ⟨fun x hx => ?_, ?_, by omega, fun b w' e => Or.inr hk, hw.2.2.2⟩ ho ?_
        · rcases List.mem_cons.1 hx with r | r
          · rcases hk with q | q <;> rw [r, q]
            · exact Or.inl rfl
            · exact Or.inr (Or.inr (Or.inl rfl))
          · exact hw.1 x r
        · rw [dps_cons, if_pos hk]; have := hw.2.1; omega
        · rw [bnw_cons, if_neg (by rcases hk with q | q <;> rw [q] <;> decide), hh]; simp
    · cases hq : lf n g with
      | none => exact ⟨⟨o, rfl, ho⟩, hg, hp, hn⟩
      | some p =>
        obtain ⟨x, g'⟩ := p
        obtain ⟨a1, a2, a3, a4, a5⟩ := hlf n g x g' hn hg hq
        obtain ⟨e1, e2⟩ := lfx_H a2
        have := sy_H (kd := kd) (l0 := l0) h0 hop hlf f false (n + 1) w dp (o ++ [x]) g' a1 a3 (fun y hy => ?_) hw ?_ ?_
        · rw [← List.append_assoc] at this; exact this
        · rw [← List.append_assoc] at hy
          rcases List.mem_append.1 hy with q | q
          · exact a5 y (hp y q)
          · rw [List.mem_singleton.1 q]; exact a4
        · rw [OKc_app]
          refine ⟨ho, ?_, trivial⟩
          rw [if_neg (by rw [e1]; decide), if_neg e2, hh]; omega
        · rw [List.foldl_append, hh]
          show hst (bnw w) x = bnw w + 1
          unfold hst; rw [if_neg (by rw [e1]; decide), if_neg e2]
  | f + 1, false, n, w, dp, o, g, hn, hg, hp, hw, ho, hh => by
    have hh : o.foldl hst 0 = bnw w + 1 := hh
    have hA : ∀ s, 1 ≤ s → OKc 64 0 (o ++ (fre s w dp).2.2) ∧ (o ++ (fre s w dp).2.2).foldl hst 0 = bnw (fre s w dp).1 + 1 := by
      intro s hs
      have := fre_H hs w dp hw.1
      rw [OKc_app, List.foldl_append, hh]
      exact ⟨⟨ho, this.1⟩, this.2⟩
    have hB : ∀ s, 1 ≤ s → ∀ y ∈ l0 ++ (o ++ (fre s w dp).2.2), P g y := by
      intro s hs y hy
      rw [← List.append_assoc] at hy
      rcases List.mem_append.1 hy with q | q
      · exact hp y q
      · obtain ⟨a, a1, a2, a3⟩ := fre_out s w dp y q
        rw [a3]; exact hop g a (hw.1 a a1) (by omega)
    rw [sy]
    split
    · rename_i h41
      split
      · exact ⟨⟨_, by rw [List.append_assoc], (hA 1 (by omega)).1⟩, hg, by rw [List.append_assoc]; exact hB 1 (by omega), hn⟩
      · rename_i hne
        have h2 := WI_fre (s := 1) hw
        cases hq : (fre 1 w dp).1 with
        | nil => exact absurd hq hne
        | cons a w' =>
          rw [hq] at h2
          have ha : a = 40 := sgw_0 (h2.1 a (List.mem_cons_self ..)) (fre_hd 1 w dp a w' hq)
          have hd := h2.2.1
          rw [dps_cons, if_pos (Or.inr ha)] at hd
          have h3 := (hA 1 (by omega)).2
          rw [hq, bnw_cons, if_neg (by rw [ha]; decide)] at h3
          have := sy_H (kd := kd) (l0 := l0) h0 hop hlf f false (n + 1) w' ((fre 1 w dp).2.1 - 1) (o ++ (fre 1 w dp).2.2) g (lt_of_kd h0 hn (by rw [h41]; decide)) hg (hB 1 (by omega)) ⟨fun x hx => h2.1 x (List.mem_cons_of_mem _ hx), by omega, by have := h2.2.2.1; omega, h2.2.2.2.2⟩ (hA 1 (by omega)).1 (by rw [h3]; simp)
          rw [← List.append_assoc] at this
          exact this
    · split
      · rename_i hop'
        have h1 : 1 ≤ strg (kd n) := by rcases isOp_iff.1 hop' with q | q | q <;> rw [q] <;> decide
        have h3 := (hA _ h1).2
        have := sy_H (kd := kd) (l0 := l0) h0 hop hlf f true (n + 1) (kd n :: (fre (strg (kd n)) w dp).1) (fre (strg (kd n)) w dp).2.1 (o ++ (fre (strg (kd n)) w dp).2.2) g (lt_of_kd h0 hn (by rcases isOp_iff.1 hop' with q | q | q <;> rw [q] <;> decide)) hg (hB _ h1) (WI_op hw hop') (hA _ h1).1 (by rw [h3, bnw_cons, if_pos hop']; simp; omega)
        rw [← List.append_assoc] at this
        exact this
      · exact ⟨⟨_, by rw [List.append_assoc], (hA 1 (by omega)).1⟩, hg, by rw [List.append_assoc]; exact hB 1 (by omega), hn⟩
theorem lfC_x {kd : Nat → Int32} {key : Nat → Int64} (n : Nat) (g : LeS) (x : Int32) (g' : LeS) (hn : n < 2147483648) (h : lfC kd key n g = some (x, g')) : lfx x := by
  unfold lfC at h
  split at h
  · unfold atC at h
    split at h
    · split at h
      · rename_i hk
        have hx : (-(key n)).toInt32 = x := by simpa using congrArg (fun z => z.map Prod.fst) h
        rw [← hx]
        rcases hk with q | q <;> rw [q]
        · exact Or.inr (Or.inl rfl)
        · exact Or.inr (Or.inr rfl)
      · cases h
    · split at h
      · have hx : ii n = x := by simpa using congrArg (fun z => z.map Prod.fst) h
        rw [← hx]
        exact Or.inl (by rw [ii_zero, ii_le (by omega) hn]; omega)
      · cases h
  · cases h
theorem lfC_h {kd : Nat → Int32} {key : Nat → Int64} {m : Nat} (h0 : kd m = 0) (hm : m ≤ 2000) (n : Nat) (g : LeS) (x : Int32) (g' : LeS) (hn : n ≤ m) (_ : True) (h : lfC kd key n g = some (x, g')) : n < m ∧ lfx x ∧ True ∧ cdP kd m x ∧ ∀ y, cdP kd m y → cdP kd m y := ⟨(lfC_P h0 n g x g' hn h).1, lfC_x n g x g' (by omega) h, trivial, (lfC_P h0 n g x g' hn h).2, fun _ q => q⟩
theorem lfK_h {kd : Nat → Int32} {key : Nat → Int64} {m : Nat} (h0 : kd m = 0) (n : Nat) (g : LeS) (x : Int32) (g' : LeS) (hn : n ≤ m) (hg : g.2.length ≤ 9) (h : lfK kd key n g = some (x, g')) : n < m ∧ lfx x ∧ g'.2.length ≤ 9 ∧ lvP g'.2.length x ∧ ∀ y, lvP g.2.length y → lvP g'.2.length y := by
  have hmono : ∀ {a b : Nat}, a ≤ b → ∀ y, lvP a y → lvP b y := fun hab y q => by
    rcases q with q | ⟨v, q1, q2⟩
    · exact Or.inl q
    · exact Or.inr ⟨v, by omega, q2⟩
  have hix : ∀ v, v < 9 → lfx (ii v) := fun v hv => Or.inl (by rw [ii_zero, ii_le (by omega) (by omega)]; omega)
  unfold lfK at h
  split at h
  · cases hq : atK kd key n g.2 with
    | none => rw [hq] at h; cases h
    | some p =>
      obtain ⟨y, vs'⟩ := p
      rw [hq] at h
      cases h
      have hl := atK_len hq hg
      unfold atK at hq
      split at hq
      · rename_i h5
        split at hq
        · rename_i hk
          cases hq
          refine ⟨lt_of_kd h0 hn (by rw [h5]; decide), ?_, hl, ?_, fun y q => q⟩
          · rcases hk with q | q <;> rw [q]
            · exact Or.inr (Or.inl rfl)
            · exact Or.inr (Or.inr rfl)
          · rcases hk with q | q <;> rw [q]
            · exact Or.inl (Or.inr (Or.inr (Or.inr (Or.inr (Or.inl rfl)))))
            · exact Or.inl (Or.inr (Or.inr (Or.inr (Or.inr (Or.inr rfl)))))
        · cases hq
      · split at hq
        · rename_i h4
          have hlt := lt_of_kd h0 hn (show ¬ kd n = 0 by rw [h4]; decide)
          split at hq
          · rename_i v hv
            cases hq
            have := ixl_lt _ _ _ hv
            exact ⟨hlt, hix v (by omega), hl, Or.inr ⟨v, this, rfl⟩, fun y q => q⟩
          · split at hq
            · rename_i hv9
              cases hq
              refine ⟨hlt, hix _ hv9, hl, Or.inr ⟨g.2.length, ?_, rfl⟩, hmono ?_⟩
              · show g.2.length < (g.2 ++ [key n]).length
                rw [List.length_append, List.length_singleton]; omega
              · show g.2.length ≤ (g.2 ++ [key n]).length
                rw [List.length_append]; omega
            · cases hq
        · cases hq
  · cases h
/-- a part of a code -/
def seg (l : List Int32) (s e : Nat) : List Int32 := (l.drop s).take (e - s)
theorem seg_app {l o : List Int32} {s e : Nat} (he : e ≤ l.length) : seg (l ++ o) s e = seg l s e := by
  unfold seg
  rcases Nat.lt_or_ge l.length s with h | h
  · rw [show e - s = 0 by omega]; simp
  · rw [List.drop_append_of_le_length h, List.take_append_of_le_length (by rw [List.length_drop]; omega)]
theorem seg_all {l o : List Int32} : seg (l ++ o) l.length (l ++ o).length = o := by
  unfold seg
  rw [List.drop_left, List.length_append, show l.length + o.length - l.length = o.length by omega, List.take_length]
theorem seg_snoc {l : List Int32} {s t : Nat} {x : Int32} (hs : s ≤ t) (hx : l[t]? = some x) : seg l s (t + 1) = seg l s t ++ [x] := by
  unfold seg
  have ht := (List.getElem?_eq_some_iff.1 hx).1
  rw [show t + 1 - s = (t - s) + 1 by omega, List.take_add_one]
  congr 1
  rw [List.getElem?_drop, show s + (t - s) = t by omega, hx]
  rfl
theorem seg_split {l : List Int32} {s q u : Nat} (h1 : s ≤ q) (h2 : q ≤ u) : seg l s u = seg l s q ++ seg l q u := by
  unfold seg
  rw [show u - s = (q - s) + (u - q) by omega, List.take_add, List.drop_drop, show s + (q - s) = q by omega]
theorem seg_nil {l : List Int32} {s : Nat} : seg l s s = [] := by unfold seg; simp
section EVG
variable {α : Type} (zz oo : α) (ng : α → α) (jo : Int32 → α → α → α) (lv : Nat → α)
def stg (st : List α) (x : Int32) : List α := if x < 0 then (if x = -48 then zz :: st else if x = -49 then oo :: st else if x = -33 then (match st with
    | a :: t => ng a :: t
    | [] => []) else (match st with
    | b :: a :: t => jo x a b :: t
    | s => s)) else lv x.toNatClampNeg :: st
def evg (l : List Int32) (lt : Nat → Int32) : Nat → Nat → α
  | 0, _ => zz
  | f + 1, t => match l[t]? with
    | none => zz
    | some x => if x < 0 then (if x = -48 then zz else if x = -49 then oo else if x = -33 then ng (evg l lt f (t - 1)) else jo x (evg l lt f (lt t).toNatClampNeg) (evg l lt f (t - 1))) else lv x.toNatClampNeg
theorem run_tre {l : List Int32} {lt rt : Nat → Int32} (hl : l.length ≤ 2000) : ∀ (f s t : Nat) (st : List α), tre l lt rt f s t → (seg l s (t + 1)).foldl (stg zz oo ng jo lv) st = evg zz oo ng jo lv l lt f t :: st
  | 0, _, _, _, h => absurd h (fun z => z)
  | f + 1, s, t, st, h => by
    have hlt := tre_lt _ _ _ h
    obtain ⟨x, hx, h⟩ := h
    rw [seg_snoc hlt.1 hx, List.foldl_append]
    rcases h with ⟨h1, h2⟩ | ⟨h1, u, h2, h3, h4⟩ | ⟨h1, u, q, h2, h3, h4, h5, h6⟩
    · rw [h2, seg_nil]
      show stg zz oo ng jo lv st x = _
      rw [evg, hx]
      unfold stg
      rcases h1 with h1 | h1 | h1
      · have hn : ¬ x < 0 := fun q => by rw [Int32.le_iff_toInt_le] at h1; rw [Int32.lt_iff_toInt_lt] at q; omega
        rw [if_neg hn]; simp only; rw [if_neg hn]
      · subst h1; rfl
      · subst h1; rfl
    · have ih := run_tre hl f s u st h4
      rw [h2, ih]
      show stg zz oo ng jo lv _ x = _
      rw [evg, ← h2, hx, h2]
      subst h1
      rfl
    · have hq1 := (tre_lt _ _ _ h5)
      have hq2 := (tre_lt _ _ _ h6)
      rw [h2, seg_split (q := q + 1) (by omega) (by omega), List.foldl_append, run_tre hl f s q st h5, run_tre hl f (q + 1) u _ h6]
      show stg zz oo ng jo lv _ x = _
      rw [evg, ← h2, hx, h2]
      have e : (lt (u + 1)).toNatClampNeg = q := by rw [← h2, h3, ii_nat (by omega)]
      simp only [Nat.add_sub_cancel, e]
      unfold stg
      rcases h1 with h1 | h1 | h1 <;> subst h1 <;> rfl
end EVG
