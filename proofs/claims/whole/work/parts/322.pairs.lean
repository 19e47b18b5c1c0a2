/-! ===== P3: rails and values in one lane ===== -/
abbrev Pr : Type := Bool × Bool
def n2 (p : Pr) : Pr := (p.2, p.1)
def j2 (x : Int32) (a b : Pr) : Pr := if x = -38 then (a.1 && b.1, a.2 || b.2) else if x = -124 then (a.1 || b.1, a.2 && b.2) else ((a.1 && b.2) || (a.2 && b.1), (a.1 && b.1) || (a.2 && b.2))
def fo2 (lv : Nat → Pr) (cds : List Int32) : Pr := match cds.foldl (stg (false, true) (true, false) n2 j2 lv) [] with
  | a :: _ => a
  | [] => (false, false)
def ph (j : Nat) (r : Rl) : Pr := (tb r.1 j, tb r.2 j)
/-- a map that goes through the steps of a stack -/
theorem fold_hom {α β : Type} {zz oo : α} {ng : α → α} {jo : Int32 → α → α → α} {lv : Nat → α} {z' o' : β} {n' : β → β} {j' : Int32 → β → β → β} {lv' : Nat → β} {P : α → Prop} {f : α → β} (hz : P zz ∧ f zz = z') (ho : P oo ∧ f oo = o') (hn : ∀ a, P a → P (ng a) ∧ f (ng a) = n' (f a)) (hj : ∀ x a b, P a → P b → P (jo x a b) ∧ f (jo x a b) = j' x (f a) (f b)) : ∀ (cds : List Int32) (st : List α), (∀ y ∈ st, P y) → (∀ x ∈ cds, ¬ x < 0 → P (lv x.toNatClampNeg) ∧ f (lv x.toNatClampNeg) = lv' x.toNatClampNeg) → (∀ y ∈ cds.foldl (stg zz oo ng jo lv) st, P y) ∧ (cds.foldl (stg zz oo ng jo lv) st).map f = cds.foldl (stg z' o' n' j' lv') (st.map f)
  | [], st, h, _ => ⟨h, rfl⟩
  | x :: cds, st, h, hl => by
    show (∀ y ∈ cds.foldl (stg zz oo ng jo lv) (stg zz oo ng jo lv st x), P y) ∧ (cds.foldl (stg zz oo ng jo lv) (stg zz oo ng jo lv st x)).map f = cds.foldl (stg z' o' n' j' lv') (stg z' o' n' j' lv' (st.map f) x)
    have step : (∀ y ∈ stg zz oo ng jo lv st x, P y) ∧ (stg zz oo ng jo lv st x).map f = stg z' o' n' j' lv' (st.map f) x := by
      unfold stg
      by_cases q : x < 0
      · rw [if_pos q, if_pos q]
        by_cases q1 : x = -48
        · rw [if_pos q1, if_pos q1]
          refine ⟨fun y hy => ?_, by rw [List.map_cons, hz.2]⟩
          rcases List.mem_cons.1 hy with e | e
          · rw [e]; exact hz.1
          · exact h y e
        · rw [if_neg q1, if_neg q1]
          by_cases q2 : x = -49
          · rw [if_pos q2, if_pos q2]
            refine ⟨fun y hy => ?_, by rw [List.map_cons, ho.2]⟩
            rcases List.mem_cons.1 hy with e | e
            · rw [e]; exact ho.1
            · exact h y e
          · rw [if_neg q2, if_neg q2]
            by_cases q3 : x = -33
            · rw [if_pos q3, if_pos q3]
              match st, h with
              | [], h => exact ⟨h, rfl⟩
              | a :: t, h =>
                have ha := hn a (h a (List.mem_cons_self ..))
                refine ⟨fun y hy => ?_, by rw [List.map_cons, List.map_cons, ha.2]⟩
                rcases List.mem_cons.1 hy with e | e
                · rw [e]; exact ha.1
                · exact h y (List.mem_cons_of_mem _ e)
            · rw [if_neg q3, if_neg q3]
              match st, h with
              | [], h => exact ⟨h, rfl⟩
              | [a], h => exact ⟨h, rfl⟩
              | b :: a :: t, h =>
                have ha := hj x a b (h a (List.mem_cons_of_mem _ (List.mem_cons_self ..))) (h b (List.mem_cons_self ..))
                refine ⟨fun y hy => ?_, by rw [List.map_cons, List.map_cons, List.map_cons, ha.2]⟩
                rcases List.mem_cons.1 hy with e | e
                · rw [e]; exact ha.1
                · exact h y (List.mem_cons_of_mem _ (List.mem_cons_of_mem _ e))
      · rw [if_neg q, if_neg q]
        have hx := hl x (List.mem_cons_self ..) q
        refine ⟨fun y hy => ?_, by rw [List.map_cons, hx.2]⟩
        rcases List.mem_cons.1 hy with e | e
        · rw [e]; exact hx.1
        · exact h y e
    rw [← step.2]
    exact fold_hom hz ho hn hj cds _ step.1 (fun y hy => hl y (List.mem_cons_of_mem _ hy))
theorem ph_fo {j : Nat} (hj : j < 64) {lv : Nat → Rl} {lv' : Nat → Pr} {cds : List Int32} (h : ∀ x ∈ cds, ¬ x < 0 → ph j (lv x.toNatClampNeg) = lv' x.toNatClampNeg) : ph j (foR lv cds) = fo2 lv' cds := by
  have := (fold_hom (P := fun _ => True) (f := ph j) (zz := rz) (oo := ro) (ng := rng) (jo := rjo) (lv := lv) (z' := (false, true)) (o' := (true, false)) (n' := n2) (j' := j2) (lv' := lv') ⟨trivial, by unfold ph rz; rw [tb_0, tb_m1 hj]⟩ ⟨trivial, by unfold ph ro; rw [tb_0, tb_m1 hj]⟩ (fun a _ => ⟨trivial, rfl⟩) (fun x a b _ _ => ⟨trivial, by
    unfold ph rjo j2
    split
    · simp only [tb_and, tb_or]
    · split
      · simp only [tb_and, tb_or]
      · simp only [tb_and, tb_or]⟩) cds [] (fun _ _ => trivial) (fun x hx q => ⟨trivial, h x hx q⟩)).2
  unfold foR fo2
  show ph j (hdR _) = match cds.foldl (stg (false, true) (true, false) n2 j2 lv') [] with
    | a :: _ => a
    | [] => (false, false)
  rw [List.map_nil] at this
  rw [← this]
  match cds.foldl (stg rz ro rng rjo lv) [] with
  | [] => show ph j (0, 0) = (false, false); unfold ph; rw [tb_0]
  | a :: t => rfl
def bE (b : Bool) : Pr := (b, !b)
theorem bE_fo {lv : Nat → Bool} {lv' : Nat → Pr} {cds : List Int32} (h : ∀ x ∈ cds, ¬ x < 0 → bE (lv x.toNatClampNeg) = lv' x.toNatClampNeg) : (fo2 lv' cds).1 = foB lv cds := by
  have := (fold_hom (P := fun _ => True) (f := bE) (zz := false) (oo := true) (ng := fun b => !b) (jo := bjo) (lv := lv) (z' := (false, true)) (o' := (true, false)) (n' := n2) (j' := j2) (lv' := lv') ⟨trivial, rfl⟩ ⟨trivial, rfl⟩ (fun a _ => ⟨trivial, by cases a <;> rfl⟩) (fun x a b _ _ => ⟨trivial, by
    unfold bE bjo j2
    split
    · cases a <;> cases b <;> rfl
    · split
      · cases a <;> cases b <;> rfl
      · cases a <;> cases b <;> rfl⟩) cds [] (fun _ _ => trivial) (fun x hx q => ⟨trivial, h x hx q⟩)).2
  rw [List.map_nil] at this
  unfold fo2 foB
  show (match cds.foldl (stg (false, true) (true, false) n2 j2 lv') [] with
    | a :: _ => a
    | [] => (false, false)).1 = _
  rw [← this]
  match cds.foldl (stg false true (fun b => !b) bjo lv) [] with
  | [] => rfl
  | a :: t => rfl
def enc (x : Int32) : Pr := (decide (x = 1), decide (x = 0))
theorem enc_fo {lv : Nat → Int32} {lv' : Nat → Pr} {cds : List Int32} (h : ∀ x ∈ cds, ¬ x < 0 → v3 (lv x.toNatClampNeg) ∧ enc (lv x.toNatClampNeg) = lv' x.toNatClampNeg) : v3 (fo3 lv cds) ∧ enc (fo3 lv cds) = fo2 lv' cds := by
  have := (fold_hom (P := v3) (f := enc) (zz := 0) (oo := 1) (ng := n3) (jo := j3) (lv := lv) (z' := (false, true)) (o' := (true, false)) (n' := n2) (j' := j2) (lv' := lv') ⟨Or.inl rfl, by decide⟩ ⟨Or.inr (Or.inl rfl), by decide⟩ (fun a ha => ⟨v3_n ha, by rcases ha with e | e | e <;> subst e <;> decide⟩) (fun x a b ha hb => ⟨v3_j ha hb, by
    unfold j3 j2
    split
    · rcases ha with e | e | e <;> subst e <;> rcases hb with e | e | e <;> subst e <;> decide
    · split
      · rcases ha with e | e | e <;> subst e <;> rcases hb with e | e | e <;> subst e <;> decide
      · rcases ha with e | e | e <;> subst e <;> rcases hb with e | e | e <;> subst e <;> decide⟩) cds [] (fun _ hy => by cases hy) h)
  rw [List.map_nil] at this
  unfold fo3 fo2
  show _ ∧ _ = (match cds.foldl (stg (false, true) (true, false) n2 j2 lv') [] with
    | a :: _ => a
    | [] => (false, false))
  rw [← this.2]
  have h1 := this.1
  revert h1
  match cds.foldl (stg 0 1 n3 j3 lv) [] with
  | [] => intro _; exact ⟨Or.inr (Or.inr rfl), by decide⟩
  | a :: t => intro h1; exact ⟨h1 a (List.mem_cons_self ..), rfl⟩
/-- the clauses given, taken together -/
theorem gs_fold : ∀ (L : List Bool) (y : Int32) (e : Bool), v3 y → ((L.foldl gs (y, e)).2 = true ↔ e = true ∨ (((enc y).1 = true ∨ true ∈ L) ∧ ((enc y).2 = true ∨ false ∈ L))) ∧ (¬ (((enc y).1 = true ∨ true ∈ L) ∧ ((enc y).2 = true ∨ false ∈ L)) → ((enc (L.foldl gs (y, e)).1).1 = true ↔ (enc y).1 = true ∨ true ∈ L) ∧ ((enc (L.foldl gs (y, e)).1).2 = true ↔ (enc y).2 = true ∨ false ∈ L))
  | [], y, e, hy => by
    rcases hy with q | q | q <;> subst q <;> simp [enc]
  | s :: L, y, e, hy => by
    have ih := gs_fold L (gs (y, e) s).1 (gs (y, e) s).2 (gs_v3 hy)
    show ((L.foldl gs (gs (y, e) s)).2 = true ↔ _) ∧ (_ → ((enc (L.foldl gs (gs (y, e) s)).1).1 = true ↔ _) ∧ ((enc (L.foldl gs (gs (y, e) s)).1).2 = true ↔ _))
    revert ih
    show ((L.foldl gs (gs (y, e) s)).2 = true ↔ _) ∧ _ → _
    generalize L.foldl gs (gs (y, e) s) = r
    rcases hy with q | q | q <;> subst q <;> cases s <;> cases e <;> simp [gs, enc, bI] <;> intro h1 h2 <;> (try constructor) <;> (try (intros; simp_all))
