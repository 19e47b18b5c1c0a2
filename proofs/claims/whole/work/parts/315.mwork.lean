/-! ===== P2: the model's values: work ===== -/
def own3 (ns : List Nd) (l : List Int32) (I : Nat → Nat → Int32) (a t n : Nat) : Int32 := match ns[n]? with
  | some x => if x.2.1 = 1 then fo3 (vE I a t) (seg l x.2.2.2.1 x.2.2.2.2) else if x.2.1 = 2 ∧ 0 < t then fo3 (vE I a (t - 1)) (seg l x.2.2.2.1 x.2.2.2.2) else 2
  | none => 2
/-- what the first u clauses say of a node at a time -/
def gl (cs : List Cl) (lv : Nat → Bool) (kl : List Int32) (t n u : Nat) : List Bool := ((cs.take u).filter (fun x => decide (x.1 = n ∧ x.2.2.2.2.1 ≤ t ∧ t ≤ x.2.2.2.2.2) && holB lv kl x)).map (sayB lv kl)
def gs (st : Int32 × Bool) (s : Bool) : Int32 × Bool := (if st.1 = 2 then bI s else st.1, st.2 || (!decide (st.1 = 2) && !decide (st.1 = bI s)))
def gfd (cs : List Cl) (lv : Nat → Bool) (kl : List Int32) (t n u : Nat) (y : Int32) : Int32 × Bool := (gl cs lv kl t n u).foldl gs (y, false)
theorem gfd_0 {cs : List Cl} {lv : Nat → Bool} {kl : List Int32} {t n : Nat} {y : Int32} : gfd cs lv kl t n 0 y = (y, false) := by
  unfold gfd gl; rw [List.take_zero]; rfl
theorem gfd_s {cs : List Cl} {lv : Nat → Bool} {kl : List Int32} {t n u : Nat} {y : Int32} {x : Cl} (hx : cs[u]? = some x) : gfd cs lv kl t n (u + 1) y = if (x.1 = n ∧ x.2.2.2.2.1 ≤ t ∧ t ≤ x.2.2.2.2.2) ∧ holB lv kl x = true then gs (gfd cs lv kl t n u y) (sayB lv kl x) else gfd cs lv kl t n u y := by
  unfold gfd gl
  rw [List.take_add_one, hx, Option.toList_some, List.filter_append, List.map_append, List.foldl_append]
  by_cases h : (x.1 = n ∧ x.2.2.2.2.1 ≤ t ∧ t ≤ x.2.2.2.2.2) ∧ holB lv kl x = true
  · rw [if_pos h, List.filter_cons_of_pos (by rw [Bool.and_eq_true, decide_eq_true_eq]; exact h)]; rfl
  · rw [if_neg h, List.filter_cons_of_neg (by rw [Bool.and_eq_true, decide_eq_true_eq]; exact h)]; rfl
theorem gs_v3 {st : Int32 × Bool} {s : Bool} (h : v3 st.1) : v3 (gs st s).1 := by
  unfold gs
  simp only
  split
  · cases s
    · exact Or.inl rfl
    · exact Or.inr (Or.inl rfl)
  · exact h
theorem gfd_v3 {cs : List Cl} {lv : Nat → Bool} {kl : List Int32} {t n u : Nat} {y : Int32} (h : v3 y) : v3 (gfd cs lv kl t n u y).1 := by
  unfold gfd
  generalize gl cs lv kl t n u = g
  have : ∀ (g : List Bool) (st : Int32 × Bool), v3 st.1 → v3 (g.foldl gs st).1 := by
    intro g
    induction g with
    | nil => intro st h; exact h
    | cons s g ih => intro st h; exact ih _ (gs_v3 h)
  exact this g _ h
theorem own3_congr {ns : List Nd} {l : List Int32} {I I' : Nat → Nat → Int32} {a t n : Nat} (hW : CW ns l) (hn : n < ns.length) (h1 : ndk ns n = 1 → ∀ v, adj ns l n v = true → vE I' a t v = vE I a t v) (h2 : ndk ns n = 2 → 0 < t → ∀ v, v < ns.length → vE I' a (t - 1) v = vE I a (t - 1) v) : own3 ns l I' a t n = own3 ns l I a t n := by
  obtain ⟨w1, w2, w3, w4, w5, w6⟩ := hW
  have hx := ge_lt hn
  have hk := ndk_at hx
  have hleaf : ∀ y ∈ seg l ns[n].2.2.2.1 ns[n].2.2.2.2, ¬ y < 0 → adj ns l n y.toNatClampNeg = true ∧ y.toNatClampNeg < ns.length := by
    intro y hy hny
    obtain ⟨p, p1, p2, p3⟩ := seg_mem hy
    rcases w3 y (List.mem_of_getElem? p3) with z | ⟨v, v1, v2⟩
    · exact absurd (cop_neg z) hny
    · rw [v2, ii_nat (by omega)]
      exact ⟨(adj_iff hx).2 ⟨v1, p, p1, p2, by rw [← v2]; exact p3⟩, v1⟩
  unfold own3
  rw [hx]
  simp only
  by_cases e1 : ns[n].2.1 = 1
  · rw [if_pos e1, if_pos e1]
    unfold fo3
    rw [fold_congr (lv := vE I' a t) (lv' := vE I a t) _ _ (fun y hy hny => h1 (by omega) _ (hleaf y hy hny).1)]
  · rw [if_neg e1, if_neg e1]
    by_cases e2 : ns[n].2.1 = 2 ∧ 0 < t
    · rw [if_pos e2, if_pos e2]
      unfold fo3
      rw [fold_congr (lv := vE I' a (t - 1)) (lv' := vE I a (t - 1)) _ _ (fun y hy hny => h2 (by omega) e2.2 _ (hleaf y hy hny).2)]
    · rw [if_neg e2, if_neg e2]
/-- how deep the work of a node goes -/
def dpt (ns : List Nd) (l : List Int32) (ht : List Nat) (n : Nat) : Nat := fb_sm (fun m => if psn ns l m ≤ psn ns l n then (ht[m]?).getD 0 + 2 else 0) ns.length
theorem dpt_lt {ns : List Nd} {l : List Int32} {ht : List Nat} {n v : Nat} (hn : n < ns.length) (h : psn ns l v < psn ns l n) : dpt ns l ht v + (ht[n]?).getD 0 + 2 ≤ dpt ns l ht n := by
  have e := fb_sm_upd (fun m => if psn ns l m ≤ psn ns l v then (ht[m]?).getD 0 + 2 else 0) ((ht[n]?).getD 0 + 2) hn
  rw [if_neg (show ¬ psn ns l n ≤ psn ns l v by omega)] at e
  have e2 : fb_sm (fun k => if k = n then (ht[n]?).getD 0 + 2 else if psn ns l k ≤ psn ns l v then (ht[k]?).getD 0 + 2 else 0) ns.length ≤ dpt ns l ht n := by
    unfold dpt
    refine fb_sm_le (fun k hk => ?_)
    by_cases q : k = n
    · rw [if_pos q, q, if_pos (Nat.le_refl _)]; exact Nat.le_refl _
    · rw [if_neg q]
      by_cases q2 : psn ns l k ≤ psn ns l v
      · rw [if_pos q2, if_pos (by omega)]; exact Nat.le_refl _
      · rw [if_neg q2]; omega
  unfold dpt at e2 ⊢
  omega
theorem dpt_0 {ns : List Nd} {l : List Int32} {ht : List Nat} {n : Nat} (hn : n < ns.length) : (ht[n]?).getD 0 + 2 ≤ dpt ns l ht n := by
  have := fb_sm_part (fun m => if psn ns l m ≤ psn ns l n then (ht[m]?).getD 0 + 2 else 0) hn
  rw [if_pos (Nat.le_refl _)] at this
  unfold dpt; omega
theorem sm_list (ht : List Nat) : ∀ k, k ≤ ht.length → fb_sm (fun m => (ht[m]?).getD 0) k = (ht.take k).sum
  | 0, _ => by rw [List.take_zero]; rfl
  | k + 1, h => by
    rw [fb_sm_succ, sm_list ht k (by omega), List.take_add_one, List.getElem?_eq_getElem (by omega), Option.toList_some, List.sum_append]
    simp
theorem dpt_le {ns : List Nd} {l : List Int32} {ht : List Nat} {n : Nat} (h1 : ht.length = ns.length) (h2 : ht.sum ≤ 300 + 10 * ns.length) (h3 : ns.length ≤ 40) : dpt ns l ht n ≤ 780 := by
  have e1 : dpt ns l ht n ≤ fb_sm (fun m => (ht[m]?).getD 0 + 2) ns.length := by
    unfold dpt
    refine fb_sm_le (fun k _ => ?_)
    split
    · exact Nat.le_refl _
    · omega
  rw [fb_sm_add (fun m => (ht[m]?).getD 0) (fun _ => 2), fb_sm_const, ← h1, sm_list ht _ (Nat.le_refl _), List.take_length] at e1
  omega
/-- the parts of the model that a judgement reads -/
def MJ (S : Nat → Shp) (R : Nat → Nat → Nat) (N T C K : Nat) : Prop := Lay S R ∧ R 65 9 = T ∧ LyTr S R T ∧ R 65 11 = N ∧ LyNo S R N ∧ R 65 13 = C ∧ LyCs S R C ∧ R 65 15 = K ∧ LyTr S R K ∧ (65 < T ∧ T + 5 < 112) ∧ (65 < N ∧ N + 4 < 112) ∧ (65 < K ∧ K + 5 < 112) ∧ (65 < C ∧ (C + 6 < 112 ∨ 118 < C))
def SF (N T C K : Nat) (J : Nat → Nat → Int64) (ns : List Nd) (l : List Int32) (cs : List Cl) (gv : Nat) (kl : List Int32) (nv a : Nat) (I : Nat → Nat → Int32) : Prop := MCr N T I J ns l ∧ QCl C K gv I cs kl nv ∧ I 65 29 = ii a
def aWk (a t x k : Nat) : Prop := (x = 112 ∧ 480 * a + 40 * t ≤ k ∧ k < 480 * a + 40 * t + 40) ∨ (x = 113 ∧ k = a) ∨ x = 117
/-- rows that a judgement writes -/
def aJd (x _k : Nat) : Prop := 112 ≤ x ∧ x ≤ 117
theorem QCl_of {C K gv nv : Nat} {cs : List Cl} {kl : List Int32} {I I' : Nat → Nat → Int32} (h : QCl C K gv I cs kl nv) (e0 : ∀ x, C ≤ x → x ≤ C + 6 → I' x = I x) (e1 : ∀ x, K ≤ x → x ≤ K + 5 → I' x = I x) : QCl C K gv I' cs kl nv := by
  obtain ⟨q1, q2, q3, q4, q5, q6, q7, q8, q9⟩ := h
  refine ⟨by rw [e0 C (by omega) (by omega)]; exact q1, by rw [e0 C (by omega) (by omega)]; exact q2, by rw [e0 C (by omega) (by omega)]; exact q3, q4, by rw [e0 C (by omega) (by omega)]; exact q5, q6, fun j x hx => ?_, fun i x hx => ?_, q9⟩
  · rw [e0 (C + 1) (by omega) (by omega), e0 (C + 2) (by omega) (by omega), e0 (C + 3) (by omega) (by omega), e0 (C + 4) (by omega) (by omega), e0 (C + 5) (by omega) (by omega), e1 (K + 2) (by omega) (by omega), e1 (K + 3) (by omega) (by omega)]
    exact q7 j x hx
  · rw [e1 (K + 1) (by omega) (by omega), e1 (K + 2) (by omega) (by omega)]
    exact q8 i x hx
section MW
variable {xs : Nat → Int32} {L : Nat} {S : Nat → Shp} {J : Nat → Nat → Int64} {R : Nat → Nat → Nat} {c : Nat × Nat} {N T C K a t gv nv : Nat} {ns : List Nd} {l : List Int32} {cs : List Cl} {kl : List Int32} {I0 : Nat → Nat → Int32}
theorem SF_of {I I' : Nat → Nat → Int32} (hM : MJ S R N T C K) (h : SF N T C K J ns l cs gv kl nv a I) (f : fr aJd I I') : SF N T C K J ns l cs gv kl nv a I' := by
  obtain ⟨-, -, -, -, -, -, -, -, -, hT, hN, hK, hC⟩ := hM
  have hr : ∀ x, (x < 112 ∨ 117 < x) → I' x = I x := fun x hx => fr_row f x (by intro k; unfold aJd; omega)
  refine ⟨MCr_of h.1 (by rw [hr N (by omega)]) rfl (hr _ (by omega)) (hr _ (by omega)) (hr _ (by omega)) (hr _ (by omega)) (hr _ (by omega)), QCl_of h.2.1 (fun x h1 h2 => hr x (by omega)) (fun x h1 h2 => hr x (by omega)), by rw [hr 65 (by omega)]; exact h.2.2⟩
/-- the state of the work at a time -/
def InW (a t nv gv : Nat) (ns : List Nd) (l : List Int32) (cs : List Cl) (kl : List Int32) (I0 I : Nat → Nat → Int32) : Prop := fr (aWk a t) I0 I ∧ (∀ n, n < ns.length → I 117 n = 0 ∨ I 117 n = 1) ∧ (∀ n, n < ns.length → I 117 n = 1 → vE I a t n = (gfd cs (lvA nv a) kl t n gv (own3 ns l I a t n)).1 ∧ v3 (vE I a t n) ∧ (ndk ns n = 1 → ∀ v, adj ns l n v = true → I 117 v = 1)) ∧ ∃ b, I 113 a = bI b ∧ (b = true ↔ I0 113 a = 1 ∨ ∃ n, n < ns.length ∧ I 117 n = 1 ∧ (gfd cs (lvA nv a) kl t n gv (own3 ns l I a t n)).2 = true)
def exW (a t : Nat) (I I' : Nat → Nat → Int32) : Prop := fr (aWk a t) I I' ∧ ∀ v, I 117 v = 1 → I' 117 v = 1 ∧ vE I' a t v = vE I a t v
theorem ext_rf (I : Nat → Nat → Int32) : exW a t I I := ⟨fr_refl _ _, fun v h => ⟨h, rfl⟩⟩
theorem ext_tr {I1 I2 I3 : Nat → Nat → Int32} (h1 : exW a t I1 I2) (h2 : exW a t I2 I3) : exW a t I1 I3 := ⟨fr_trans h1.1 h2.1, fun v h => ⟨(h2.2 v (h1.2 v h).1).1, by rw [(h2.2 v (h1.2 v h).1).2]; exact (h1.2 v h).2⟩⟩
theorem aWk_sub : ∀ x k, aWk a t x k → aJd x k := by intro x k; unfold aWk aJd; omega
theorem vE_old {I I' : Nat → Nat → Int32} (f : fr (aWk a t) I I') {t' n : Nat} (ht : t' < t) (hn : n < 40) : vE I' a t' n = vE I a t' n := by
  unfold vE; exact f _ _ (by unfold aWk; omega)
end MW
