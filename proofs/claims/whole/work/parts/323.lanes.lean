/-! ===== P3: a lane of the class and an assignment of the model ===== -/
theorem le_lst {cs : List Cl} {x : Cl} (h : x ∈ cs) : x.2.2.2.2.2 ≤ lst cs := by
  have : ∀ (cs : List Cl) (m : Nat), (m ≤ cs.foldl (fun m x => max m x.2.2.2.2.2) m) ∧ ∀ x ∈ cs, x.2.2.2.2.2 ≤ cs.foldl (fun m x => max m x.2.2.2.2.2) m := by
    intro cs
    induction cs with
    | nil => intro m; exact ⟨Nat.le_refl _, fun x hx => by cases hx⟩
    | cons y cs ih =>
      intro m
      have := ih (max m y.2.2.2.2.2)
      refine ⟨by rw [List.foldl_cons]; omega, fun x hx => ?_⟩
      rw [List.foldl_cons]
      rcases List.mem_cons.1 hx with e | e
      · rw [e]; omega
      · exact this.2 x e
  exact (this cs 0).2 x h
section LNS
variable {ns : List Nd} {l : List Int32} {cs : List Cl} {gv : Nat} {kl : List Int32} {V w j : Nat} {J : Nat → Nat → Int64} {I : Nat → Nat → Int32}
theorem foR_B (hV : V ≤ 9) (hw : w < 8) (hj : j < 64) (hkl : ∀ y ∈ kl, lvP V y) (s e : Nat) : tb (foR (lnV V w) (seg kl s e)).1 j = foB (lvA V (64 * w + j)) (seg kl s e) := by
  have h1 := ph_fo hj (lv := lnV V w) (lv' := fun v => bE (lvA V (64 * w + j) v)) (cds := seg kl s e) (fun x hx hn => by
    rcases hkl x (List.mem_of_mem_drop (List.mem_of_mem_take hx)) with z | ⟨v, z1, z2⟩
    · exact absurd (cop_neg z) hn
    · rw [z2, ii_nat (by omega)]
      unfold ph lnV bE lvA
      simp only
      rw [tb_not hj, lnW (by omega) hw hj])
  have h2 := bE_fo (lv := lvA V (64 * w + j)) (lv' := fun v => bE (lvA V (64 * w + j) v)) (cds := seg kl s e) (fun x _ _ => rfl)
  have h3 : (ph j (foR (lnV V w) (seg kl s e))).1 = foB (lvA V (64 * w + j)) (seg kl s e) := by rw [h1]; exact h2
  exact h3
theorem say_hol (hV : V ≤ 9) (hw : w < 8) (hj : j < 64) (hkl : ∀ y ∈ kl, lvP V y) (h : CkW ns l cs gv kl V J w) {u : Nat} {x : Cl} (hx : cs[u]? = some x) : tb (J 19 (48 * w + u)) j = sayB (lvA V (64 * w + j)) kl x ∧ tb (J 20 (48 * w + u)) j = holB (lvA V (64 * w + j)) kl x := by
  rw [(h.1 u x hx).1, (h.1 u x hx).2]
  refine ⟨foR_B hV hw hj hkl _ _, ?_⟩
  unfold holR holB
  by_cases e : x.2.2.1 < x.2.2.2.1
  · rw [if_pos e, if_pos e]; exact foR_B hV hw hj hkl _ _
  · rw [if_neg e, if_neg e]; exact tb_m1 hj
theorem gl_mem (hV : V ≤ 9) (hw : w < 8) (hj : j < 64) (hkl : ∀ y ∈ kl, lvP V y) (h : CkW ns l cs gv kl V J w) {b : Bool} {t n : Nat} : GB cs J w gv 0 b t n j ↔ b ∈ gl cs (lvA V (64 * w + j)) kl t n gv := by
  unfold GB gl
  rw [List.mem_map]
  constructor
  · rintro ⟨u, x, y1, y2, y3, y4, y5, y6, y7⟩
    have hs := say_hol hV hw hj hkl h y1
    refine ⟨x, List.mem_filter.2 ⟨?_, ?_⟩, by rw [← hs.1]; exact y7⟩
    · refine List.mem_of_getElem? (i := u) ?_
      rw [List.getElem?_take, if_pos (by rcases y2 with z | z <;> omega)]; exact y1
    · rw [Bool.and_eq_true, decide_eq_true_eq, ← hs.2]; exact ⟨⟨y3, y4, y5⟩, y6⟩
  · rintro ⟨x, hx, y7⟩
    obtain ⟨h1, h2⟩ := List.mem_filter.1 hx
    obtain ⟨u, hu⟩ := List.getElem?_of_mem h1
    rw [List.getElem?_take] at hu
    split at hu
    · rename_i hug
      have hs := say_hol hV hw hj hkl h hu
      rw [Bool.and_eq_true, decide_eq_true_eq, ← hs.2] at h2
      exact ⟨u, x, hu, Or.inl hug, h2.1.1, h2.1.2.1, h2.1.2.2, h2.2, by rw [hs.1]; exact y7⟩
    · cases hu
def pq (J : Nat → Nat → Int64) (I : Nat → Nat → Int32) (w j t n : Nat) : Prop := ph j (rlv J w t n) = enc (vE I (64 * w + j) t n) ∧ v3 (vE I (64 * w + j) t n)
theorem own_eq (hW : CW ns l) (hj : j < 64) {t n : Nat} (hn : n < ns.length) (h1 : ndk ns n = 1 → ∀ v, adj ns l n v = true → pq J I w j t v) (h2 : ndk ns n = 2 → 0 < t → ∀ v, v < ns.length → pq J I w j (t - 1) v) : ph j (ownR ns l J w t n) = enc (own3 ns l I (64 * w + j) t n) ∧ v3 (own3 ns l I (64 * w + j) t n) := by
  obtain ⟨w1, w2, w3, w4, w5, w6⟩ := hW
  have hx := ge_lt hn
  have hk := ndk_at hx
  have hleaf : ∀ y ∈ seg l ns[n].2.2.2.1 ns[n].2.2.2.2, ¬ y < 0 → adj ns l n y.toNatClampNeg = true ∧ y.toNatClampNeg < ns.length := by
    intro y hy hny
    obtain ⟨p, p1, p2, p3⟩ := seg_mem hy
    rcases w3 y (List.mem_of_getElem? p3) with z | ⟨v, v1, v2⟩
    · exact absurd (cop_neg z) hny
    · rw [v2, ii_nat (by omega)]
      exact ⟨(adj_iff hx).2 ⟨v1, p, p1, p2, by rw [← v2]; exact p3⟩, v1⟩
  unfold ownR own3
  rw [hx]
  simp only
  have z0 : ph j (0, 0) = enc 2 ∧ v3 2 := by
    refine ⟨?_, Or.inr (Or.inr rfl)⟩
    unfold ph; rw [tb_0]; rfl
  have go : ∀ t', (∀ y ∈ seg l ns[n].2.2.2.1 ns[n].2.2.2.2, ¬ y < 0 → pq J I w j t' y.toNatClampNeg) → ph j (foR (rlv J w t') (seg l ns[n].2.2.2.1 ns[n].2.2.2.2)) = enc (fo3 (vE I (64 * w + j) t') (seg l ns[n].2.2.2.1 ns[n].2.2.2.2)) ∧ v3 (fo3 (vE I (64 * w + j) t') (seg l ns[n].2.2.2.1 ns[n].2.2.2.2)) := by
    intro t' hh
    have e1 := ph_fo hj (lv := rlv J w t') (lv' := fun v => enc (vE I (64 * w + j) t' v)) (cds := seg l ns[n].2.2.2.1 ns[n].2.2.2.2) (fun x hx hn => (hh x hx hn).1)
    have e2 := enc_fo (lv := vE I (64 * w + j) t') (lv' := fun v => enc (vE I (64 * w + j) t' v)) (cds := seg l ns[n].2.2.2.1 ns[n].2.2.2.2) (fun x hx hn => ⟨(hh x hx hn).2, rfl⟩)
    exact ⟨by rw [e1, e2.2], e2.1⟩
  by_cases k1 : ns[n].2.1 = 1
  · rw [if_pos k1, if_pos k1]
    exact go t (fun y hy hny => h1 (by omega) _ (hleaf y hy hny).1)
  · rw [if_neg k1, if_neg k1]
    by_cases k2 : ns[n].2.1 = 2 ∧ 0 < t
    · rw [if_pos k2, if_pos k2]
      exact go (t - 1) (fun y hy hny => h2 (by omega) k2.2 _ (hleaf y hy hny).2)
    · rw [if_neg k2, if_neg k2]; exact z0
theorem enc_ext {p q : Pr} (h1 : p.1 = true ↔ q.1 = true) (h2 : p.2 = true ↔ q.2 = true) : p = q := by
  obtain ⟨a, b⟩ := p
  obtain ⟨a', b'⟩ := q
  cases a <;> cases b <;> cases a' <;> cases b' <;> simp_all
/-- one node at one time -/
theorem stp (hW : CW ns l) (hV : V ≤ 9) (hw : w < 8) (hj : j < 64) (hkl : ∀ y ∈ kl, lvP V y) (h : CkW ns l cs gv kl V J w) (hM : MVl ns l cs gv kl V I (64 * w + j) (lst cs + 1)) {t n : Nat} (ht : t ≤ lst cs) (hn : n < ns.length) (h1 : ndk ns n = 1 → ∀ v, adj ns l n v = true → pq J I w j t v) (h2 : ndk ns n = 2 → 0 < t → ∀ v, v < ns.length → pq J I w j (t - 1) v) : (bth J w t n j ↔ (gfd cs (lvA V (64 * w + j)) kl t n gv (own3 ns l I (64 * w + j) t n)).2 = true) ∧ ((gfd cs (lvA V (64 * w + j)) kl t n gv (own3 ns l I (64 * w + j) t n)).2 = false → pq J I w j t n) := by
  obtain ⟨o1, o2⟩ := own_eq hW hj hn h1 h2
  obtain ⟨c1, c2⟩ := h.2.1 t n j ht hn hj
  rw [gl_mem hV hw hj hkl h] at c1 c2
  obtain ⟨m1, m2⟩ := hM.1 t (by omega) n hn
  have e1 : tb (ownR ns l J w t n).1 j = (enc (own3 ns l I (64 * w + j) t n)).1 := by rw [← o1]; rfl
  have e2 : tb (ownR ns l J w t n).2 j = (enc (own3 ns l I (64 * w + j) t n)).2 := by rw [← o1]; rfl
  rw [e1] at c1
  rw [e2] at c2
  obtain ⟨g1, g2⟩ := gs_fold (gl cs (lvA V (64 * w + j)) kl t n gv) (own3 ns l I (64 * w + j) t n) false o2
  have hb : bth J w t n j ↔ (gfd cs (lvA V (64 * w + j)) kl t n gv (own3 ns l I (64 * w + j) t n)).2 = true := by
    unfold bth gfd
    rw [g1, c1, c2]
    constructor
    · rintro ⟨z1, z2⟩; exact Or.inr ⟨z1.symm, z2.symm⟩
    · rintro (z | ⟨z1, z2⟩)
      · cases z
      · exact ⟨z1.symm, z2.symm⟩
  refine ⟨hb, fun hf => ⟨?_, m2⟩⟩
  rw [m1]
  have hne : ¬ (((enc (own3 ns l I (64 * w + j) t n)).1 = true ∨ true ∈ gl cs (lvA V (64 * w + j)) kl t n gv) ∧ ((enc (own3 ns l I (64 * w + j) t n)).2 = true ∨ false ∈ gl cs (lvA V (64 * w + j)) kl t n gv)) := fun z => by
    have := g1.2 (Or.inr z)
    unfold gfd at hf
    rw [hf] at this; cases this
  obtain ⟨f1, f2⟩ := g2 hne
  refine enc_ext ?_ ?_
  · show tb (J 21 (ix w t n)) j = true ↔ _
    unfold gfd
    rw [c1, f1]; exact Or.comm
  · show tb (J 22 (ix w t n)) j = true ↔ _
    unfold gfd
    rw [c2, f2]; exact Or.comm
theorem all_eq (hW : CW ns l) (hV : V ≤ 9) (hw : w < 8) (hj : j < 64) (hkl : ∀ y ∈ kl, lvP V y) (h : CkW ns l cs gv kl V J w) (hM : MVl ns l cs gv kl V I (64 * w + j) (lst cs + 1)) (hno : ∀ t n, t ≤ lst cs → n < ns.length → ¬ bth J w t n j ∨ (gfd cs (lvA V (64 * w + j)) kl t n gv (own3 ns l I (64 * w + j) t n)).2 = false) : ∀ t, t ≤ lst cs → ∀ n, n < ns.length → pq J I w j t n ∧ (bth J w t n j ↔ (gfd cs (lvA V (64 * w + j)) kl t n gv (own3 ns l I (64 * w + j) t n)).2 = true) := by
  intro t
  induction t using Nat.strongRecOn with
  | _ t iht =>
    intro ht
    have main : ∀ p n, psn ns l n < p → n < ns.length → pq J I w j t n ∧ (bth J w t n j ↔ (gfd cs (lvA V (64 * w + j)) kl t n gv (own3 ns l I (64 * w + j) t n)).2 = true) := by
      intro p
      induction p with
      | zero => intro n hp; omega
      | succ p ih =>
        intro n hp hn
        obtain ⟨s1, s2⟩ := stp hW hV hw hj hkl h hM ht hn (fun hk v hadj => by
          have := psn_mono (ns := ns) (l := l) (adj_lt hadj) (rnk_lt hW.2.2.2.2.2 hW.1 hk hadj)
          exact (ih v (by omega) (adj_lt hadj)).1) (fun _ h0 v hv => (iht (t - 1) (by omega) (by omega) v hv).1)
        refine ⟨s2 ?_, s1⟩
        rcases hno t n ht hn with z | z
        · rw [s1, Bool.not_eq_true] at z; exact z
        · exact z
    exact fun n hn => main (psn ns l n + 1) n (Nat.lt_succ_self _) hn
theorem lane_cmp (hW : CW ns l) (hV : V ≤ 9) (hwV : w < wdn V) (hj : j < 64) (hl : 64 * w + j < 2 ^ V) (hkl : ∀ y ∈ kl, lvP V y) (hcs : ∀ x ∈ cs, x.1 < ns.length) (h : CkW ns l cs gv kl V J w) (hM : MJg ns l cs gv kl V I (64 * w + j)) : (tb (J 23 w) j = true ↔ I 113 (64 * w + j) = 1) ∧ (tb (J 24 w) j = true ↔ I 113 (64 * w + j) = 0 ∧ I 114 (64 * w + j) = 1) ∧ (I 113 (64 * w + j) = 0 → ∀ t, t ≤ lst cs → ∀ n, n < ns.length → pq J I w j t n) ∧ (I 113 (64 * w + j) = 0 → ∀ u x t, cs[u]? = some x → t ≤ x.2.2.2.2.2 → (wrg J w t u x j ↔ ¬ met kl V I (64 * w + j) t x)) := by
  have hw : w < 8 := by have := wdn_le hV; omega
  obtain ⟨hMV, hM1, hM0⟩ := hM
  have hMV' := hMV
  obtain ⟨-, b, hb1, hb2⟩ := hMV'
  have hex : (∃ t n, t ≤ lst cs ∧ n < ns.length ∧ bth J w t n j) ↔ b = true := by
    rw [hb2]
    constructor
    · intro hh
      refine Classical.byContradiction fun hno => ?_
      have := all_eq hW hV hw hj hkl h hMV (fun t n ht hn => Or.inr (by
        rw [← Bool.not_eq_true]; exact fun z => hno ⟨t, by omega, n, hn, z⟩))
      obtain ⟨t, n, r1, r2, r3⟩ := hh
      exact hno ⟨t, by omega, n, r2, (this t r1 n r2).2.1 r3⟩
    · rintro hh
      refine Classical.byContradiction fun hno => ?_
      have := all_eq hW hV hw hj hkl h hMV (fun t n ht hn => Or.inl (fun z => hno ⟨t, n, ht, hn, z⟩))
      obtain ⟨t, r1, n, r2, r3⟩ := hh
      exact hno ⟨t, n, by omega, r2, (this t (by omega) n r2).2.2 r3⟩
  have h23 : tb (J 23 w) j = true ↔ I 113 (64 * w + j) = 1 := by
    rw [h.2.2.1 j hj, hex, hb1, bI_1]
    exact ⟨fun z => z.1, fun z => ⟨z, hl⟩⟩
  have hpq : I 113 (64 * w + j) = 0 → ∀ t, t ≤ lst cs → ∀ n, n < ns.length → pq J I w j t n := by
    intro h0 t ht n hn
    rw [hb1, bI_0] at h0
    refine (all_eq hW hV hw hj hkl h hMV (fun t n ht hn => Or.inl (fun z => ?_)) t ht n hn).1
    have := hex.1 ⟨t, n, ht, hn, z⟩
    rw [h0] at this; cases this
  have hwr : I 113 (64 * w + j) = 0 → ∀ u x t, cs[u]? = some x → t ≤ x.2.2.2.2.2 → (wrg J w t u x j ↔ ¬ met kl V I (64 * w + j) t x) := by
    intro h0 u x t hx ht
    have hxm := List.mem_of_getElem? hx
    have hl2 := le_lst hxm
    obtain ⟨p1, p2⟩ := hpq h0 t (by omega) x.1 (hcs x hxm)
    have hs := say_hol hV hw hj hkl h hx
    have q1 : tb (J 21 (ix w t x.1)) j = decide (vE I (64 * w + j) t x.1 = 1) := congrArg Prod.fst p1
    have q2 : tb (J 22 (ix w t x.1)) j = decide (vE I (64 * w + j) t x.1 = 0) := congrArg Prod.snd p1
    unfold wrg met
    rw [hs.1, hs.2, q1, q2]
    cases holB (lvA V (64 * w + j)) kl x <;> cases sayB (lvA V (64 * w + j)) kl x <;> simp [bI]
  refine ⟨h23, ?_, hpq, hwr⟩
  rw [h.2.2.2 j hj]
  have h01 : I 113 (64 * w + j) = 0 ∨ I 113 (64 * w + j) = 1 := by rw [hb1]; exact bI_01 b
  constructor
  · rintro ⟨⟨u, x, t, r1, r2, r3, r4, r5⟩, r6, -⟩
    have h0 : I 113 (64 * w + j) = 0 := by
      rcases h01 with z | z
      · exact z
      · rw [h23.2 z] at r6; cases r6
    refine ⟨h0, ?_⟩
    rcases hM0 h0 with ⟨z1, z2⟩ | ⟨z1, -⟩
    · exact absurd (z2 u x t r1 r2 r3 r4) ((hwr h0 u x t r2 r4).1 r5)
    · exact z1
  · rintro ⟨h0, h1⟩
    rcases hM0 h0 with ⟨z1, -⟩ | ⟨-, u, x, t, r1, r2, r3, r4, r5, -⟩
    · rw [z1] at h1; exact absurd h1 (by decide)
    · refine ⟨⟨u, x, t, r1, r2, r3, r4, (hwr h0 u x t r2 r4).2 r5⟩, ?_, hl⟩
      rw [← Bool.not_eq_true, h23, h0]; decide
end LNS
