/-! ===== P2: the model's values: work of a node ===== -/
section MW3
variable {xs : Nat → Int32} {L : Nat} {S : Nat → Shp} {J : Nat → Nat → Int64} {R : Nat → Nat → Nat} {c : Nat × Nat} {N T C K a t gv nv : Nat} {ns : List Nd} {l : List Int32} {cs : List Cl} {kl : List Int32} {I0 : Nat → Nat → Int32}
theorem nar3 {v : Int32} (h : v3 v) : vp_nar .byte (v.toInt8.toInt32) = v := by
  rcases h with h | h | h <;> subst h <;> decide
theorem InW_SF {I1 : Nat → Nat → Int32} (hM : MJ S R N T C K) (hS : SF N T C K J ns l cs gv kl nv a I0) (h : InW a t nv gv ns l cs kl I0 I1) : SF N T C K J ns l cs gv kl nv a I1 := SF_of hM hS (fr_sub h.1 aWk_sub)
theorem s_Mput {I1 : Nat → Nat → Int32} {n d : Nat} {Q : Option (Option Value) → MH → Prop} (hM : MJ S R N T C K) (hS : SF N T C K J ns l cs gv kl nv a I0) (hW : CW ns l) (ha : a < 512) (ht : t < 12) (hn : n < ns.length) (hg : gv ≤ 24) (hgl : gv < cs.length) (hc : cs.length ≤ gv + 24) (hcs : ∀ x ∈ cs, x.1 < 40 ∧ x.2.2.2.2.1 < 12 ∧ x.2.2.2.2.2 < 12) (hI : InW a t nv gv ns l cs kl I0 I1) (hy : v3 (own3 ns l I1 a t n)) (had : ndk ns n = 1 → ∀ v, adj ns l n v = true → I1 117 v = 1) (k : ∀ I2, InW a t nv gv ns l cs kl I0 I2 → exW a t I1 I2 → I2 117 n = 1 → Q (some none) (S, I2, J, R, c)) : X xs L (d + 312) 154 78 [.ref 65, .int (ii n), .int (ii t), .int (own3 ns l I1 a t n), .null, .null] [] (S, I1, J, R, c) Q := by
  have hS1 := InW_SF hM hS hI
  have hI' := hI
  obtain ⟨i1, i2, i3, b, ib1, ib2⟩ := hI'
  have hL := hM.1
  have hN40 := hW.1
  refine s_Mgiv hM hS1 ha ht (by omega) hg hgl hc hcs hy ib1 (fun I2 v5 z1 z2 => ?_)
  have hv := gfd_v3 (cs := cs) (lv := lvA nv a) (kl := kl) (t := t) (n := n) (u := gv) hy
  refine b_X14_work_182 hL ?_
  have h29 : I2 65 29 = ii a := by rw [z1 _ _ (by omega)]; exact hS1.2.2
  rw [h29]
  refine s_X14_cell ?_
  rw [cellE]
  have hcl : 480 * a + 40 * t + n < 245760 := by omega
  refine b_X14_work_196 hL (ii_inb hcl (by omega)) (ii_inb (by omega) (by omega)) ?_
  rw [ii_nat (by omega), ii_nat (by omega), nar3 hv, vpb1]
  have e117 : ∀ m, u2 (u2 I2 112 (480 * a + 40 * t + n) (gfd cs (lvA nv a) kl t n gv (own3 ns l I1 a t n)).1) 117 n 1 117 m = if m = n then 1 else I1 117 m := fun m => by
    rw [u2_if]
    by_cases e : m = n
    · rw [if_pos ⟨rfl, e⟩, if_pos e]
    · rw [if_neg (fun z => e z.2), if_neg e, u2_a _ _ _ _ (by decide), z1 _ _ (by omega)]
  have eV : ∀ m, vE (u2 (u2 I2 112 (480 * a + 40 * t + n) (gfd cs (lvA nv a) kl t n gv (own3 ns l I1 a t n)).1) 117 n 1) a t m = if m = n then (gfd cs (lvA nv a) kl t n gv (own3 ns l I1 a t n)).1 else vE I1 a t m := fun m => by
    unfold vE
    rw [u2_a _ _ _ _ (by decide), u2_if]
    by_cases e : m = n
    · rw [if_pos ⟨rfl, by omega⟩, if_pos e]
    · rw [if_neg (by omega), if_neg e, z1 _ _ (by omega)]
  have e113 : u2 (u2 I2 112 (480 * a + 40 * t + n) (gfd cs (lvA nv a) kl t n gv (own3 ns l I1 a t n)).1) 117 n 1 113 a = bI (b || (gfd cs (lvA nv a) kl t n gv (own3 ns l I1 a t n)).2) := by
    rw [u2_a _ _ _ _ (by decide), u2_a _ _ _ _ (by decide)]; exact z2
  have f1 : fr (aWk a t) I1 (u2 (u2 I2 112 (480 * a + 40 * t + n) (gfd cs (lvA nv a) kl t n gv (own3 ns l I1 a t n)).1) 117 n 1) := fr_u _ (fr_u _ (fun x k h => z1 x k (fun w => h (by unfold aWk; omega))) (by unfold aWk; omega)) (by unfold aWk; omega)
  revert e117 eV e113 f1
  generalize u2 (u2 I2 112 (480 * a + 40 * t + n) (gfd cs (lvA nv a) kl t n gv (own3 ns l I1 a t n)).1) 117 n 1 = I3
  intro e117 eV e113 f1
  have rl : ∀ m, I1 117 m = 1 → vE I3 a t m = vE I1 a t m := fun m hm => by
    rw [eV]
    by_cases e : m = n
    · rw [if_pos e, e]; rw [e] at hm; exact (i3 n hn hm).1.symm
    · rw [if_neg e]
  have hown : ∀ m, m < ns.length → (m = n ∨ I1 117 m = 1) → own3 ns l I3 a t m = own3 ns l I1 a t m := fun m hm hq => by
    refine own3_congr hW hm (fun hk v hadj => rl v ?_) (fun _ h0 v hv => vE_old f1 (by omega) (by omega))
    rcases hq with e | e
    · subst e; exact had hk v hadj
    · exact (i3 m hm e).2.2 hk v hadj
  refine k I3 ⟨fr_trans i1 f1, fun m hm => ?_, fun m hm h1 => ?_, _, e113, ?_⟩ ⟨f1, fun v hv => ⟨?_, rl v hv⟩⟩ (by rw [e117, if_pos rfl])
  · rw [e117]
    by_cases e : m = n
    · rw [if_pos e]; exact Or.inr rfl
    · rw [if_neg e]; exact i2 m hm
  · have hr : ∀ v, I1 117 v = 1 → I3 117 v = 1 := fun v hv => by
      rw [e117]
      by_cases e : v = n
      · rw [if_pos e]
      · rw [if_neg e]; exact hv
    by_cases e : m = n
    · subst e
      rw [hown m hm (Or.inl rfl), eV, if_pos rfl]
      exact ⟨rfl, hv, fun hk v hadj => hr v (had hk v hadj)⟩
    · rw [e117, if_neg e] at h1
      rw [hown m hm (Or.inr h1), rl m h1]
      exact ⟨(i3 m hm h1).1, (i3 m hm h1).2.1, fun hk v hadj => hr v ((i3 m hm h1).2.2 hk v hadj)⟩
  · rw [Bool.or_eq_true, ib2]
    constructor
    · rintro ((w | ⟨m, m1, m2, m3⟩) | w)
      · exact Or.inl w
      · refine Or.inr ⟨m, m1, ?_, by rw [hown m m1 (Or.inr m2)]; exact m3⟩
        rw [e117]
        by_cases e : m = n
        · rw [if_pos e]
        · rw [if_neg e]; exact m2
      · exact Or.inr ⟨n, hn, by rw [e117, if_pos rfl], by rw [hown n hn (Or.inl rfl)]; exact w⟩
    · rintro (w | ⟨m, m1, m2, m3⟩)
      · exact Or.inl (Or.inl w)
      · by_cases e : m = n
        · subst e
          rw [hown m m1 (Or.inl rfl)] at m3; exact Or.inr m3
        · rw [e117, if_neg e] at m2
          rw [hown m m1 (Or.inr m2)] at m3
          exact Or.inl (Or.inr ⟨m, m1, m2, m3⟩)
  · rw [e117]
    by_cases e : v = n
    · rw [if_pos e]
    · rw [if_neg e]; exact hv
theorem s_Mwork {ht : List Nat} (hM : MJ S R N T C K) (hS : SF N T C K J ns l cs gv kl nv a I0) (hW : CW ns l) (ha : a < 512) (ht12 : t < 12) (hg : gv ≤ 24) (hgl : gv < cs.length) (hc : cs.length ≤ gv + 24) (hcs : ∀ x ∈ cs, x.1 < 40 ∧ x.2.2.2.2.1 < 12 ∧ x.2.2.2.2.2 < 12) (hp : ∀ t', t' < t → ∀ n, n < ns.length → v3 (vE I0 a t' n)) (hhl : ht.length = ns.length) (hht : ∀ i x h, i < ns.length → ns[i]? = some x → ht[i]? = some h → (x.2.1 = 0 → I0 (N + 3) i = -1 ∧ x.2.2.2.1 = x.2.2.2.2) ∧ (¬ x.2.1 = 0 → I0 (N + 3) i = ii (x.2.2.2.2 - 1) ∧ x.2.2.2.1 < x.2.2.2.2 ∧ tre l (I0 (T + 2)) (I0 (T + 3)) h x.2.2.2.1 (x.2.2.2.2 - 1))) : ∀ (p n : Nat), n < ns.length → psn ns l n < p → ∀ (d : Nat) (Q : Option (Option Value) → MH → Prop) (I' : Nat → Nat → Int32), InW a t nv gv ns l cs kl I0 I' → (∀ I2, InW a t nv gv ns l cs kl I0 I2 → exW a t I' I2 → I2 117 n = 1 → Q (some none) (S, I2, J, R, c)) → X xs L (d + 312 + dpt ns l ht n) 154 0 [.ref 65, .int (ii n), .int (ii t), .null, .null, .null] [] (S, I', J, R, c) Q := by
  have hM' := hM
  obtain ⟨hL, hT, hYT, hN, hYN, hC, hYC, hK, hYK, hT2, hN2, hK2, hC2⟩ := hM'
  have hW' := hW
  obtain ⟨w1, w2, w3, w4, w5, w6⟩ := hW'
  have hlv40 : ∀ y ∈ l, lvP 40 y := fun y hy => by
    rcases w3 y hy with z | ⟨v, z1, z2⟩
    · exact Or.inl z
    · exact Or.inr ⟨v, by omega, z2⟩
  have hst : ∀ I1, InW a t nv gv ns l cs kl I0 I1 → I1 65 29 = ii a ∧ I1 (T + 2) = I0 (T + 2) ∧ I1 (T + 3) = I0 (T + 3) ∧ RT T l I1 := fun I1 h => ⟨(InW_SF hM hS h).2.2, fr_row (fr_sub h.1 aWk_sub) _ (by intro k; unfold aJd; omega), fr_row (fr_sub h.1 aWk_sub) _ (by intro k; unfold aJd; omega), (InW_SF hM hS h).1.2.2.2.2.1⟩
  have hrow : ∀ I1, InW a t nv gv ns l cs kl I0 I1 → ∀ x, (x < 112 ∨ 117 < x) → I1 x = I0 x := fun I1 h x hx => fr_row (fr_sub h.1 aWk_sub) x (by intro k; unfold aJd; omega)
  intro p
  induction p with
  | zero => intro n hn hp0; omega
  | succ p ih =>
    intro n hn hpn d Q I' hI k
    have hx := ge_lt hn
    have hk := ndk_at hx
    obtain ⟨h, hh⟩ : ∃ h, ht[n]? = some h := ⟨ht[n], ge_lt (by omega)⟩
    have hd0 := dpt_0 (l := l) (ht := ht) hn
    rw [hh] at hd0
    have hd0 : h + 2 ≤ dpt ns l ht n := hd0
    obtain ⟨t1, t2⟩ := hht n _ h hn hx hh
    obtain ⟨c1, c2, c3, -⟩ := hS.1
    obtain ⟨n1, n2, n3⟩ := c3 n _ hx
    have hb : inb (ii n) 40 = true := ii_inb (by omega) (by omega)
    have hnn : (ii n).toNatClampNeg = n := ii_nat (by omega)
    have hleaf : ∀ v, v < 40 → hasL l ns[n].2.2.2.1 ns[n].2.2.2.2 v → v < ns.length ∧ adj ns l n v = true := by
      intro v hv ⟨q, q1, q2, q3⟩
      have hvN : v < ns.length := by
        rcases w3 _ (List.mem_of_getElem? q3) with z | ⟨v', z1, z2⟩
        · exact absurd rfl (ng_ii (cop_neg z) hv)
        · rw [ii_inj (by omega) (by omega)] at z2; omega
      exact ⟨hvN, (adj_iff hx).2 ⟨hvN, q, q1, q2, q3⟩⟩
    have hkind : ∀ I1, InW a t nv gv ns l cs kl I0 I1 → I1 (N + 2) n = ii (ns[n].2.1 + 10) ∧ I1 (N + 3) n = I0 (N + 3) n := fun I1 h1 => ⟨by rw [hrow I1 h1 _ (by omega)]; exact n2, by rw [hrow I1 h1 _ (by omega)]⟩
    have hown : ∀ I1, own3 ns l I1 a t n = if ns[n].2.1 = 1 then fo3 (vE I1 a t) (seg l ns[n].2.2.2.1 ns[n].2.2.2.2) else if ns[n].2.1 = 2 ∧ 0 < t then fo3 (vE I1 a (t - 1)) (seg l ns[n].2.2.2.1 ns[n].2.2.2.2) else 2 := fun I1 => by unfold own3; rw [hx]
    have k11 : (ii (ns[n].2.1 + 10) = (11 : Int32)) ↔ ns[n].2.1 = 1 := by
      rw [show (11 : Int32) = ii 11 from rfl, ii_inj (by omega) (by omega)]; omega
    have k12 : (ii (ns[n].2.1 + 10) = (12 : Int32)) ↔ ns[n].2.1 = 2 := by
      rw [show (12 : Int32) = ii 12 from rfl, ii_inj (by omega) (by omega)]; omega
    -- from pc 78 on
    have h78 : ∀ I1 y, InW a t nv gv ns l cs kl I0 I1 → exW a t I' I1 → y = own3 ns l I1 a t n → v3 y → (ndk ns n = 1 → ∀ v, adj ns l n v = true → I1 117 v = 1) → X xs L (d + 312 + dpt ns l ht n) 154 78 [.ref 65, .int (ii n), .int (ii t), .int y, .null, .null] [] (S, I1, J, R, c) Q := by
      intro I1 y j1 j2 j3 j4 j5
      subst j3
      rw [show d + 312 + dpt ns l ht n = (d + dpt ns l ht n) + 312 by omega]
      exact s_Mput hM hS hW ha ht12 hn hg hgl hc hcs j1 j4 j5 (fun I2 m1 m2 m3 => k I2 m1 (ext_tr j2 m2) m3)
    have h42 : ∀ I1 y, InW a t nv gv ns l cs kl I0 I1 → exW a t I' I1 → (¬ ns[n].2.1 = 2 → y = own3 ns l I1 a t n ∧ v3 y ∧ (ndk ns n = 1 → ∀ v, adj ns l n v = true → I1 117 v = 1)) → (ns[n].2.1 = 2 → y = 2) → X xs L (d + 312 + dpt ns l ht n) 154 42 [.ref 65, .int (ii n), .int (ii t), .int y, .null, .null] [] (S, I1, J, R, c) Q := by
      intro I1 y j1 j2 j3 j4
      obtain ⟨g1, g2⟩ := hkind I1 j1
      rw [show d + 312 + dpt ns l ht n = (d + 311 + dpt ns l ht n) + 1 by omega]
      refine b_X14_work_42 hL hN hYN hb (fun z => ?_) (fun z => ?_)
      · rw [hnn, g1, k12] at z
        obtain ⟨z1, z2, z3⟩ := j3 z
        rw [show (d + 311 + dpt ns l ht n) + 1 = d + 312 + dpt ns l ht n by omega]
        exact h78 I1 y j1 j2 z1 z2 z3
      · rw [hnn, g1, k12] at z
        have hk2 : ns[n].2.1 = 2 := Classical.not_not.1 z
        have hy2 := j4 hk2
        refine b_X14_work_56 (fun z2 => ?_) (fun z2 => ?_)
        · rw [ii_zero, ii_le (by omega) (by omega)] at z2
          rw [show (d + 311 + dpt ns l ht n) + 1 = d + 312 + dpt ns l ht n by omega]
          refine h78 I1 y j1 j2 ?_ (by rw [hy2]; exact Or.inr (Or.inr rfl)) (fun hk1 => by omega)
          rw [hown, if_neg (by omega), if_neg (by omega)]; exact hy2
        · rw [ii_zero, ii_le (by omega) (by omega)] at z2
          refine b_X14_work_60 hL hN hYN hb ?_
          obtain ⟨t3, t4, t5⟩ := t2 (by omega)
          rw [hnn, g2, t3, ii_one, ii_sub (by omega)]
          have hstop : ns[n].2.2.2.2 - 1 + 1 = ns[n].2.2.2.2 := by omega
          rw [show d + 311 + dpt ns l ht n = (d + (dpt ns l ht n - h)) + 311 + h by omega]
          refine s_Mval (E := 311) (tm := t - 1) (Inv := InW a t nv gv ns l cs kl I0) (ext := exW a t) (rd := fun _ v => v < ns.length) hL hT hYT w2 hlv40 ha (by omega) (fun _ _ _ => ext_tr) ext_rf (fun I1 I2 v e1 e2 => ⟨e2, vE_old e1.1 (by omega) (by omega)⟩) (fun I1 v e1 e2 => by rw [vE_old e1.1 (by omega) (by omega)]; exact hp _ (by omega) v e2) hst h _ _ _ _ I1 t5 (fun v hv40 hv I2 d2 Q2 x1 o1 o2 o3 o4 o5 => ?_) j1 (fun I2 o1 o2 o3 o4 => ?_)
          · rw [hstop] at hv
            exact b_X14_valueOf_27 (fun _ => o5 I2 o2 (ext_rf _) (hleaf v hv40 hv).1) (fun z => absurd (by decide) z)
          · refine b_X14_work_77 ?_
            rw [show (d + (dpt ns l ht n - h)) + 311 + h + 1 = d + 312 + dpt ns l ht n by omega]
            refine h78 I2 _ o1 (ext_tr j2 o2) ?_ o4 (fun hk1 => by omega)
            rw [hown, if_neg (by omega), if_pos ⟨hk2, by omega⟩, fo3_tre w2 t4 t5]
    rcases hI.2.1 n hn with hr | hr
    · rw [show d + 312 + dpt ns l ht n = (d + 311 + dpt ns l ht n) + 1 by omega]
      refine b_X14_work_0 hL hb (fun _ => ?_) (fun z => absurd (by rw [hnn]; exact hr) z)
      obtain ⟨g1, g2⟩ := hkind I' hI
      refine b_X14_work_10 hL hN hYN hb (fun z => ?_) (fun z => ?_)
      · rw [hnn, g1, k11] at z
        rw [show (d + 311 + dpt ns l ht n) + 1 = d + 312 + dpt ns l ht n by omega]
        exact h42 I' 2 hI (ext_rf _) (fun z2 => ⟨by rw [hown, if_neg z, if_neg (fun w => z2 w.1)], Or.inr (Or.inr rfl), fun hk1 => by omega⟩) (fun _ => rfl)
      · rw [hnn, g1, k11] at z
        have hk1 : ns[n].2.1 = 1 := Classical.not_not.1 z
        refine b_X14_work_26 hL hN hYN hb ?_
        obtain ⟨t3, t4, t5⟩ := t2 (by omega)
        rw [hnn, g2, t3]
        have hstop : ns[n].2.2.2.2 - 1 + 1 = ns[n].2.2.2.2 := by omega
        have eD : d + 311 + dpt ns l ht n = (d + 1) + (310 + (dpt ns l ht n - h)) + h := by omega
        rw [eD]
        refine s_Mval (E := 310 + (dpt ns l ht n - h)) (tm := t) (Inv := InW a t nv gv ns l cs kl I0) (ext := exW a t) (rd := fun I1 v => v < ns.length ∧ I1 117 v = 1) hL hT hYT w2 hlv40 ha ht12 (fun _ _ _ => ext_tr) ext_rf (fun I1 I2 v e1 e2 => ⟨⟨e2.1, (e1.2 v e2.2).1⟩, (e1.2 v e2.2).2⟩) (fun I1 v e1 e2 => (e1.2.2.1 v e2.1 e2.2).2.1) hst h _ _ _ _ I' t5 (fun v hv40 hv I2 d2 Q2 x1 o1 o2 o3 o4 o5 => ?_) hI (fun I2 o1 o2 o3 o4 => ?_)
        · rw [hstop] at hv
          obtain ⟨hvN, hadj⟩ := hleaf v hv40 hv
          have hps : psn ns l v < psn ns l n := psn_mono hvN (rnk_lt w6 w1 (by omega) hadj)
          have hdd := dpt_lt (ht := ht) hn hps
          rw [hh] at hdd
          have hdd : dpt ns l ht v + h + 2 ≤ dpt ns l ht n := hdd
          refine b_X14_valueOf_27 (fun z => absurd rfl z) (fun _ => ?_)
          refine b_X14_valueOf_31 hL hT hYT o1 ?_
          rw [o4, show d2 + (310 + (dpt ns l ht n - h)) = (d2 + (dpt ns l ht n - h - 2 - dpt ns l ht v)) + 312 + dpt ns l ht v by omega]
          refine ih v hvN (by omega) _ _ I2 o2 (fun I3 m1 m2 m3 => ?_)
          rw [show (d2 + (dpt ns l ht n - h - 2 - dpt ns l ht v)) + 312 + dpt ns l ht v + 1 = d2 + (310 + (dpt ns l ht n - h)) + 1 by omega]
          exact o5 I3 m1 m2 ⟨hvN, m3⟩
        · refine b_X14_work_41 ?_
          rw [← eD, show (d + 311 + dpt ns l ht n) + 1 = d + 312 + dpt ns l ht n by omega]
          refine h42 I2 _ o1 o2 (fun _ => ⟨?_, o4, fun _ v hadj => ?_⟩) (fun hk2 => by omega)
          · rw [hown, if_pos hk1, fo3_tre w2 t4 t5]
          · obtain ⟨hvN, hl⟩ := (adj_iff hx).1 hadj
            exact (o3 v (by omega) (by rw [hstop]; exact hl)).2
    · rw [show d + 312 + dpt ns l ht n = (d + 311 + dpt ns l ht n) + 1 by omega]
      refine b_X14_work_0 hL hb (fun z => ?_) (fun _ => b_X14_work_9 (k I' hI (ext_rf _) hr))
      rw [hnn, hr] at z; exact absurd z (by decide)
end MW3
