/-! ===== P4: the queries answer alike ===== -/
/-- two methods that change nothing give one answer -/
def QQ (xs : Nat → Int32) (L : Nat) (M : MH) (j j' : Nat) (as as' : List Value) : Prop := ∃ v : Int32, (∀ Q : Option (Option Value) → MH → Prop, Q (some (some (.int v))) M → X xs L 1999 j 0 as [] M Q) ∧ ∀ Q : Option (Option Value) → MH → Prop, Q (some (some (.int v))) M → X xs L 1999 j' 0 as' [] M Q
theorem AG_gv {ns : List Nd} {l : List Int32} {cs : List Cl} {gv : Nat} {kl : List Int32} {V : Nat} {J : Nat → Nat → Int64} {I : Nat → Nat → Int32} (h : AG ns l cs gv kl V J I) {a : Nat} (ha : a < 2 ^ V) (hf : tb (J 24 (a / 64)) (a % 64) = true) : ∃ u x t, gv ≤ u ∧ cs[u]? = some x ∧ x.2.2.2.2.1 ≤ t ∧ t ≤ x.2.2.2.2.2 ∧ wrg J (a / 64) t u x (a % 64) := by
  have hp := pow_wdn h.2.1
  exact (((h.2.2.2.2.1 (a / 64) (by omega)).2.2.2 (a % 64) (by omega)).1 hf).1
theorem plc_dec {NN m V : Nat} {x1 x2 x3 : Int32} : (¬ plc NN m x1 x2 ∨ ¬ ∃ v, v < V ∧ x3 = ii v) ∨ ∃ n t v, n < NN ∧ t ≤ m ∧ v < V ∧ x1 = ii n ∧ x2 = ii t ∧ x3 = ii v := by
  by_cases h1 : plc NN m x1 x2
  · by_cases h2 : ∃ v, v < V ∧ x3 = ii v
    · obtain ⟨n, t, a1, a2, a3, a4⟩ := h1
      obtain ⟨v, b1, b2⟩ := h2
      exact Or.inr ⟨n, t, v, a1, a2, b1, a3, a4, b2⟩
    · exact Or.inl (Or.inr h2)
  · exact Or.inl (Or.inl h1)
section QUE
variable {xs : Nat → Int32} {L : Nat} {S : Nat → Shp} {I : Nat → Nat → Int32} {J : Nat → Nat → Int64} {R : Nat → Nat → Nat} {c : Nat × Nat} {b b' q q' T T' N N' K K' C C' : Nat} {ns : List Nd} {l : List Int32} {x x1 x2 x3 : Int32}
theorem q_fails (hA : AD S R c b b' q q' T T' N N' K K' C C') (hS : AS q C K I J R ns l) : QQ xs L (S, I, J, R, c) 106 157 [.ref 1] [.ref 65, .null, .null] := by
  rcases hS with ⟨z1, z2⟩ | ⟨cs, gv, kl, g, z⟩
  · subst z2
    exact ⟨-1, fun Q k => s_cfails0 hA.hL z1 k, fun Q k => s_mfails0 hA.hL hA.c13 k⟩
  · have hyC : LyCs S R C := (hA.hC.resolve_left z.c0).2.1
    have hV := z.ki.2.2
    refine ⟨ii (fb_ct (lp J 24) (64 * wdn g.2.length)), fun Q k => s_cfails hA.hL z.i3 hV z.h18 k, fun Q k => s_mfails hA.hL hA.c13 z.c0 (fun Q k => s_mall hA.hL hA.c13 hyC z.c0 z.qc.2.2.1 hV Q k) hV ?_⟩
    rw [← (ag_counts z.ag).1]; exact k
theorem q_out (hA : AD S R c b b' q q' T T' N N' K K' C C') (hS : AS q C K I J R ns l) : QQ xs L (S, I, J, R, c) 107 158 [.ref 1] [.ref 65, .null, .null] := by
  rcases hS with ⟨z1, z2⟩ | ⟨cs, gv, kl, g, z⟩
  · subst z2
    exact ⟨-1, fun Q k => s_cout0 hA.hL z1 k, fun Q k => s_mout0 hA.hL hA.c13 k⟩
  · have hyC : LyCs S R C := (hA.hC.resolve_left z.c0).2.1
    have hV := z.ki.2.2
    refine ⟨ii (fb_ct (lp J 23) (64 * wdn g.2.length)), fun Q k => s_cout hA.hL z.i3 hV z.h18 k, fun Q k => s_mout hA.hL hA.c13 z.c0 (fun Q k => s_mall hA.hL hA.c13 hyC z.c0 z.qc.2.2.1 hV Q k) hV ?_⟩
    rw [← (ag_counts z.ag).2]; exact k
theorem q_failing (hA : AD S R c b b' q q' T T' N N' K K' C C') (hS : AS q C K I J R ns l) : QQ xs L (S, I, J, R, c) 108 159 [.ref 1, .int x] [.ref 65, .int x, .null, .null] := by
  rcases hS with ⟨z1, z2⟩ | ⟨cs, gv, kl, g, z⟩
  · subst z2
    exact ⟨-2, fun Q k => s_cfailing0 hA.hL (Or.inl z1) k, fun Q k => s_mfailing0 hA.hL hA.c13 k⟩
  · have hyC : LyCs S R C := (hA.hC.resolve_left z.c0).2.1
    have hV := z.ki.2.2
    have h512 := pw512 hV
    have hm : ∀ (Q : Option (Option Value) → MH → Prop), Q (some (some (.int (ii (2 ^ g.2.length))))) (S, I, J, R, c) → X xs L 1998 156 0 [.ref 65] [] (S, I, J, R, c) Q := fun Q k => s_mall hA.hL hA.c13 hyC z.c0 z.qc.2.2.1 hV Q k
    have hf : ∀ a, a < 2 ^ g.2.length → lp J 24 a = !decide (I 114 a = 0) := fun a ha => ag_fail z.ag ha
    have hct : ∀ a, a ≤ 2 ^ g.2.length → fb_ct (lp J 24) a = fb_ct (fun a => !decide (I 114 a = 0)) a := fun a ha => fb_ct_cong (fun k hk => hf k (by omega))
    have hlt : ∀ a, a < 64 * wdn g.2.length → lp J 24 a = true → a < 2 ^ g.2.length := fun a h1 h2 => by
      apply Classical.byContradiction
      intro h
      rw [(ag_past z.ag (Nat.not_lt.1 h) h1).2] at h2; cases h2
    by_cases hx : x < 0
    · refine ⟨-2, fun Q k => s_cfailing0 hA.hL (Or.inr hx) k, fun Q k => s_mfailing hA.hL hm hV (fun a ha h1 h2 => ?_) (fun _ => k)⟩
      rw [← h2] at hx
      have := fb_ct_le (fun a => !decide (I 114 a = 0)) a
      exact absurd hx (ii_nn (by omega))
    · obtain ⟨r, hr, rfl⟩ : ∃ r, r < 2147483648 ∧ x = ii r := by
        refine ⟨x.toNatClampNeg, ?_, ii_of (Int32.not_lt.1 hx)⟩
        have := Int32.toInt_lt x
        show x.toInt.toNat < _
        omega
      by_cases hex : ∃ a, a < 2 ^ g.2.length ∧ lp J 24 a = true ∧ fb_ct (lp J 24) a = r
      · obtain ⟨a, h1, h2, h3⟩ := hex
        refine ⟨ii a, fun Q k => s_cfailing hA.hL z.i3 hV z.h18 hr (fun a' g1 g2 g3 => ?_) (fun g1 => ?_), fun Q k => s_mfailing hA.hL hm hV (fun a' g1 g2 g3 => ?_) (fun g1 => ?_)⟩
        · rw [fb_ct_kth_one g2 h2 (by rw [g3, h3])]; exact k
        · have hp := pow_wdn hV
          have hle : a + 1 ≤ 64 * wdn g.2.length := by omega
          have := fb_ct_mono (lp J 24) hle
          rw [fb_ct_succ, h2, if_pos rfl] at this
          omega
        · rw [← hf a' g1] at g2
          have hle := fb_ct_le (fun a => !decide (I 114 a = 0)) a'
          rw [ii_inj (by omega) hr, ← hct a' (by omega)] at g3
          rw [fb_ct_kth_one g2 h2 (by rw [g3, h3])]; exact k
        · refine absurd ?_ (g1 a h1 (by rw [← hf a h1]; exact h2))
          rw [← hct a (by omega), h3]
      · refine ⟨-2, fun Q k => s_cfailing hA.hL z.i3 hV z.h18 hr (fun a' g1 g2 g3 => absurd ⟨a', hlt a' g1 g2, g2, g3⟩ hex) (fun _ => k), fun Q k => s_mfailing hA.hL hm hV (fun a' g1 g2 g3 => absurd ⟨a', g1, by rw [hf a' g1]; exact g2, ?_⟩ hex) (fun _ => k)⟩
        have hle := fb_ct_le (fun a => !decide (I 114 a = 0)) a'
        rw [ii_inj (by omega) hr, ← hct a' (by omega)] at g3
        exact g3
theorem q_short (hA : AD S R c b b' q q' T T' N N' K K' C C') (hM : CM b T N I J ns l) (hS : AS q C K I J R ns l) : QQ xs L (S, I, J, R, c) 109 160 [.ref 1, .int x1, .int x2] [.ref 65, .int x1, .int x2] := by
  by_cases h01 : x2 = 0 ∨ x2 = 1
  · have hno : ∀ {P : Prop}, ¬ x2 = 0 → ¬ x2 = 1 → P := fun a b => by rcases h01 with z | z; exact absurd z a; exact absurd z b
    rcases hS with ⟨z1, z2⟩ | ⟨cs, gv, kl, g, z⟩
    · subst z2
      exact ⟨-2, fun Q k => s_cshort0 hA.hL z1 (fun a b => hno a b) (fun _ => k), fun Q k => s_mshort0 hA.hL hA.c13 (fun a b => hno a b) (fun _ => k)⟩
    · have hyC : LyCs S R C := (hA.hC.resolve_left z.c0).2.1
      have hV := z.ki.2.2
      have h512 := pw512 hV
      have h40 := hM.w.1
      have hI40 : KI 40 cs kl g := ⟨fun x hx => ⟨by have := (z.ki.1 x hx).1; omega, (z.ki.1 x hx).2⟩, z.ki.2⟩
      have hm : ∀ (Q : Option (Option Value) → MH → Prop), Q (some (some (.int (ii (2 ^ g.2.length))))) (S, I, J, R, c) → X xs L 1998 156 0 [.ref 65] [] (S, I, J, R, c) Q := fun Q k => s_mall hA.hL hA.c13 hyC z.c0 z.qc.2.2.1 hV Q k
      by_cases hex : ∃ a, a < 2 ^ g.2.length ∧ x1 = ii a
      · obtain ⟨a, ha, rfl⟩ := hex
        have huq : ∀ a', a' < 2 ^ g.2.length → ii a = ii a' → a' = a := fun a' h1 h2 => ((ii_inj (by omega) (by omega)).1 h2).symm
        have hlp := ag_fail z.ag ha
        unfold lp at hlp
        by_cases hf : I 114 a = 0
        · refine ⟨-2, fun Q k => s_cshort hA.hL z.r13 hA.yq z.kc hI40 hV z.h18 z.i2 (fun a ha h => AG_gv z.ag ha h) (fun a b => hno a b) (fun _ _ => k) (fun _ _ _ _ _ => k) (fun a' u x t g1 g2 g3 => ?_), fun Q k => s_mshort hA.hL h512 hm (fun a b => hno a b) (fun _ _ => k) (fun _ _ _ _ _ => k) (fun a' g1 g2 g3 => ?_)⟩
          · have := huq a' g1 g2; subst this
            rw [hlp, decide_eq_true hf] at g3; cases g3
          · have := huq a' g1 g2; subst this; exact absurd hf g3
        · rw [decide_eq_false hf] at hlp
          refine ⟨if x2 = 0 then I 115 a else I 116 a, fun Q k => s_cshort hA.hL z.r13 hA.yq z.kc hI40 hV z.h18 z.i2 (fun a ha h => AG_gv z.ag ha h) (fun a b => hno a b) (fun _ g1 => absurd ⟨a, ha, rfl⟩ g1) (fun _ a' g1 g2 g3 => ?_) (fun a' u x t g1 g2 g3 g4 => ?_), fun Q k => s_mshort hA.hL h512 hm (fun a b => hno a b) (fun _ g1 => absurd ⟨a, ha, rfl⟩ g1) (fun _ a' g1 g2 g3 => ?_) (fun a' g1 g2 g3 => ?_)⟩
          · have := huq a' g1 g2; subst this
            rw [hlp] at g3; cases g3
          · have := huq a' g1 g2; subst this
            obtain ⟨s1, s2⟩ := ag_short z.ag ha g4 g3
            constructor
            · intro e; rw [if_pos e, s1] at k; exact k
            · intro e; rw [if_neg (by rw [e]; decide), s2] at k; exact k
          · have := huq a' g1 g2; subst this; exact absurd g3 hf
          · have := huq a' g1 g2; subst this
            constructor
            · intro e; rw [if_pos e] at k; exact k
            · intro e; rw [if_neg (by rw [e]; decide)] at k; exact k
      · exact ⟨-2, fun Q k => s_cshort hA.hL z.r13 hA.yq z.kc hI40 hV z.h18 z.i2 (fun a ha h => AG_gv z.ag ha h) (fun a b => hno a b) (fun _ _ => k) (fun _ a' g1 g2 g3 => k) (fun a' u x t g1 g2 g3 g4 => absurd ⟨a', g1, g2⟩ hex), fun Q k => s_mshort hA.hL h512 hm (fun a b => hno a b) (fun _ g1 => k) (fun _ a' g1 g2 g3 => k) (fun a' g1 g2 g3 => absurd ⟨a', g1, g2⟩ hex)⟩
  · rcases hS with ⟨z1, z2⟩ | ⟨cs, gv, kl, g, z⟩
    · subst z2
      exact ⟨-1, fun Q k => s_cshort0 hA.hL z1 (fun a b => k) (fun w => absurd w h01), fun Q k => s_mshort0 hA.hL hA.c13 (fun a b => k) (fun w => absurd w h01)⟩
    · have hyC : LyCs S R C := (hA.hC.resolve_left z.c0).2.1
      have hV := z.ki.2.2
      have h512 := pw512 hV
      have h40 := hM.w.1
      have hI40 : KI 40 cs kl g := ⟨fun x hx => ⟨by have := (z.ki.1 x hx).1; omega, (z.ki.1 x hx).2⟩, z.ki.2⟩
      have hm : ∀ (Q : Option (Option Value) → MH → Prop), Q (some (some (.int (ii (2 ^ g.2.length))))) (S, I, J, R, c) → X xs L 1998 156 0 [.ref 65] [] (S, I, J, R, c) Q := fun Q k => s_mall hA.hL hA.c13 hyC z.c0 z.qc.2.2.1 hV Q k
      exact ⟨-1, fun Q k => s_cshort hA.hL z.r13 hA.yq z.kc hI40 hV z.h18 z.i2 (fun a ha h => AG_gv z.ag ha h) (fun a b => k) (fun w _ => absurd w h01) (fun w => absurd w h01) (fun a' u x t g1 g2 g3 g4 => ⟨fun e => absurd (Or.inl e) h01, fun e => absurd (Or.inr e) h01⟩), fun Q k => s_mshort hA.hL h512 hm (fun a b => k) (fun w _ => absurd w h01) (fun w => absurd w h01) (fun a' g1 g2 g3 => ⟨fun e => absurd (Or.inl e) h01, fun e => absurd (Or.inr e) h01⟩)⟩
theorem q_value (hA : AD S R c b b' q q' T T' N N' K K' C C') (hM : CM b T N I J ns l) (hS : AS q C K I J R ns l) : QQ xs L (S, I, J, R, c) 110 162 [.ref 1, .int x1, .int x2, .int x3] [.ref 65, .int x1, .int x2, .int x3] := by
  rcases hS with ⟨z1, z2⟩ | ⟨cs, gv, kl, g, z⟩
  · subst z2
    exact ⟨-2, fun Q k => s_cvalue0 hA.hL z1 k, fun Q k => s_mvalue0 hA.hL hA.c13 k⟩
  · have hyC : LyCs S R C := (hA.hC.resolve_left z.c0).2.1
    have hV := z.ki.2.2
    have h512 := pw512 hV
    have h40 := hM.w.1
    have hlt := z.kc.2.2.2.1
    have hN := hM.ci.1.1
    have hN' := hM.mc.1
    rcases plc_dec (NN := ns.length) (m := lst cs) (V := 2 ^ g.2.length) (x1 := x1) (x2 := x2) (x3 := x3) with h | ⟨n, t, a, hn, ht, ha, rfl, rfl, rfl⟩
    · refine ⟨-2, fun Q k => s_cvalue hA.hL hA.r4 hA.yb hA.r6 hA.yq hN z.kc.2.2.1 h40 hlt z.h18 hV z.i2 (fun _ => k) (fun n t a g1 g2 g3 g4 g5 g6 => ?_), fun Q k => s_mvalue hA.hL hA.c13 z.c0 hyC hA.n11 hA.yN hN' z.qc.2.2.2.2.1 h40 hlt z.qc.2.2.1 hV (fun _ => k) (fun n t a g1 g2 g3 g4 g5 g6 => ?_)⟩
      · rcases h with h | h
        · exact absurd ⟨n, t, g1, g2, g4, g5⟩ h
        · exact absurd ⟨a, g3, g6⟩ h
      · rcases h with h | h
        · exact absurd ⟨n, t, g1, g2, g4, g5⟩ h
        · exact absurd ⟨a, g3, g6⟩ h
    · have huq : ∀ {u v : Nat}, u < 2000 → v < 2000 → ii u = ii v → v = u := fun h1 h2 h => ((ii_inj (by omega) (by omega)).1 h).symm
      have hno : ∀ {P : Prop}, (¬ plc ns.length (lst cs) (ii n) (ii t) ∨ ¬ ∃ v, v < 2 ^ g.2.length ∧ ii a = ii v) → P := fun h => by
        rcases h with h | h
        · exact absurd ⟨n, t, hn, ht, rfl, rfl⟩ h
        · exact absurd ⟨a, ha, rfl⟩ h
      refine ⟨vC J a t n, fun Q k => s_cvalue hA.hL hA.r4 hA.yb hA.r6 hA.yq hN z.kc.2.2.1 h40 hlt z.h18 hV z.i2 (fun h => hno h) (fun n' t' a' g1 g2 g3 g4 g5 g6 => ?_), fun Q k => s_mvalue hA.hL hA.c13 z.c0 hyC hA.n11 hA.yN hN' z.qc.2.2.2.2.1 h40 hlt z.qc.2.2.1 hV (fun h => hno h) (fun n' t' a' g1 g2 g3 g4 g5 g6 => ?_)⟩
      · rw [huq (by omega) (by omega) g4, huq (by omega) (by omega) g5, huq (by omega) (by omega) g6]; exact k
      · rw [huq (by omega) (by omega) g4, huq (by omega) (by omega) g5, huq (by omega) (by omega) g6, ← ag_value z.ag ha ht hn]; exact k
theorem q_mat (hA : AD S R c b b' q q' T T' N N' K K' C C') (hM : CM b T N I J ns l) (hS : AS q C K I J R ns l) : QQ xs L (S, I, J, R, c) 111 163 [.ref 1, .int x1, .int x2, .int x3] [.ref 65, .int x1, .int x2, .int x3, .null, .null] := by
  rcases hS with ⟨z1, z2⟩ | ⟨cs, gv, kl, g, z⟩
  · subst z2
    exact ⟨-2, fun Q k => s_cmat0 hA.hL z1 k, fun Q k => s_mmat0 hA.hL hA.c13 k⟩
  · have hyC : LyCs S R C := (hA.hC.resolve_left z.c0).2.1
    have hV := z.ki.2.2
    have h40 := hM.w.1
    have hlt := z.kc.2.2.2.1
    have hN := hM.ci.1.1
    have hN' := hM.mc.1
    have hv := z.kc.2.2.2.2.2.1
    rcases plc_dec (NN := ns.length) (m := lst cs) (V := g.2.length) (x1 := x1) (x2 := x2) (x3 := x3) with h | ⟨n, t, v, hn, ht, hvv, rfl, rfl, rfl⟩
    · have hno : ∀ {P : Prop} {n t a : Nat}, n < ns.length → t ≤ lst cs → a < g.2.length → x1 = ii n → x2 = ii t → x3 = ii a → P := fun g1 g2 g3 g4 g5 g6 => by
        rcases h with h | h
        · exact absurd ⟨_, _, g1, g2, g4, g5⟩ h
        · exact absurd ⟨_, g3, g6⟩ h
      exact ⟨-2, fun Q k => s_cmat hA.hL hA.r4 hA.yb hA.r6 z.r13 hA.yq hN z.kc.2.2.1 h40 hlt z.h18 hV hv z.i3 (fun _ => k) (fun n t a g1 g2 g3 g4 g5 g6 _ => hno g1 g2 g3 g4 g5 g6) (fun n t a g1 g2 g3 g4 g5 g6 _ => hno g1 g2 g3 g4 g5 g6), fun Q k => s_mmat hA.hL hA.c13 z.c0 hyC hA.n11 hA.yN hN' z.qc.2.2.2.2.1 h40 hlt z.qc.2.2.1 hV (fun _ => k) (fun n t a g1 g2 g3 g4 g5 g6 _ => hno g1 g2 g3 g4 g5 g6) (fun n t a g1 g2 g3 g4 g5 g6 _ => hno g1 g2 g3 g4 g5 g6)⟩
    · have huq : ∀ {u v : Nat}, u < 2000 → v < 2000 → ii u = ii v → v = u := fun h1 h2 h => ((ii_inj (by omega) (by omega)).1 h).symm
      have hno : ∀ {P : Prop}, (¬ plc ns.length (lst cs) (ii n) (ii t) ∨ ¬ ∃ w, w < g.2.length ∧ ii v = ii w) → P := fun h => by
        rcases h with h | h
        · exact absurd ⟨n, t, hn, ht, rfl, rfl⟩ h
        · exact absurd ⟨v, hvv, rfl⟩ h
      have hag := ag_mat z.ag z.u hvv ht hn
      by_cases hex : ∃ a, a < 2 ^ g.2.length ∧ mat I g.2.length v t n a
      · refine ⟨1, fun Q k => s_cmat hA.hL hA.r4 hA.yb hA.r6 z.r13 hA.yq hN z.kc.2.2.1 h40 hlt z.h18 hV hv z.i3 (fun h => hno h) (fun _ _ _ _ _ _ _ _ _ _ => k) (fun n' t' v' g1 g2 g3 g4 g5 g6 h => ?_), fun Q k => s_mmat hA.hL hA.c13 z.c0 hyC hA.n11 hA.yN hN' z.qc.2.2.2.2.1 h40 hlt z.qc.2.2.1 hV (fun h => hno h) (fun _ _ _ _ _ _ _ _ _ _ => k) (fun n' t' v' g1 g2 g3 g4 g5 g6 h => ?_)⟩
        · rw [huq (by omega) (by omega) g4, huq (by omega) (by omega) g5, huq (by omega) (by omega) g6] at h
          exact absurd (hag.2 hex) h
        · rw [huq (by omega) (by omega) g4, huq (by omega) (by omega) g5, huq (by omega) (by omega) g6] at h
          exact absurd hex h
      · refine ⟨0, fun Q k => s_cmat hA.hL hA.r4 hA.yb hA.r6 z.r13 hA.yq hN z.kc.2.2.1 h40 hlt z.h18 hV hv z.i3 (fun h => hno h) (fun n' t' v' g1 g2 g3 g4 g5 g6 h => ?_) (fun _ _ _ _ _ _ _ _ _ _ => k), fun Q k => s_mmat hA.hL hA.c13 z.c0 hyC hA.n11 hA.yN hN' z.qc.2.2.2.2.1 h40 hlt z.qc.2.2.1 hV (fun h => hno h) (fun n' t' v' g1 g2 g3 g4 g5 g6 h => ?_) (fun _ _ _ _ _ _ _ _ _ _ => k)⟩
        · rw [huq (by omega) (by omega) g4, huq (by omega) (by omega) g5, huq (by omega) (by omega) g6] at h
          exact absurd (hag.1 h) hex
        · rw [huq (by omega) (by omega) g4, huq (by omega) (by omega) g5, huq (by omega) (by omega) g6] at h
          exact absurd h hex
theorem q_count (hA : AD S R c b b' q q' T T' N N' K K' C C') (hM : CM b T N I J ns l) (hS : AS q C K I J R ns l) : QQ xs L (S, I, J, R, c) 113 166 [.ref 1, .int x] [.ref 65, .int x] := by
  have h40 := hM.w.1
  have hrg : ∀ x ∈ ns, x.2.1 ≤ 2 := fun x hx => (hM.w.2.2.2.1 x hx).2.2
  have h22 : (I 65 22 = 0 ∧ ns = []) ∨ (I 65 22 = 1 ∧ I N 4 = ii ns.length ∧ ns.length ≤ 40 ∧ ∀ i x, ns[i]? = some x → I (N + 2) i = ii (x.2.1 + 10) ∧ x.2.1 ≤ 2) := by
    rcases hM.h22 with h | h
    · exact Or.inl h
    · exact Or.inr ⟨h, hM.mc.1, h40, fun i x hx => (hM.mc.2.2.1 i x hx).2⟩
  rcases hS with ⟨z1, z2⟩ | ⟨cs, gv, kl, g, z⟩
  · exact ⟨_, fun Q k => s_ccount (V := 0) (gv := 0) (nc := 0) (m := 0) hA.hL hA.r4 hA.yb hM.ci.1 h40 hrg hA.r6 hA.yq (Or.inl ⟨z1, rfl, rfl, rfl, rfl⟩) k, fun Q k => s_mcount (V := 0) (gv := 0) (nc := 0) (m := 0) hA.hL hA.n11 hA.yN h22 hA.c13 (Or.inl ⟨z2, rfl, rfl, rfl, rfl⟩) k⟩
  · have hyC : LyCs S R C := (hA.hC.resolve_left z.c0).2.1
    have hgc : I q 3 - I q 2 = ii (cs.length - gv) := by
      rw [z.kc.1.1, z.kc.2.1, ii_sub (by have := z.kc.2.2.2.2.2.2.2.2.2.1; omega)]
    exact ⟨_, fun Q k => s_ccount (V := g.2.length) (gv := gv) (nc := cs.length - gv) (m := lst cs) hA.hL hA.r4 hA.yb hM.ci.1 h40 hrg hA.r6 hA.yq (Or.inr ⟨z.h18, z.kc.2.2.2.2.2.1, z.kc.2.1, hgc, z.kc.2.2.1⟩) k, fun Q k => s_mcount (V := g.2.length) (gv := gv) (nc := cs.length - gv) (m := lst cs) hA.hL hA.n11 hA.yN h22 hA.c13 (Or.inr ⟨z.c0, hyC, z.qc.2.2.1, z.qc.1, z.qc.2.1, z.qc.2.2.2.2.1⟩) k⟩
end QUE
