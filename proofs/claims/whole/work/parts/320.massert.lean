/-! ===== P2: assertion() of the model ===== -/
def aJv (x k : Nat) : Prop := (x = 65 ∧ k = 29) ∨ (112 ≤ x ∧ x ≤ 117)
theorem Lay_eq {S S' : Nat → Shp} {R R' : Nat → Nat → Nat} (h : Lay S R) (hs : ∀ x, x ≤ 118 → S' x = S x ∧ R' x = R x) : Lay S' R' := by
  refine ⟨fun p hp => ?_, fun p hp => ?_⟩
  · have := of_decide_eq_true (List.all_eq_true.1 layS_le p hp)
    rw [(hs p.1 (by omega)).1]; exact h.1 p hp
  · have hle : layR.all (fun p => decide (p.1 ≤ 118)) = true := by decide
    have := of_decide_eq_true (List.all_eq_true.1 hle p hp)
    rw [(hs p.1 this).2]; exact h.2 p hp
theorem LyTr_eq {S S' : Nat → Shp} {R R' : Nat → Nat → Nat} {a : Nat} (h : LyTr S R a) (hs : ∀ x, a ≤ x → x ≤ a + 5 → S' x = S x ∧ R' x = R x) : LyTr S' R' a := by
  obtain ⟨⟨s0, s1, s2, s3, s4, s5⟩, r⟩ := h
  refine ⟨⟨by rw [(hs _ (by omega) (by omega)).1]; exact s0, by rw [(hs _ (by omega) (by omega)).1]; exact s1, by rw [(hs _ (by omega) (by omega)).1]; exact s2, by rw [(hs _ (by omega) (by omega)).1]; exact s3, by rw [(hs _ (by omega) (by omega)).1]; exact s4, by rw [(hs _ (by omega) (by omega)).1]; exact s5⟩, ?_⟩
  rw [(hs a (by omega) (by omega)).2]; exact r
theorem LyNo_eq {S S' : Nat → Shp} {R R' : Nat → Nat → Nat} {a : Nat} (h : LyNo S R a) (hs : ∀ x, a ≤ x → x ≤ a + 4 → S' x = S x ∧ R' x = R x) : LyNo S' R' a := by
  obtain ⟨⟨s0, s1, s2, s3, s4⟩, r⟩ := h
  refine ⟨⟨by rw [(hs _ (by omega) (by omega)).1]; exact s0, by rw [(hs _ (by omega) (by omega)).1]; exact s1, by rw [(hs _ (by omega) (by omega)).1]; exact s2, by rw [(hs _ (by omega) (by omega)).1]; exact s3, by rw [(hs _ (by omega) (by omega)).1]; exact s4⟩, ?_⟩
  rw [(hs a (by omega) (by omega)).2]; exact r
theorem LyCs_eq {S S' : Nat → Shp} {R R' : Nat → Nat → Nat} {a : Nat} (h : LyCs S R a) (hs : ∀ x, a ≤ x → x ≤ a + 6 → S' x = S x ∧ R' x = R x) : LyCs S' R' a := by
  obtain ⟨⟨s0, s1, s2, s3, s4, s5, s6⟩, r⟩ := h
  refine ⟨⟨by rw [(hs _ (by omega) (by omega)).1]; exact s0, by rw [(hs _ (by omega) (by omega)).1]; exact s1, by rw [(hs _ (by omega) (by omega)).1]; exact s2, by rw [(hs _ (by omega) (by omega)).1]; exact s3, by rw [(hs _ (by omega) (by omega)).1]; exact s4, by rw [(hs _ (by omega) (by omega)).1]; exact s5, by rw [(hs _ (by omega) (by omega)).1]; exact s6⟩, ?_⟩
  rw [(hs a (by omega) (by omega)).2]; exact r
section MAS
variable {xs : Nat → Int32} {L d : Nat} {S : Nat → Shp} {J : Nat → Nat → Int64} {R : Nat → Nat → Nat} {c : Nat × Nat} {N T C K a gv nv : Nat} {ns : List Nd} {l : List Int32} {cs : List Cl} {kl : List Int32} {I : Nat → Nat → Int32} {Q : Option (Option Value) → MH → Prop}
theorem MJg_congr {I' : Nat → Nat → Int32} (hW : CW ns l) (hlt : lst cs < 12) (hcs : ∀ x ∈ cs, x.1 < ns.length ∧ x.2.2.2.2.1 ≤ x.2.2.2.2.2 ∧ x.2.2.2.2.2 < 12) (h1 : ∀ i, i < 480 → I' 112 (480 * a + i) = I 112 (480 * a + i)) (h2 : I' 113 a = I 113 a ∧ I' 114 a = I 114 a ∧ I' 115 a = I 115 a ∧ I' 116 a = I 116 a) (h : MJg ns l cs gv kl nv I a) : MJg ns l cs gv kl nv I' a := by
  obtain ⟨⟨g1, b, g2, g3⟩, g4, g5⟩ := h
  obtain ⟨e3, e4, e5, e6⟩ := h2
  have hN := hW.1
  have hv : ∀ t n, t < 12 → n < 40 → vE I' a t n = vE I a t n := fun t n ht hn => by
    unfold vE; rw [show 480 * a + 40 * t + n = 480 * a + (40 * t + n) by omega]; exact h1 _ (by omega)
  have ho : ∀ t n, t < 12 → n < ns.length → own3 ns l I' a t n = own3 ns l I a t n := fun t n ht hn => own3_congr hW hn (fun _ v hadj => hv t v ht (by have := adj_lt hadj; omega)) (fun _ _ v hvn => hv (t - 1) v (by omega) (by omega))
  have hm : ∀ u x t, cs[u]? = some x → t ≤ x.2.2.2.2.2 → (met kl nv I' a t x ↔ met kl nv I a t x) := fun u x t hx ht => by
    have := hcs x (List.mem_of_getElem? hx)
    unfold met; rw [hv t x.1 (by omega) (by omega)]
  refine ⟨⟨fun t ht n hn => ?_, b, by rw [e3]; exact g2, ?_⟩, fun w => by rw [e4]; rw [e3] at w; exact g4 w, fun w => ?_⟩
  · rw [hv t n (by omega) (by omega), ho t n (by omega) hn]; exact g1 t ht n hn
  · rw [g3]
    constructor
    · rintro ⟨t, r1, n, r2, r3⟩; exact ⟨t, r1, n, r2, by rw [ho t n (by omega) r2]; exact r3⟩
    · rintro ⟨t, r1, n, r2, r3⟩; exact ⟨t, r1, n, r2, by rw [← ho t n (by omega) r2]; exact r3⟩
  · rw [e3] at w
    rcases g5 w with ⟨f1, f2⟩ | ⟨f1, u, x, t, f2, f3, f4, f5, f6, f7, f8, f9⟩
    · exact Or.inl ⟨by rw [e4]; exact f1, fun u x t r1 r2 r3 r4 => (hm u x t r2 r4).2 (f2 u x t r1 r2 r3 r4)⟩
    · exact Or.inr ⟨by rw [e4]; exact f1, u, x, t, f2, f3, f4, f5, fun z => f6 ((hm u x t f3 f5).1 z), by rw [e5]; exact f7, by rw [e6]; exact f8, fun u' x' t' r1 r2 r3 r4 r5 => (hm u' x' t' r2 r4).2 (f9 u' x' t' r1 r2 r3 r4 r5)⟩
theorem s_Mjudges (hM : MJ S R N T C K) (hC1 : MCr N T I J ns l) (hC2 : QCl C K gv I cs kl nv) (hW : CW ns l) (hg : gv ≤ 24) (hgl : gv < cs.length) (hc : cs.length ≤ gv + 24) (hcs : ∀ x ∈ cs, x.1 < ns.length ∧ x.2.2.2.2.1 ≤ x.2.2.2.2.2 ∧ x.2.2.2.2.2 < 12) (k : ∀ I', fr aJv I I' → QCl C K gv I' cs kl nv → (∀ a, a < 2 ^ nv → MJg ns l cs gv kl nv I' a) → Q (some (some (.int (-2)))) (S, I', J, R, c)) : X xs L (d + 1094) 147 171 [.ref 65, .int (ii 0)] [] (S, I, J, R, c) Q := by
  have hM' := hM
  obtain ⟨hL, hT, hYT, hN, hYN, hC, hYC, hK, hYK, hT2, hN2, hK2, hC2'⟩ := hM'
  have hnv : nv ≤ 9 := hC2.2.2.2.1
  have h512 : 2 ^ nv ≤ 512 := by
    have : ∀ V : Fin 10, 2 ^ V.val ≤ 512 := by decide
    exact this ⟨nv, by omega⟩
  have hrow : ∀ I1, fr aJv I I1 → ∀ x, ((65 < x ∧ x < 112) ∨ 117 < x) → I1 x = I x := fun I1 f x hx => fr_row f x (by intro k; unfold aJv; omega)
  have hst : ∀ I1, fr aJv I I1 → MCr N T I1 J ns l ∧ QCl C K gv I1 cs kl nv := fun I1 f => by
    have hr := hrow I1 f
    exact ⟨MCr_of hC1 (by rw [hr N (by omega)]) rfl (hr _ (by omega)) (hr _ (by omega)) (hr _ (by omega)) (hr _ (by omega)) (hr _ (by omega)), QCl_of hC2 (fun x h1 h2 => hr x (by omega)) (fun x h1 h2 => hr x (by omega))⟩
  have main : ∀ (f a : Nat) (I1 : Nat → Nat → Int32), 2 ^ nv - a = f → a ≤ 2 ^ nv → fr aJv I I1 → (∀ a', a' < a → MJg ns l cs gv kl nv I1 a') → X xs L (d + 1094) 147 171 [.ref 65, .int (ii a)] [] (S, I1, J, R, c) Q := by
    intro f
    induction f with
    | zero =>
      intro a I1 g1 g2 g3 g4
      refine b_X14_assertion_171 hL hC hYC (fun _ => b_X14_assertion_195 (k I1 g3 (hst I1 g3).2 (fun a' ha' => g4 a' (by omega)))) (fun z => ?_)
      rw [(hst I1 g3).2.2.2.1, asg_E hnv, ii_le (by omega) (by omega)] at z; omega
    | succ f ih =>
      intro a I1 g1 g2 g3 g4
      refine b_X14_assertion_171 hL hC hYC (fun z => ?_) (fun _ => b_X14_assertion_184 hL ?_)
      · rw [(hst I1 g3).2.2.2.1, asg_E hnv, ii_le (by omega) (by omega)] at z; omega
      obtain ⟨m1, m2⟩ := hst I1 g3
      refine s_Mjudge hM m1 m2 hW (by omega) hg hgl hc hcs (fun I2 f2 j2 => b_X14_assertion_189 ?_)
      rw [ii_add1]
      refine ih (a + 1) I2 (by omega) (by omega) (fr_trans g3 (fr_sub f2 (by intro x k; unfold aJu aJv; omega))) (fun a' ha' => ?_)
      by_cases e : a' = a
      · rw [e]; exact j2
      · refine MJg_congr hW hC2.2.2.2.2.2.1 hcs (fun i hi => f2 _ _ (by unfold aJu; omega)) ⟨f2 _ _ (by unfold aJu; omega), f2 _ _ (by unfold aJu; omega), f2 _ _ (by unfold aJu; omega), f2 _ _ (by unfold aJu; omega)⟩ (g4 a' (by omega))
  exact main (2 ^ nv) 0 I (Nat.sub_zero _) (Nat.zero_le _) (fr_refl _ _) (fun a' ha' => by omega)
theorem s_X14_assertion {C0 K0 len m : Nat} {kd : Nat → Int32} {key : Nat → Int64} {pl : Nat → Nat} (hL : Lay S R) (hT : R 65 9 = T) (hYT : LyTr S R T) (hN : R 65 11 = N) (hYN : LyNo S R N) (r13 : R 65 13 = C0) (r14 : R 65 14 = C) (hYC : LyCs S R C) (r15 : R 65 15 = K0) (r16 : R 65 16 = K) (hYK : LyTr S R K) (hT1 : 70 < T ∧ T < 78) (hN1 : 82 < N ∧ N < 89) (hK1 : 99 < K ∧ K < 107) (hC1 : C = 93 ∨ (118 < C ∧ C + 6 ≤ c.1)) (hc118 : 118 ≤ c.1) (hM : MCr N T I J ns l) (hW : CW ns l) (hl : I 65 1 = ii len) (hl2 : len ≤ 2000) (hb : ∀ i, i < len → byt (I 66 i)) (hTK : TKP (I 66) len kd key pl m)
    (hA : ∀ p cs gv kl g, asr kd key m (ns.map Prod.fst) = (true, p, cs, gv, kl, g) → (∀ x ∈ cs, x.1 < ns.length ∧ x.2.2.2.2.1 ≤ x.2.2.2.2.2 ∧ x.2.2.2.2.2 < 12) ∧ gv ≤ 24 ∧ gv < cs.length ∧ cs.length ≤ gv + 24)
    (kF : (asr kd key m (ns.map Prod.fst)).1 = false → ∀ I' J', fr (aMa C K) I I' → fr (aMaj C K) J J' → I' 65 1 = 0 → Q (some (some (.int (ii (pl (asr kd key m (ns.map Prod.fst)).2.1))))) (u1 S (c.1 + 1) (.inl 14), I', J', u2 (u2 R 65 17 K) 65 19 C, c.1 + 1, c.2 + 6))
    (kO : ∀ p cs gv kl g, asr kd key m (ns.map Prod.fst) = (true, p, cs, gv, kl, g) → ∀ S' I' J' R' c' C1, (∀ x, x ≤ c.1 → S' x = S x) → (∀ x, x ≤ c.1 → ¬ x = 65 → R' x = R x) → (∀ k, (k < 13 ∨ k = 18 ∨ 19 < k) → R' 65 k = R 65 k) → R' 65 13 = C → R' 65 14 = C1 → R' 65 15 = K → R' 65 16 = K0 → (∀ x k, x ≤ c.1 → ¬ (aMa C K x k ∨ aJv x k) → I' x k = I x k) → (∀ x k, x ≤ c.1 → ¬ aMaj C K x k → J' x k = J x k) → I' 65 1 = 0 → ((C1 = C0 ∧ ¬ C0 = 0 ∧ c' = c) ∨ (C0 = 0 ∧ C1 = c.1 + 1 ∧ c' = (c.1 + 7, c.2 + 259) ∧ LyCs S' R' C1)) → QCl C K gv I' cs kl g.2.length → (∀ a, a < 2 ^ g.2.length → MJg ns l cs gv kl g.2.length I' a) → Q (some (some (.int (-2)))) (S', I', J', R', c')) :
    X xs L (d + 1094) 147 0 [.ref 65, .null] [] (S, I, J, R, c) Q := by
  have hvs : (ns.map Prod.fst).length = ns.length := List.length_map _
  show X xs L ((d + 1024) + 70) 147 0 _ _ _ _
  refine s_Maparse (N := N) (vs := ns.map Prod.fst) hL hYK hYC hYN (by omega) (by omega) (by omega) (by omega) (by omega) r16 r14 hN hc118 hl hl2 hb hTK (by rw [hvs]; exact hM.1) ?_ (by rw [hvs]; exact hM.2.1) kF (fun p cs gv kl g hq I1 J1 f1 f2 h1 hQ => ?_)
  · intro i x hx
    rw [List.getElem?_map] at hx
    cases hy : ns[i]? with
    | none => rw [hy] at hx; cases hx
    | some y =>
      rw [hy] at hx
      have : y.1 = x := Option.some.inj hx
      rw [← this]; exact (hM.2.2.1 i y hy).1
  obtain ⟨hcs, hg, hgl, hcl⟩ := hA p cs gv kl g hq
  have hM1 : MCr N T I1 J1 ns l := MCr_of hM (f1 _ _ (by unfold aMa; omega)) (fr_row f2 _ (by intro k; unfold aMaj; omega)) (fr_row f1 _ (by intro k; unfold aMa; omega)) (fr_row f1 _ (by intro k; unfold aMa; omega)) (fr_row f1 _ (by intro k; unfold aMa; omega)) (fr_row f1 _ (by intro k; unfold aMa; omega)) (fr_row f1 _ (by intro k; unfold aMa; omega))
  have r65 : ∀ k, ¬ k = 17 → ¬ k = 19 → u2 (u2 R 65 17 K) 65 19 C 65 k = R 65 k := fun k z1 z2 => by rw [u2_k _ _ _ _ z2, u2_k _ _ _ _ z1]
  have rx : ∀ x, ¬ x = 65 → u2 (u2 R 65 17 K) 65 19 C x = R x := fun x hx => by funext k; rw [u2_a _ _ _ _ hx, u2_a _ _ _ _ hx]
  have e17 : u2 (u2 R 65 17 K) 65 19 C 65 17 = K := by rw [u2_k _ _ _ _ (by decide), u2_e]
  have e19 : u2 (u2 R 65 17 K) 65 19 C 65 19 = C := u2_e _ _ _ _
  have hL1 : Lay S (u2 (u2 R 65 17 K) 65 19 C) := Lay_u2 (Lay_u2 hL (by decide)) (by decide)
  revert r65 rx e17 e19 hL1
  generalize u2 (u2 R 65 17 K) 65 19 C = R1
  intro r65 rx e17 e19 hL1
  have tail : ∀ (S' : Nat → Shp) (I' : Nat → Nat → Int32) (J' : Nat → Nat → Int64) (R' : Nat → Nat → Nat) (c' : Nat × Nat) (C1 : Nat), (∀ x, x ≤ c.1 → S' x = S x ∧ I' x = I1 x ∧ J' x = J1 x ∧ R' x = R1 x) → ((C1 = C0 ∧ ¬ C0 = 0 ∧ c' = c) ∨ (C0 = 0 ∧ C1 = c.1 + 1 ∧ c' = (c.1 + 7, c.2 + 259) ∧ LyCs S' R' C1)) → X xs L (d + 1094) 147 142 [.ref 65, .null] [.ref C1, .ref 65] (S', I', J', R', c') Q := by
    intro S' I' J' R' c' C1 hsame hC1c
    have hL2 : Lay S' R' := Lay_eq hL1 (fun x hx => ⟨(hsame x (by omega)).1, (hsame x (by omega)).2.2.2⟩)
    have hR65 : R' 65 = R1 65 := (hsame 65 (by omega)).2.2.2
    refine b_X14_assertion_142 hL2 (q_65_19 := C) (q_65_15 := K0) (q_65_17 := K) (by rw [hR65]; exact e19) (by rw [hR65, r65 15 (by decide) (by decide)]; exact r15) (by rw [hR65]; exact e17) ?_
    have hR3 : ∀ x, ¬ x = 65 → u2 (u2 (u2 (u2 R' 65 14 C1) 65 13 C) 65 16 K0) 65 15 K x = R' x := fun x hx => by funext k; rw [u2_a _ _ _ _ hx, u2_a _ _ _ _ hx, u2_a _ _ _ _ hx, u2_a _ _ _ _ hx]
    have h15 : u2 (u2 (u2 (u2 R' 65 14 C1) 65 13 C) 65 16 K0) 65 15 K 65 15 = K := u2_e _ _ _ _
    have h16 : u2 (u2 (u2 (u2 R' 65 14 C1) 65 13 C) 65 16 K0) 65 15 K 65 16 = K0 := by rw [u2_k _ _ _ _ (by decide), u2_e]
    have h13 : u2 (u2 (u2 (u2 R' 65 14 C1) 65 13 C) 65 16 K0) 65 15 K 65 13 = C := by rw [u2_k _ _ _ _ (by decide), u2_k _ _ _ _ (by decide), u2_e]
    have h14 : u2 (u2 (u2 (u2 R' 65 14 C1) 65 13 C) 65 16 K0) 65 15 K 65 14 = C1 := by rw [u2_k _ _ _ _ (by decide), u2_k _ _ _ _ (by decide), u2_k _ _ _ _ (by decide), u2_e]
    have hot : ∀ k, (k < 13 ∨ k = 18 ∨ 19 < k) → u2 (u2 (u2 (u2 R' 65 14 C1) 65 13 C) 65 16 K0) 65 15 K 65 k = R 65 k := fun k hk => by
      rw [u2_k _ _ _ _ (by omega), u2_k _ _ _ _ (by omega), u2_k _ _ _ _ (by omega), u2_k _ _ _ _ (by omega), hR65, r65 k (by omega) (by omega)]
    have hL3 : Lay S' (u2 (u2 (u2 (u2 R' 65 14 C1) 65 13 C) 65 16 K0) 65 15 K) := Lay_u2 (Lay_u2 (Lay_u2 (Lay_u2 hL2 (by decide)) (by decide)) (by decide)) (by decide)
    have hC1c' : (C1 = C0 ∧ ¬ C0 = 0 ∧ c' = c) ∨ (C0 = 0 ∧ C1 = c.1 + 1 ∧ c' = (c.1 + 7, c.2 + 259) ∧ LyCs S' (u2 (u2 (u2 (u2 R' 65 14 C1) 65 13 C) 65 16 K0) 65 15 K) C1) := by
      rcases hC1c with z | ⟨z1, z2, z3, z4⟩
      · exact Or.inl z
      · exact Or.inr ⟨z1, z2, z3, LyCs_eq z4 (fun x y1 y2 => ⟨rfl, hR3 x (by omega)⟩)⟩
    revert hR3 h15 h16 h13 h14 hot hL3 hC1c'
    generalize u2 (u2 (u2 (u2 R' 65 14 C1) 65 13 C) 65 16 K0) 65 15 K = R3
    intro hR3 h15 h16 h13 h14 hot hL3 hC1c'
    have hse : ∀ x, x ≤ c.1 → ¬ x = 65 → S' x = S x ∧ R3 x = R x := fun x hx hx2 => ⟨(hsame x hx).1, by rw [hR3 x hx2, (hsame x hx).2.2.2, rx x hx2]⟩
    have hMJ : MJ S' R3 N T C K := ⟨hL3, by rw [hot 9 (by omega)]; exact hT, LyTr_eq hYT (fun x y1 y2 => hse x (by omega) (by omega)), by rw [hot 11 (by omega)]; exact hN, LyNo_eq hYN (fun x y1 y2 => hse x (by omega) (by omega)), h13, LyCs_eq hYC (fun x y1 y2 => hse x (by omega) (by omega)), h15, LyTr_eq hYK (fun x y1 y2 => hse x (by omega) (by omega)), by omega, by omega, by omega, by omega⟩
    have hI : ∀ x, x ≤ c.1 → I' x = I1 x := fun x hx => (hsame x hx).2.1
    have hM3 : MCr N T I' J' ns l := MCr_of hM1 (by rw [hI N (by omega)]) ((hsame _ (by omega)).2.2.1) (hI _ (by omega)) (hI _ (by omega)) (hI _ (by omega)) (hI _ (by omega)) (hI _ (by omega))
    have hQ3 : QCl C K gv I' cs kl g.2.length := QCl_of hQ (fun x y1 y2 => hI x (by omega)) (fun x y1 y2 => hI x (by omega))
    refine s_Mjudges hMJ hM3 hQ3 hW hg hgl hcl hcs (fun I4 f4 q4 j4 => ?_)
    refine kO p cs gv kl g hq S' I4 J' R3 c' C1 (fun x hx => (hsame x hx).1) (fun x hx hx2 => (hse x hx hx2).2) hot h13 h14 h15 h16 (fun x k hx hn => ?_) (fun x k hx hn => ?_) ?_ hC1c' q4 j4
    · rw [f4 x k (fun z => hn (Or.inr z)), hI x hx, f1 x k (fun z => hn (Or.inl z))]
    · rw [(hsame x hx).2.2.1, f2 x k hn]
    · rw [f4 65 1 (by unfold aJv; omega), hI 65 (by omega)]; exact h1
  show X xs L (d + 1094) 147 120 _ _ _ _
  refine b_X14_assertion_120 hL1 (q_65_13 := C0) (by rw [r65 13 (by decide) (by decide)]; exact r13) (fun z => ?_) (fun z => ?_)
  · refine b_X14_assertion_138 hL1 (q_65_13 := C0) (by rw [r65 13 (by decide) (by decide)]; exact r13) ?_
    exact tail S I1 J1 R1 c C0 (fun x _ => ⟨rfl, rfl, rfl, rfl⟩) (Or.inl ⟨rfl, z, rfl⟩)
  · show X xs L ((d + 1092) + 2) 147 128 _ _ _ _
    refine s_newCs (fun S' I' J' R' hs hy => b_X14_assertion_135 ?_)
    exact tail S' I' J' R' _ (c.1 + 1) (fun x hx => hs x (by omega)) (Or.inr ⟨Classical.not_not.1 z, rfl, rfl, hy⟩)
end MAS
