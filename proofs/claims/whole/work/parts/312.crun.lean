/-! ===== P2: Check of the class: run ===== -/
theorem lnW {b w j : Nat} (hb : b < 9) (hw : w < 8) (hj : j < 64) : tb (f_X0_lanesWith (ii b) (ii w)) j = (64 * w + j).testBit b := by
  have : ∀ (b : Fin 9) (w : Fin 8) (j : Fin 64), tb (f_X0_lanesWith (ii b.val) (ii w.val)) j.val = (64 * w.val + j.val).testBit b.val := by decide +kernel
  exact this ⟨b, hb⟩ ⟨w, hw⟩ ⟨j, hj⟩
def wdn (V : Nat) : Nat := if V < 6 then 1 else 2 ^ (V - 6)
theorem wdn_le {V : Nat} (h : V ≤ 9) : wdn V ≤ 8 := by
  have : ∀ V : Fin 10, wdn V.val ≤ 8 := by decide +kernel
  exact this ⟨V, by omega⟩
theorem asg_E {V : Nat} (h : V ≤ 9) : (1 : Int32) <<< (ii V &&& 31) = ii (2 ^ V) := by
  have : ∀ V : Fin 10, (1 : Int32) <<< (ii V.val &&& 31) = ii (2 ^ V.val) := by decide +kernel
  exact this ⟨V, by omega⟩
theorem wdn_E {V : Nat} (h : V ≤ 9) : (if (1 : Int32) < (((1 : Int32) <<< ((ii V) &&& 31)) >>> (6 &&& 31)) then ((1 : Int32) <<< ((ii V) &&& 31)) >>> (6 &&& 31) else (1 : Int32)) = ii (wdn V) := by
  have : ∀ V : Fin 10, (if (1 : Int32) < (((1 : Int32) <<< ((ii V.val) &&& 31)) >>> (6 &&& 31)) then ((1 : Int32) <<< ((ii V.val) &&& 31)) >>> (6 &&& 31) else (1 : Int32)) = ii (wdn V.val) := by decide +kernel
  exact this ⟨V, by omega⟩
theorem use_E {V j : Nat} (h : V < 6) (hj : j < 64) : tb (((1 : Int64) <<< ((ii (2 ^ V)).toInt64 &&& 63)) - 1) j = decide (j < 2 ^ V) := by
  have : ∀ (V : Fin 6) (j : Fin 64), tb (((1 : Int64) <<< ((ii (2 ^ V.val)).toInt64 &&& 63)) - 1) j.val = decide (j.val < 2 ^ V.val) := by decide +kernel
  exact this ⟨V, h⟩ ⟨j, hj⟩
/-- a lane is in use -/
theorem lane_lt {V w j : Nat} (h9 : V ≤ 9) (hw : w < wdn V) (hj : j < 64) : (V < 6 → j < 2 ^ V) ↔ 64 * w + j < 2 ^ V := by
  unfold wdn at hw
  by_cases h : V < 6
  · rw [if_pos h] at hw
    constructor
    · intro z; have := z h; omega
    · intro z _; omega
  · rw [if_neg h] at hw
    have e : 2 ^ V = 64 * 2 ^ (V - 6) := by
      rw [show (64 : Nat) = 2 ^ 6 from rfl, ← Nat.pow_add]; congr 1; omega
    exact ⟨fun _ => by omega, fun _ z => absurd z h⟩
/-- the variables of a word of lanes -/
def lnV (V w v : Nat) : Rl := (f_X0_lanesWith (ii (V - 1 - v)) (ii w), f_X0_lanesWith (ii (V - 1 - v)) (ii w) ^^^ (-1))
/-- what a check leaves of a word of lanes -/
def CkW (ns : List Nd) (l : List Int32) (cs : List Cl) (gv : Nat) (kl : List Int32) (V : Nat) (J : Nat → Nat → Int64) (w : Nat) : Prop :=
  (∀ i x, cs[i]? = some x → J 19 (48 * w + i) = sayR (lnV V w) kl x ∧ J 20 (48 * w + i) = holR (lnV V w) kl x) ∧
  (∀ t n j, t ≤ lst cs → n < ns.length → j < 64 → (tb (J 21 (ix w t n)) j = true ↔ GB cs J w gv 0 true t n j ∨ tb (ownR ns l J w t n).1 j = true) ∧ (tb (J 22 (ix w t n)) j = true ↔ GB cs J w gv 0 false t n j ∨ tb (ownR ns l J w t n).2 j = true)) ∧
  (∀ j, j < 64 → (tb (J 23 w) j = true ↔ (∃ t n, t ≤ lst cs ∧ n < ns.length ∧ bth J w t n j) ∧ 64 * w + j < 2 ^ V)) ∧
  (∀ j, j < 64 → (tb (J 24 w) j = true ↔ (∃ u x t, gv ≤ u ∧ cs[u]? = some x ∧ x.2.2.2.2.1 ≤ t ∧ t ≤ x.2.2.2.2.2 ∧ wrg J w t u x j) ∧ tb (J 23 w) j = false ∧ 64 * w + j < 2 ^ V))
theorem CkW_congr {ns : List Nd} {l : List Int32} {cs : List Cl} {gv : Nat} {kl : List Int32} {V w : Nat} {J J' : Nat → Nat → Int64} (hW : CW ns l) (hlt : lst cs < 12) (hc48 : cs.length ≤ 48) (hcs : ∀ x ∈ cs, x.1 < 40 ∧ x.2.2.2.2.2 < 12) (h19 : ∀ i, i < 48 → J' 19 (48 * w + i) = J 19 (48 * w + i) ∧ J' 20 (48 * w + i) = J 20 (48 * w + i)) (h21 : ∀ i, i < 480 → J' 21 (480 * w + i) = J 21 (480 * w + i) ∧ J' 22 (480 * w + i) = J 22 (480 * w + i)) (h23 : J' 23 w = J 23 w) (h24 : J' 24 w = J 24 w) (h : CkW ns l cs gv kl V J w) : CkW ns l cs gv kl V J' w := by
  obtain ⟨c1, c2, c3, c4⟩ := h
  have hln : ∀ {u : Nat} {x : Cl}, cs[u]? = some x → u < 48 := fun hx => by have := (List.getElem?_eq_some_iff.1 hx).1; omega
  have hix : ∀ t n, t < 12 → n < 40 → J' 21 (ix w t n) = J 21 (ix w t n) ∧ J' 22 (ix w t n) = J 22 (ix w t n) := fun t n ht hn => by
    have e : ix w t n = 480 * w + (40 * t + n) := by unfold ix; omega
    rw [e]; exact h21 _ (by omega)
  have hGB : ∀ b t n j, GB cs J' w gv 0 b t n j ↔ GB cs J w gv 0 b t n j := by
    intro b t n j
    constructor
    · rintro ⟨u, x, y1, y2, y3, y4, y5, y6, y7⟩
      rw [(h19 u (hln y1)).1] at y7; rw [(h19 u (hln y1)).2] at y6
      exact ⟨u, x, y1, y2, y3, y4, y5, y6, y7⟩
    · rintro ⟨u, x, y1, y2, y3, y4, y5, y6, y7⟩
      rw [← (h19 u (hln y1)).1] at y7; rw [← (h19 u (hln y1)).2] at y6
      exact ⟨u, x, y1, y2, y3, y4, y5, y6, y7⟩
  have hN := hW.1
  have hown : ∀ t n, t ≤ lst cs → n < ns.length → ownR ns l J' w t n = ownR ns l J w t n := fun t n ht hn => own_congr hW hn (fun v _ ha => hix t v (by omega) (by have := adj_lt ha; omega)) (fun v _ _ hv => hix (t - 1) v (by omega) (by omega))
  have hbth : ∀ t n j, t ≤ lst cs → n < ns.length → (bth J' w t n j ↔ bth J w t n j) := fun t n j ht hn => by
    unfold bth; rw [(hix t n (by omega) (by omega)).1, (hix t n (by omega) (by omega)).2]
  have hwrg : ∀ u x t j, cs[u]? = some x → t ≤ x.2.2.2.2.2 → (wrg J' w t u x j ↔ wrg J w t u x j) := fun u x t j hx ht => by
    have hxc := hcs x (List.mem_of_getElem? hx)
    unfold wrg
    rw [(h19 u (hln hx)).1, (h19 u (hln hx)).2, (hix t x.1 (by omega) hxc.1).1, (hix t x.1 (by omega) hxc.1).2]
  refine ⟨fun i x hx => ?_, fun t n j ht hn hj => ?_, fun j hj => ?_, fun j hj => ?_⟩
  · rw [(h19 i (hln hx)).1, (h19 i (hln hx)).2]; exact c1 i x hx
  · rw [(hix t n (by omega) (by omega)).1, (hix t n (by omega) (by omega)).2, hGB, hGB, hown t n ht hn]; exact c2 t n j ht hn hj
  · rw [h23, c3 j hj]
    constructor
    · rintro ⟨⟨t, n, z1, z2, z3⟩, z4⟩; exact ⟨⟨t, n, z1, z2, (hbth t n j z1 z2).2 z3⟩, z4⟩
    · rintro ⟨⟨t, n, z1, z2, z3⟩, z4⟩; exact ⟨⟨t, n, z1, z2, (hbth t n j z1 z2).1 z3⟩, z4⟩
  · rw [h24, h23, c4 j hj]
    constructor
    · rintro ⟨⟨u, x, t, z1, z2, z3, z4, z5⟩, z6⟩; exact ⟨⟨u, x, t, z1, z2, z3, z4, (hwrg u x t j z2 z4).2 z5⟩, z6⟩
    · rintro ⟨⟨u, x, t, z1, z2, z3, z4, z5⟩, z6⟩; exact ⟨⟨u, x, t, z1, z2, z3, z4, (hwrg u x t j z2 z4).1 z5⟩, z6⟩
section CHK5
variable {xs : Nat → Int32} {L d : Nat} {S : Nat → Shp} {I : Nat → Nat → Int32} {J : Nat → Nat → Int64} {R : Nat → Nat → Nat} {c : Nat × Nat} {Q : Option (Option Value) → MH → Prop} {b q gv : Nat} {ns : List Nd} {l : List Int32} {cs : List Cl} {kl : List Int32} {g : LeS}
theorem KCl_of {I' : Nat → Nat → Int32} (h : KCl I q cs gv kl g) (he : ∀ x k, q ≤ x → x ≤ q + 9 → I' x k = I x k) : KCl I' q cs gv kl g := by
  obtain ⟨kr, kg, k4, klt, kc, kv, kr2⟩ := h
  refine ⟨⟨by rw [he _ _ (by omega) (by omega)]; exact kr.1, fun i x hx => ?_⟩, by rw [he _ _ (by omega) (by omega)]; exact kg, by rw [he _ _ (by omega) (by omega)]; exact k4, klt, CdL_of kc (he _ _ (by omega) (by omega)) (funext fun k => he _ _ (by omega) (by omega)), by rw [he _ _ (by omega) (by omega)]; exact kv, kr2⟩
  rw [he _ _ (by omega) (by omega), he _ _ (by omega) (by omega), he _ _ (by omega) (by omega), he _ _ (by omega) (by omega), he _ _ (by omega) (by omega), he _ _ (by omega) (by omega)]
  exact kr.2 i x hx
theorem CCi_of {I' : Nat → Nat → Int32} {J' : Nat → Nat → Int64} (h : CCi I J b ns l) (he : ∀ x k, b ≤ x → x ≤ b + 9 → I' x k = I x k) (hj : ∀ x k, b ≤ x → x ≤ b + 9 → J' x k = J x k) : CCi I' J' b ns l := by
  obtain ⟨h1, h2, h3, h4, h5⟩ := h
  refine ⟨⟨by rw [he _ _ (by omega) (by omega)]; exact h1.1, fun i x hx => ?_⟩, CdL_of h2 (he _ _ (by omega) (by omega)) (funext fun k => he _ _ (by omega) (by omega)), fun i j hi hjj => ?_, fun i j hi hjj => ?_, fun n hn hr => ?_⟩
  · rw [hj _ _ (by omega) (by omega), he _ _ (by omega) (by omega), he _ _ (by omega) (by omega), he _ _ (by omega) (by omega)]; exact h1.2 i x hx
  · rw [hj _ _ (by omega) (by omega)]; exact h3 i j hi hjj
  · rw [hj _ _ (by omega) (by omega)]; exact h4 i j hi hjj
  · rw [he _ _ (by omega) (by omega)]; exact h5 n hn hr
def aRi (x k : Nat) : Prop := (x = 13 ∧ (k = 2 ∨ k = 3)) ∨ (x = 14 ∧ k = 2)
def aTj (x _k : Nat) : Prop := 15 ≤ x ∧ x ≤ 24
def aRj (x k : Nat) : Prop := (x = 13 ∧ k = 4) ∨ (15 ≤ x ∧ x ≤ 24)
theorem s_X0_run {v1 v2 : Nat} (hL : Lay S R) (hYb : LyCi S R b) (hY : LyCm S R q) (hb36 : b < 36 ∧ 24 < b) (hq44 : 44 < q) (hC : CCi I J b ns l) (hW : CW ns l) (hK : KCl I q cs gv kl g) (hI : KI ns.length cs kl g) (k : ∀ I' J', fr aRi I I' → fr aRj J J' → I' 13 2 = ii (2 ^ g.2.length) → I' 13 3 = ii (wdn g.2.length) → (∀ j, j < 64 → (tb (J' 13 4) j = true ↔ (g.2.length < 6 → j < 2 ^ g.2.length))) → (∀ w, w < wdn g.2.length → CkW ns l cs gv kl g.2.length J' w) → Q (some none) (S, I', J', u2 (u2 R 13 0 b) 13 1 q, c)) : X xs L (d + 6) 1 0 [.ref 13, .ref b, .ref q, .null] [] (S, I, J, R, c) Q := by
  have hK' := hK
  obtain ⟨kr, kg, k4, klt, kc, kv, kv9, kg0, kg24, kgl, kcl, kl2⟩ := hK'
  have hW' := hW
  obtain ⟨w1, w2, w3, w4, w5, w6⟩ := hW'
  have hI4 : KI 40 cs kl g := ⟨fun x hx => ⟨by have := (hI.1 x hx).1; omega, (hI.1 x hx).2⟩, hI.2⟩
  have hcs : ∀ x ∈ cs, x.1 < 40 ∧ x.2.2.2.2.2 < 12 := fun x hx => by
    obtain ⟨u, hu⟩ := List.getElem?_of_mem hx
    exact ⟨(hI4.1 x hx).1, (kr.2 u x hu).2.2.2.2.2.2.2⟩
  have hwd := wdn_le kv9
  generalize hV : g.2.length = V at *
  have hL1 : Lay S (u2 (u2 R 13 0 b) 13 1 q) := Lay_u2 (Lay_u2 hL (by decide)) (by decide)
  have hY1 : LyCm S (u2 (u2 R 13 0 b) 13 1 q) q := LyCm_u2 (LyCm_u2 hY (by omega)) (by omega)
  have hYb1 : LyCi S (u2 (u2 R 13 0 b) 13 1 q) b := LyCi_u2 (LyCi_u2 hYb (by omega)) (by omega)
  have hq1 : u2 (u2 R 13 0 b) 13 1 q 13 1 = q := u2_e _ _ _ _
  have hb1 : u2 (u2 R 13 0 b) 13 1 q 13 0 = b := by rw [u2_k _ _ _ _ (by decide), u2_e]
  generalize hR1 : u2 (u2 R 13 0 b) 13 1 q = R1 at *
  -- the loop
  have loop : ∀ (J1 : Nat → Nat → Int64), fr aRj J J1 → (∀ j, j < 64 → (tb (J1 13 4) j = true ↔ (V < 6 → j < 2 ^ V))) → ∀ (f w : Nat) (I' : Nat → Nat → Int32) (J' : Nat → Nat → Int64), wdn V - w = f → w ≤ wdn V → fr aRi I I' → I' 13 2 = ii (2 ^ V) → I' 13 3 = ii (wdn V) → fr aTj J1 J' → (∀ w', w' < w → CkW ns l cs gv kl V J' w') → X xs L (d + 6) 1 70 [.ref 13, .ref b, .ref q, .int (ii w)] [] (S, I', J', R1, c) Q := by
    intro J1 hJ1 hus f
    induction f with
    | zero =>
      intro w I' J' g1 g2 g3 g4 g5 g6 g7
      refine b_X0_run_70 hL1 (fun _ => b_X0_run_109 (k I' J' g3 (fr_trans hJ1 (fr_sub g6 (by intro x k; unfold aTj aRj; omega))) g4 g5 (fun j hj => by rw [g6 _ _ (by unfold aTj; omega)]; exact hus j hj) (fun w' hw' => g7 w' (by omega)))) (fun z => ?_)
      rw [g5, show w = wdn V by omega] at z; exact absurd (Int32.le_refl _) z
    | succ f ih =>
      intro w I' J' g1 g2 g3 g4 g5 g6 g7
      have hw : w < 8 := by omega
      have hwV : w < wdn V := by omega
      refine b_X0_run_70 hL1 (fun z => ?_) (fun _ => ?_)
      · rw [g5, ii_le (by omega) (by omega)] at z; omega
      have hfI : ∀ I2 : Nat → Nat → Int32, fr aRi I I2 → ∀ x k, 24 < x → I2 x k = I x k := fun I2 f2 x k hx => f2 x k (by unfold aRi; omega)
      have hfJ : ∀ J2 : Nat → Nat → Int64, fr aTj J1 J2 → ∀ x k, 24 < x → J2 x k = J x k := fun J2 f2 x k hx => by rw [f2 x k (by unfold aTj; omega), hJ1 x k (by unfold aRj; omega)]
      have K' : ∀ I2 : Nat → Nat → Int32, fr aRi I I2 → KCl I2 q cs gv kl g := fun I2 f2 => KCl_of hK (fun x k h1 _ => hfI I2 f2 x k (by omega))
      have C' : ∀ (I2 : Nat → Nat → Int32) (J2 : Nat → Nat → Int64), fr aRi I I2 → fr aTj J1 J2 → CCi I2 J2 b ns l := fun I2 J2 f2 f3 => CCi_of hC (fun x k h1 _ => hfI I2 f2 x k (by omega)) (fun x k h1 _ => hfJ J2 f3 x k (by omega))
      have kv' : I' q 0 = ii V := by rw [hfI I' g3 q 0 (by omega)]; exact kv
      refine b_X0_run_78 hL1 (s_X0_setVariables hL1 hq1 hY1 kv' kv9 (fun Ja fa ea => ?_))
      have Fa : fr aTj J1 Ja := fr_trans g6 (fr_sub fa (by intro x k; unfold aTj; omega))
      refine b_X0_run_83 hL1 (s_X0_workOut (gv := gv) (g := g) hL1 hq1 hq44 hY1 (K' I' g3) hI4 hw (fun Ib Jb fib fb eb ob => ?_))
      have Fb : fr aTj J1 Jb := fr_trans Fa (fr_sub fb (by intro x k; unfold aWj aTj; omega))
      have Fib : fr aRi I Ib := fr_trans g3 (fr_sub fib (by intro x k; unfold aSt aRi; omega))
      refine b_X0_run_88 hL1 (s_X0_layGivens hL1 hq1 hY1 (K' Ib Fib) hI4 hw (fun Jc fc ec oc => ?_))
      have Fc : fr aTj J1 Jc := fr_trans Fb (fr_sub fc (by intro x k; unfold aGj aTj; omega))
      refine b_X0_run_93 hL1 (s_X0_follow (cs := cs) hL1 hb1 hq1 hYb1 hY1 (by omega) (by omega) (C' Ib Jc Fib Fc) hb36 hW (K' Ib Fib).2.2.1 klt hw (fun Id Jd fid fd ed od o23 e23 => ?_))
      have Fd : fr aTj J1 Jd := fr_trans Fc (fr_sub fd (by intro x k; unfold aFj aTj; omega))
      have Fid : fr aRi I Id := fr_trans Fib (fr_sub fid (by intro x k; unfold aSt aRi; omega))
      refine b_X0_run_98 hL1 (s_X0_compare hL1 hq1 hY1 (K' Id Fid) hI4 hw (fun Je fe o24 e24 => ?_))
      have Fe : fr aTj J1 Je := fr_trans Fd (fr_sub fe (by intro x k; unfold aTj; omega))
      refine b_X0_run_103 ?_
      rw [ii_add1]
      have r19 : ∀ u, Je 19 u = Jb 19 u ∧ Je 20 u = Jb 20 u := fun u => by
        refine ⟨?_, ?_⟩
        · rw [fe _ _ (by omega), fd _ _ (by unfold aFj; omega), fc _ _ (by unfold aGj; omega)]
        · rw [fe _ _ (by omega), fd _ _ (by unfold aFj; omega), fc _ _ (by unfold aGj; omega)]
      have r21 : ∀ u, Je 21 u = Jd 21 u ∧ Je 22 u = Jd 22 u := fun u => ⟨fe _ _ (by omega), fe _ _ (by omega)⟩
      have r23 : ∀ u, Je 23 u = Jd 23 u := fun u => fe _ _ (by omega)
      refine ih (w + 1) Id Je (by omega) (by omega) Fid (by rw [fid _ _ (by unfold aSt; omega), fib _ _ (by unfold aSt; omega)]; exact g4) (by rw [fid _ _ (by unfold aSt; omega), fib _ _ (by unfold aSt; omega)]; exact g5) Fe (fun w' hw' => ?_)
      by_cases e : w' = w
      · subst e
        have hGB : ∀ b t n j, GB cs Jb w' gv 0 b t n j ↔ GB cs Je w' gv 0 b t n j := by
          intro b t n j; unfold GB; simp only [r19]
        have hown : ∀ t n, ownR ns l Jd w' t n = ownR ns l Je w' t n := by
          intro t n
          have : ∀ t, rlv Jd w' t = rlv Je w' t := fun t => by funext v; unfold rlv; rw [(r21 _).1, (r21 _).2]
          unfold ownR; rw [this, this]
        have hbt : ∀ t n j, bth Jd w' t n j ↔ bth Je w' t n j := by
          intro t n j; unfold bth; rw [(r21 _).1, (r21 _).2]
        have hus' : ∀ J2 : Nat → Nat → Int64, fr aTj J1 J2 → ∀ j, j < 64 → (tb (J2 13 4) j = true ↔ 64 * w' + j < 2 ^ V) := fun J2 f2 j hj => by
          rw [f2 _ _ (by unfold aTj; omega), hus j hj]; exact lane_lt kv9 hwV hj
        have hlv : ∀ y ∈ kl, ¬ y < 0 → (Ja 17 y.toNatClampNeg, Ja 18 y.toNatClampNeg) = lnV V w' y.toNatClampNeg := by
          intro y hy hny
          rcases hI.2.1 y hy with z | ⟨v, z1, z2⟩
          · exact absurd (cop_neg z) hny
          · have hv : y.toNatClampNeg = v := by rw [z2, ii_nat (by omega)]
            rw [hv]
            have := ea v (by omega)
            unfold lnV
            rw [this.2, this.1]
        have hfo : ∀ s e, foR (fun v => (Ja 17 v, Ja 18 v)) (seg kl s e) = foR (lnV V w') (seg kl s e) := by
          intro s e
          unfold foR
          rw [fold_congr (lv := fun v => (Ja 17 v, Ja 18 v)) (lv' := lnV V w') (seg kl s e) _ (fun y hy hny => hlv y (List.mem_of_mem_drop (List.mem_of_mem_take hy)) hny)]
        refine ⟨fun i x hx => ?_, fun t n j ht hn hj => ?_, fun j hj => ?_, fun j hj => ?_⟩
        · rw [(r19 _).1, (r19 _).2, (eb i x hx).1, (eb i x hx).2]
          unfold sayR holR
          rw [hfo, hfo]; exact ⟨rfl, rfl⟩
        · rw [(r21 _).1, (r21 _).2, (ed t n ht hn).1, (ed t n ht hn).2, tb_or, tb_or, Bool.or_eq_true, Bool.or_eq_true, (ec t n j ht (by omega) hj).1, (ec t n j ht (by omega) hj).2, hGB, hGB, hown]
          exact ⟨Iff.rfl, Iff.rfl⟩
        · rw [r23, e23 j hj, hus' Jc Fc j hj]
          simp only [hbt]
        · have hwr : ∀ u x t, wrg Jd w' t u x j ↔ wrg Je w' t u x j := by
            intro u x t
            have q19 : Jd 19 (48 * w' + u) = Je 19 (48 * w' + u) := (fe _ _ (by omega)).symm
            have q20 : Jd 20 (48 * w' + u) = Je 20 (48 * w' + u) := (fe _ _ (by omega)).symm
            unfold wrg; rw [(r21 _).1, (r21 _).2, q19, q20]
          rw [e24 j hj, hus' Jd Fd j hj, r23]
          simp only [hwr]
      · have hne : w' < w := by omega
        refine CkW_congr hW klt (by omega) hcs (fun i hi => ?_) (fun i hi => ?_) ?_ ?_ (g7 w' hne)
        · rw [(r19 _).1, (r19 _).2, (ob _ (by omega)).1, (ob _ (by omega)).2, fa _ _ (by omega), fa _ _ (by omega)]; exact ⟨rfl, rfl⟩
        · rw [(r21 _).1, (r21 _).2, (od _ (by omega)).1, (od _ (by omega)).2, (oc _ (by omega)).1, (oc _ (by omega)).2, fb _ _ (by unfold aWj; omega), fb _ _ (by unfold aWj; omega), fa _ _ (by omega), fa _ _ (by omega)]; exact ⟨rfl, rfl⟩
        · rw [r23, o23 _ e, fc _ _ (by unfold aGj; omega), fb _ _ (by unfold aWj; omega), fa _ _ (by omega)]
        · rw [o24 _ e, fd _ _ (by unfold aFj; omega), fc _ _ (by unfold aGj; omega), fb _ _ (by unfold aWj; omega), fa _ _ (by omega)]
  have start : ∀ (sy : Int64), (∀ j, j < 64 → (tb sy j = true ↔ (V < 6 → j < 2 ^ V))) → X xs L (d + 6) 1 65 [.ref 13, .ref b, .ref q, .null] [.long sy, .ref 13] (S, u2 (u2 I 13 2 (ii (2 ^ V))) 13 3 (ii (wdn V)), J, R1, c) Q := by
    intro sy hsy
    refine b_X0_run_65 hL1 ?_
    have := loop (u2 J 13 4 sy) (fr_u _ (fr_refl _ _) (by unfold aRj; omega)) (fun j hj => by rw [u2_e]; exact hsy j hj) (wdn V) 0 (u2 (u2 I 13 2 (ii (2 ^ V))) 13 3 (ii (wdn V))) (u2 J 13 4 sy) (by omega) (by omega) (fr_u _ (fr_u _ (fr_refl _ _) (by unfold aRi; omega)) (by unfold aRi; omega)) (by rw [u2_k _ _ _ _ (by decide), u2_e]) (u2_e _ _ _ _) (fr_refl _ _) (fun w' hw' => by omega)
    exact this
  refine b_X0_run_0 hL hY (by omega) (fun z => ?_) (fun z => ?_)
  · rw [kv] at z ⊢
    rw [asg_E kv9, ← asg_E kv9, wdn_E kv9, asg_E kv9, hR1]
    have hz : 6 ≤ V := (ii_le (n := 6) (by omega) (by omega)).1 z
    exact b_X0_run_62 (start _ (fun j hj => ⟨fun _ z => by omega, fun _ => tb_m1 hj⟩))
  · rw [kv] at z ⊢
    rw [wdn_E kv9, asg_E kv9, hR1]
    have hz : V < 6 := by
      rcases Nat.lt_or_ge V 6 with y | y
      · exact y
      · exact absurd ((ii_le (n := 6) (by omega) (by omega)).2 y) z
    refine b_X0_run_51 hL1 ?_
    have e2 : (u2 (u2 I 13 2 (ii (2 ^ V))) 13 3 (ii (wdn V))) 13 2 = ii (2 ^ V) := by rw [u2_k _ _ _ _ (by decide), u2_e]
    rw [e2]
    refine start _ (fun j hj => ?_)
    rw [use_E hz hj, decide_eq_true_eq]
    exact ⟨fun y _ => y, fun y => y hz⟩
end CHK5
