/-! ===== P2: the model's values: valueOf ===== -/
def v3 (x : Int32) : Prop := x = 0 ∨ x = 1 ∨ x = 2
def n3 (x : Int32) : Int32 := if x = 2 then 2 else 1 - x
def a3 (a b : Int32) : Int32 := if a = 0 ∨ b = 0 then 0 else if a = 1 ∧ b = 1 then 1 else 2
def o3 (a b : Int32) : Int32 := if a = 1 ∨ b = 1 then 1 else if a = 0 ∧ b = 0 then 0 else 2
def x3 (a b : Int32) : Int32 := if a = 2 ∨ b = 2 then 2 else a ^^^ b
def j3 (x a b : Int32) : Int32 := if x = -38 then a3 a b else if x = -124 then o3 a b else x3 a b
theorem v3_n {x : Int32} (h : v3 x) : v3 (n3 x) := by
  rcases h with h | h | h <;> subst h
  · exact Or.inr (Or.inl (by decide))
  · exact Or.inl (by decide)
  · exact Or.inr (Or.inr (by decide))
theorem v3_j {x a b : Int32} (ha : v3 a) (hb : v3 b) : v3 (j3 x a b) := by
  unfold j3
  split
  · rcases ha with h | h | h <;> subst h <;> rcases hb with h | h | h <;> subst h <;> first | exact Or.inl (by decide) | exact Or.inr (Or.inl (by decide)) | exact Or.inr (Or.inr (by decide))
  · split
    · rcases ha with h | h | h <;> subst h <;> rcases hb with h | h | h <;> subst h <;> first | exact Or.inl (by decide) | exact Or.inr (Or.inl (by decide)) | exact Or.inr (Or.inr (by decide))
    · rcases ha with h | h | h <;> subst h <;> rcases hb with h | h | h <;> subst h <;> first | exact Or.inl (by decide) | exact Or.inr (Or.inl (by decide)) | exact Or.inr (Or.inr (by decide))
def fo3 (lv : Nat → Int32) (cds : List Int32) : Int32 := match cds.foldl (stg 0 1 n3 j3 lv) [] with
  | a :: _ => a
  | [] => 2
theorem cellE {a t n : Nat} : f_X14_cell (ii a) (ii t) (ii n) = ii (480 * a + 40 * t + n) := by
  unfold f_X14_cell
  have hm : ∀ p q : Nat, ii p * ii q = ii (p * q) := fun p q => (Int32.ofNat_mul p q).symm
  rw [show (12 : Int32) = ii 12 from rfl, show (40 : Int32) = ii 40 from rfl, hm, ii_add, hm, ii_add]
  congr 1; omega
def vE (I : Nat → Nat → Int32) (a t n : Nat) : Int32 := I 112 (480 * a + 40 * t + n)
theorem fo3_tre {lv : Nat → Int32} {l : List Int32} {lt rt : Nat → Int32} {f s e : Nat} (hl : l.length ≤ 2000) (hse : s < e) (h : tre l lt rt f s (e - 1)) : fo3 lv (seg l s e) = evg 0 1 n3 j3 lv l lt f (e - 1) := by
  have := run_tre (zz := (0 : Int32)) (oo := 1) (ng := n3) (jo := j3) (lv := lv) hl f s (e - 1) [] h
  rw [show e - 1 + 1 = e by omega] at this
  unfold fo3; rw [this]
theorem seg_mem {l : List Int32} {s e : Nat} {y : Int32} (h : y ∈ seg l s e) : ∃ p, s ≤ p ∧ p < e ∧ l[p]? = some y := by
  unfold seg at h
  obtain ⟨p, hp, hpe⟩ := List.mem_iff_getElem.1 h
  have hp2 : p < e - s := by rw [List.length_take] at hp; omega
  refine ⟨s + p, by omega, by omega, ?_⟩
  rw [← hpe, List.getElem_take, List.getElem_drop]
  rw [List.length_take, List.length_drop] at hp
  rw [List.getElem?_eq_getElem (by omega)]
theorem ii_of' {x : Int32} (h : ¬ x < 0) : x = ii x.toNatClampNeg := ii_of (Int32.not_lt.1 h)
theorem ng_ii {x : Int32} {v : Nat} (h : x < 0) (hv : v < 40) : ¬ x = ii v := fun e => ii_nn (show v < 2147483648 by omega) (by rw [← e]; exact h)
theorem evg_congr {l : List Int32} {lt rt : Nat → Int32} {f s t : Nat} {lv lv' : Nat → Int32} (hl : l.length ≤ 2000) (hlv : ∀ y ∈ l, lvP 40 y) (h : tre l lt rt f s t) (he : ∀ v, v < 40 → hasL l s (t + 1) v → lv v = lv' v) : evg 0 1 n3 j3 lv l lt f t = evg 0 1 n3 j3 lv' l lt f t := by
  have h1 := run_tre (zz := (0 : Int32)) (oo := 1) (ng := n3) (jo := j3) (lv := lv) hl f s t [] h
  have h2 := run_tre (zz := (0 : Int32)) (oo := 1) (ng := n3) (jo := j3) (lv := lv') hl f s t [] h
  rw [fold_congr (lv := lv) (lv' := lv') (seg l s (t + 1)) [] (fun y hy hny => ?_), h2] at h1
  · exact (List.cons.inj h1).1.symm
  · obtain ⟨p, p1, p2, p3⟩ := seg_mem hy
    rcases hlv y (List.mem_of_getElem? p3) with z | ⟨v, z1, z2⟩
    · exact absurd (cop_neg z) hny
    · rw [z2, ii_nat (by omega)]
      exact he v z1 ⟨p, p1, p2, by rw [← z2]; exact p3⟩
section MV
variable {xs : Nat → Int32} {L : Nat} {S : Nat → Shp} {J : Nat → Nat → Int64} {R : Nat → Nat → Nat} {c : Nat × Nat} {T a tm E : Nat} {l : List Int32} {fl : Int32} {lt rt : Nat → Int32}
theorem s_Mval {Inv : (Nat → Nat → Int32) → Prop} {ext : (Nat → Nat → Int32) → (Nat → Nat → Int32) → Prop} {rd : (Nat → Nat → Int32) → Nat → Prop} (hL : Lay S R) (hT : R 65 9 = T) (hYT : LyTr S R T) (hl : l.length ≤ 2000) (hlv : ∀ y ∈ l, lvP 40 y) (ha : a < 512) (htm : tm < 12)
    (ext_t : ∀ I1 I2 I3, ext I1 I2 → ext I2 I3 → ext I1 I3) (ext_r : ∀ I1, ext I1 I1)
    (rd_e : ∀ I1 I2 v, ext I1 I2 → rd I1 v → rd I2 v ∧ vE I2 a tm v = vE I1 a tm v) (rd_v : ∀ I1 v, Inv I1 → rd I1 v → v3 (vE I1 a tm v))
    (hst : ∀ I1, Inv I1 → I1 65 29 = ii a ∧ I1 (T + 2) = lt ∧ I1 (T + 3) = rt ∧ RT T l I1) :
    ∀ (f s t : Nat) (d : Nat) (Q : Option (Option Value) → MH → Prop) (I' : Nat → Nat → Int32), tre l lt rt f s t →
    (∀ v, v < 40 → hasL l s (t + 1) v → ∀ (I1 : Nat → Nat → Int32) (d : Nat) (Q : Option (Option Value) → MH → Prop) (x1 : Int32), inb x1 2000 = true → Inv I1 → ext I' I1 → I1 (T + 2) x1.toNatClampNeg = ii v → (∀ I2, Inv I2 → ext I1 I2 → rd I2 v → X xs L (d + E + 1) 151 45 [.ref 65, .int x1, .int (ii tm), .int fl, .int 78, .null, .null] [] (S, I2, J, R, c) Q) → X xs L (d + E + 1) 151 27 [.ref 65, .int x1, .int (ii tm), .int fl, .int 78, .null, .null] [] (S, I1, J, R, c) Q) →
    Inv I' → (∀ I2, Inv I2 → ext I' I2 → (∀ v, v < 40 → hasL l s (t + 1) v → rd I2 v) → v3 (evg 0 1 n3 j3 (vE I2 a tm) l lt f t) → Q (some (some (.int (evg 0 1 n3 j3 (vE I2 a tm) l lt f t)))) (S, I2, J, R, c)) →
    X xs L (d + E + f) 151 0 [.ref 65, .int (ii t), .int (ii tm), .int fl, .null, .null, .null] [] (S, I', J, R, c) Q
  | 0, _, _, _, _, _, h, _, _, _ => absurd h (fun z => z)
  | f + 1, s, t, d, Q, I', h, hlf, hI, k => by
    have h0 := h
    have hlt := tre_lt _ _ _ h
    have hb : inb (ii t) 2000 = true := ii_inb (by omega) (by omega)
    have hn : (ii t).toNatClampNeg = t := ii_nat (by omega)
    obtain ⟨x, hx, h⟩ := h
    obtain ⟨g1, g2, g3, g4⟩ := hst I' hI
    have hop := (g4 t x hx).1
    have hev : ∀ lv, evg 0 1 n3 j3 lv l lt (f + 1) t = if x < 0 then (if x = -48 then 0 else if x = -49 then 1 else if x = -33 then n3 (evg 0 1 n3 j3 lv l lt f (t - 1)) else j3 x (evg 0 1 n3 j3 lv l lt f (lt t).toNatClampNeg) (evg 0 1 n3 j3 lv l lt f (t - 1))) else lv x.toNatClampNeg := fun lv => by rw [evg, hx]
    show X xs L ((d + E + f) + 1) 151 0 _ _ _ _
    rcases h with ⟨h1, h2⟩ | ⟨h1, u, h2, h3, h4⟩ | ⟨h1, u, q, h2, h3, h4, h5, h6⟩
    · have leafc : ∀ y : Int32, x = y → y < 0 → opc 1 y ≤ 1 → (∀ lv, evg 0 1 n3 j3 lv l lt (f + 1) t = opc 1 y) → v3 (opc 1 y) → X xs L ((d + E + f) + 1) 151 0 [.ref 65, .int (ii t), .int (ii tm), .int fl, .null, .null, .null] [] (S, I', J, R, c) Q := by
        intro y hy hy0 hy1 hye hy3
        subst hy
        refine b_X14_valueOf_0 hL hT hYT hb (fun z => ?_) (fun _ => b_X14_valueOf_17 ?_)
        · rw [hn, hop] at z; exact absurd hy1 (Int32.not_le.2 z)
        · rw [hn, hop]
          have kk := k I' hI (ext_r _) (fun v hv40 hv => by
            obtain ⟨p, q1, q2, q3⟩ := hv
            have : p = t := by omega
            subst this
            rw [hx] at q3
            exact absurd (Option.some.inj q3) (ng_ii hy0 hv40))
          rw [hye] at kk
          exact kk hy3
      rcases h1 with h1 | h1 | h1
      · have hnx : ¬ x < 0 := fun q => by rw [Int32.le_iff_toInt_le] at h1; rw [Int32.lt_iff_toInt_lt] at q; omega
        obtain ⟨v, hv40, hxv⟩ : ∃ v, v < 40 ∧ x = ii v := by
          rcases hlv x (List.mem_of_getElem? hx) with z | ⟨v, z1, z2⟩
          · exact absurd (cop_neg z) hnx
          · exact ⟨v, z1, z2⟩
        have hle : hasL l s (t + 1) v := ⟨t, by omega, by omega, by rw [← hxv]; exact hx⟩
        have hop2 : opc 1 x = 78 := by rw [hxv, opc_ii (by omega), if_pos rfl]
        refine b_X14_valueOf_0 hL hT hYT hb (fun _ => ?_) (fun z => ?_)
        · rw [hn, hop, hop2]
          refine b_X14_valueOf_20 (fun z => absurd rfl z) (fun _ => ?_)
          have e1 : d + E + f + 1 = (d + f) + E + 1 := by omega
          rw [e1]
          refine hlf v hv40 hle I' (d + f) Q (ii t) hb hI (ext_r _) (by rw [hn, (g4 t x hx).2 h1]; exact hxv) (fun I2 i1 i2 i3 => ?_)
          obtain ⟨p1, p2, p3, p4⟩ := hst I2 i1
          refine b_X14_valueOf_45 hL hT hYT hb ?_
          rw [hn, (p4 t x hx).2 h1, p1, hxv]
          refine s_X14_cell ?_
          rw [cellE]
          have hlt2 : 480 * a + 40 * tm + v < 245760 := by omega
          refine b_X14_valueOf_67 hL (ii_inb hlt2 (by omega)) ?_
          rw [ii_nat (by omega)]
          have kk := k I2 i1 i2 (fun w hw40 hw => by
            obtain ⟨p, q1, q2, q3⟩ := hw
            have : p = t := by omega
            subst this
            rw [hx, hxv] at q3
            have q4 := (ii_inj (by omega) (by omega)).1 (Option.some.inj q3)
            rw [← q4]; exact i3)
          rw [hev, if_neg hnx, hxv, ii_nat (by omega)] at kk
          exact kk (rd_v I2 _ i1 i3)
        · rw [hn, hop, hop2] at z; exact absurd (by decide) z
      · exact leafc (-48) h1 (by decide) (by decide) (fun lv => by rw [hev, h1]; rfl) (Or.inl (by decide))
      · exact leafc (-49) h1 (by decide) (by decide) (fun lv => by rw [hev, h1]; rfl) (Or.inr (Or.inl (by decide)))
    · have hop2 : opc 1 x = 33 := by rw [h1]; rfl
      have eu : t - 1 = u := by omega
      refine b_X14_valueOf_0 hL hT hYT hb (fun _ => ?_) (fun z => ?_)
      · rw [hn, hop, hop2]
        refine b_X14_valueOf_20 (fun _ => ?_) (fun z => absurd (by decide) z)
        refine b_X14_valueOf_69 hL hT hYT hb ?_
        rw [hn, g2, h3]
        refine s_Mval hL hT hYT hl hlv ha htm ext_t ext_r rd_e rd_v hst f s u d _ I' h4 (fun v hv40 hv => hlf v hv40 (by obtain ⟨p, q1, q2, q3⟩ := hv; exact ⟨p, q1, by omega, q3⟩)) hI (fun I2 i1 i2 i3 i4 => ?_)
        refine b_X14_valueOf_84 (fun z => absurd rfl z) (fun _ => ?_)
        have kk := k I2 i1 i2 (fun v hv40 hv => i3 v hv40 (by
          obtain ⟨p, q1, q2, q3⟩ := hv
          refine ⟨p, q1, ?_, q3⟩
          by_cases e : p = t
          · rw [e, hx] at q3
            exact absurd (Option.some.inj q3) (ng_ii (by rw [h1]; decide) hv40)
          · omega))
        rw [hev, h1, if_pos (by decide), if_neg (by decide), if_neg (by decide), if_pos rfl, eu] at kk
        have kk := kk (v3_n i4)
        revert kk
        generalize evg 0 1 n3 j3 (vE I2 a tm) l lt f u = b1
        intro kk
        unfold n3 at kk
        refine b_X14_valueOf_93 (fun z => b_X14_valueOf_103 (b_X14_valueOf_107 ?_)) (fun z => b_X14_valueOf_99 (b_X14_valueOf_107 ?_))
        · rw [if_neg z] at kk; exact kk
        · rw [if_pos (Classical.not_not.1 z)] at kk; exact kk
      · rw [hn, hop, hop2] at z; exact absurd (by decide) z
    · have hq1 := (tre_lt _ _ _ h5)
      have hq2 := (tre_lt _ _ _ h6)
      have e : (lt t).toNatClampNeg = q := by rw [h3, ii_nat (by omega)]
      have eu : t - 1 = u := by omega
      have hx0 : x < 0 ∧ ¬ x = -48 ∧ ¬ x = -49 ∧ ¬ x = -33 ∧ (1 < opc 1 x) ∧ ¬ opc 1 x = 78 ∧ ¬ opc 1 x = 33 ∧ (x = -38 ↔ opc 1 x = 38) ∧ (x = -124 ↔ opc 1 x = 124) := by
        rcases h1 with h1 | h1 | h1 <;> subst h1 <;> decide
      obtain ⟨y0, y1, y2, y3, y4, y5, y6, y7, y8⟩ := hx0
      refine b_X14_valueOf_0 hL hT hYT hb (fun _ => ?_) (fun z => ?_)
      · rw [hn, hop]
        refine b_X14_valueOf_20 (fun _ => ?_) (fun z => absurd y5 z)
        refine b_X14_valueOf_69 hL hT hYT hb ?_
        rw [hn, g2, h3]
        refine s_Mval hL hT hYT hl hlv ha htm ext_t ext_r rd_e rd_v hst f s q d _ I' h5 (fun v hv40 hv => hlf v hv40 (by obtain ⟨p, q1, q2, q3⟩ := hv; exact ⟨p, q1, by omega, q3⟩)) hI (fun I2 i1 i2 i3 i4 => ?_)
        obtain ⟨p1, p2, p3, p4⟩ := hst I2 i1
        refine b_X14_valueOf_84 (fun _ => ?_) (fun z => absurd y6 z)
        refine b_X14_valueOf_108 hL hT hYT hb ?_
        rw [hn, p3, h4]
        refine s_Mval hL hT hYT hl hlv ha htm ext_t ext_r rd_e rd_v hst f (q + 1) u d _ I2 h6 (fun v hv40 hv I1 d Q x1 z1 z2 z3 => hlf v hv40 (by obtain ⟨p, q1, q2, q3⟩ := hv; exact ⟨p, by omega, by omega, q3⟩) I1 d Q x1 z1 z2 (ext_t _ _ _ i2 z3)) i1 (fun I3 k1 k2 k3 k4 => ?_)
        have ec : evg 0 1 n3 j3 (vE I2 a tm) l lt f q = evg 0 1 n3 j3 (vE I3 a tm) l lt f q := evg_congr hl hlv h5 (fun v hv40 hv => (rd_e I2 I3 v k2 (i3 v hv40 hv)).2.symm)
        rw [ec] at i4 ⊢
        have kk := k I3 k1 (ext_t _ _ _ i2 k2) (fun v hv40 hv => by
          obtain ⟨p, q1, q2, q3⟩ := hv
          by_cases e2 : p = t
          · rw [e2, hx] at q3
            exact absurd (Option.some.inj q3) (ng_ii y0 hv40)
          · by_cases e3 : p ≤ q
            · exact (rd_e I2 I3 v k2 (i3 v hv40 ⟨p, q1, by omega, q3⟩)).1
            · exact k3 v hv40 ⟨p, by omega, by omega, q3⟩)
        rw [hev, if_pos y0, if_neg y1, if_neg y2, if_neg y3, e, eu] at kk
        have kk := kk (v3_j i4 k4)
        revert kk
        generalize evg 0 1 n3 j3 (vE I3 a tm) l lt f q = b1
        generalize evg 0 1 n3 j3 (vE I3 a tm) l lt f u = b2
        intro kk
        unfold j3 at kk
        refine b_X14_valueOf_123 (fun z => ?_) (fun z => ?_)
        · rw [← y7] at z
          rw [if_neg z] at kk
          refine b_X14_valueOf_164 (fun z2 => ?_) (fun z2 => ?_)
          · rw [← y8] at z2
            rw [if_neg z2] at kk
            unfold x3 at kk
            have fin2 : (b1 = 2 ∨ b2 = 2) → X xs L (d + E + f + 1) 151 215 [.ref 65, .int (ii t), .int (ii tm), .int fl, .int (opc 1 x), .int b1, .int b2] [] (S, I3, J, R, c) Q := fun w => by
              rw [if_pos w] at kk; exact b_X14_valueOf_215 (b_X14_valueOf_224 kk)
            refine b_X14_valueOf_203 (fun w => fin2 (Or.inl w)) (fun w => b_X14_valueOf_209 (fun w2 => b_X14_valueOf_219 (b_X14_valueOf_224 ?_)) (fun w2 => fin2 (Or.inr (Classical.not_not.1 w2))))
            rw [if_neg (by rintro (w3 | w3); exact w w3; exact w2 w3)] at kk; exact kk
          · rw [← y8] at z2
            rw [if_pos (Classical.not_not.1 z2)] at kk
            unfold o3 at kk
            have f1 : (b1 = 1 ∨ b2 = 1) → X xs L (d + E + f + 1) 151 183 [.ref 65, .int (ii t), .int (ii tm), .int fl, .int (opc 1 x), .int b1, .int b2] [] (S, I3, J, R, c) Q := fun w => by
              rw [if_pos w] at kk; exact b_X14_valueOf_183 (b_X14_valueOf_202 kk)
            refine b_X14_valueOf_171 (fun w => f1 (Or.inl w)) (fun w => b_X14_valueOf_177 (fun w2 => ?_) (fun w2 => f1 (Or.inr (Classical.not_not.1 w2))))
            rw [if_neg (by rintro (w3 | w3); exact w w3; exact w2 w3)] at kk
            have f2 : ¬ (b1 = 0 ∧ b2 = 0) → X xs L (d + E + f + 1) 151 201 [.ref 65, .int (ii t), .int (ii tm), .int fl, .int (opc 1 x), .int b1, .int b2] [] (S, I3, J, R, c) Q := fun w => by
              rw [if_neg w] at kk; exact b_X14_valueOf_201 (b_X14_valueOf_202 kk)
            refine b_X14_valueOf_187 (fun w3 => f2 (fun w4 => w3 w4.1)) (fun w3 => b_X14_valueOf_192 (fun w4 => f2 (fun w5 => w4 w5.2)) (fun w4 => b_X14_valueOf_197 (b_X14_valueOf_202 ?_)))
            rw [if_pos ⟨Classical.not_not.1 w3, Classical.not_not.1 w4⟩] at kk; exact kk
        · rw [← y7] at z
          rw [if_pos (Classical.not_not.1 z)] at kk
          unfold a3 at kk
          have f1 : (b1 = 0 ∨ b2 = 0) → X xs L (d + E + f + 1) 151 142 [.ref 65, .int (ii t), .int (ii tm), .int fl, .int (opc 1 x), .int b1, .int b2] [] (S, I3, J, R, c) Q := fun w => by
            rw [if_pos w] at kk; exact b_X14_valueOf_142 (b_X14_valueOf_163 kk)
          refine b_X14_valueOf_132 (fun w => f1 (Or.inl w)) (fun w => b_X14_valueOf_137 (fun w2 => ?_) (fun w2 => f1 (Or.inr (Classical.not_not.1 w2))))
          rw [if_neg (by rintro (w3 | w3); exact w w3; exact w2 w3)] at kk
          have f2 : ¬ (b1 = 1 ∧ b2 = 1) → X xs L (d + E + f + 1) 151 162 [.ref 65, .int (ii t), .int (ii tm), .int fl, .int (opc 1 x), .int b1, .int b2] [] (S, I3, J, R, c) Q := fun w => by
            rw [if_neg w] at kk; exact b_X14_valueOf_162 (b_X14_valueOf_163 kk)
          refine b_X14_valueOf_146 (fun w3 => f2 (fun w4 => w3 w4.1)) (fun w3 => b_X14_valueOf_152 (fun w4 => f2 (fun w5 => w4 w5.2)) (fun w4 => b_X14_valueOf_158 (b_X14_valueOf_163 ?_)))
          rw [if_pos ⟨Classical.not_not.1 w3, Classical.not_not.1 w4⟩] at kk; exact kk
      · rw [hn, hop] at z; exact absurd y4 z
end MV
