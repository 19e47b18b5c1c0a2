/-! ===== P2: count of both sides ===== -/
theorem tsw {pc lo hi : Nat} {dflt : Int} {offs : Array Int} {k tgt : Nat} {off : Int} (hk : k < 2147483648) (h1 : k ≤ hi) (ho : offs[k]? = some off) (ht : tg pc off = some tgt) : xnB pc (.tableswitch dflt 0 (hi : Int) offs) (.int (ii k) :: []) = some (tgt, []) := by
  have e : (ii k).toInt = (k : Int) := ii_toInt hk
  show (if (ii k).toInt < 0 ∨ (hi : Int) < (ii k).toInt then (tg pc dflt).map fun g => (g, ([] : List Value)) else match offs[((ii k).toInt - 0).toNat]? with
      | some off => (tg pc off).map fun g => (g, ([] : List Value))
      | none => none) = _
  rw [e, if_neg (by omega)]
  have e2 : ((k : Int) - 0).toNat = k := by omega
  rw [e2, ho]
  show Option.map _ (tg pc off) = _
  rw [ht]; rfl
theorem tsd {pc hi : Nat} {dflt : Int} {offs : Array Int} {x : Int32} {tgt : Nat} (h2 : hi < 2147483647) (h : ¬ ∃ k, k < hi + 1 ∧ x = ii k) (ht : tg pc dflt = some tgt) : xnB pc (.tableswitch dflt 0 (hi : Int) offs) (.int x :: []) = some (tgt, []) := by
  show (if x.toInt < 0 ∨ (hi : Int) < x.toInt then (tg pc dflt).map fun g => (g, ([] : List Value)) else match offs[(x.toInt - 0).toNat]? with
      | some off => (tg pc off).map fun g => (g, ([] : List Value))
      | none => none) = _
  rw [if_pos ?_, ht]; rfl
  apply Classical.byContradiction
  intro hno
  apply h
  have h0 : 0 ≤ x := by rw [Int32.le_iff_toInt_le]; show (0 : Int) ≤ _; omega
  refine ⟨x.toNatClampNeg, ?_, ii_of h0⟩
  show x.toInt.toNat < hi + 1
  omega
/-- what count answers -/
def cnF (NN n0 n1 n2 V gv nc m : Nat) (x : Int32) : Int32 := if x = 0 then ii NN else if x = 1 then ii n0 else if x = 2 then ii n1 else if x = 3 then ii n2 else if x = 4 then ii V else if x = 5 then ii gv else if x = 6 then ii nc else if x = 7 then ii m else -1
section CNT
variable {xs : Nat → Int32} {L d : Nat} {S : Nat → Shp} {I : Nat → Nat → Int32} {J : Nat → Nat → Int64} {R : Nat → Nat → Nat} {c : Nat × Nat} {Q : Option (Option Value) → MH → Prop} {V q b N C gv nc m : Nat} {ns : List Nd} {x : Int32}
/-- how many nodes of a kind -/
def kct (ns : List Nd) (k : Nat) : Nat := fb_ct (fun i => decide (ndk ns i = k)) ns.length
theorem s_ccount (hL : Lay S R) (r4 : R 1 4 = b) (hYb : LyCi S R b) (hC : CRd I J b ns) (h40 : ns.length ≤ 40) (h2 : ∀ x ∈ ns, x.2.1 ≤ 2) (r6 : R 1 6 = q) (hY : LyCm S R q)
    (h18 : (I 1 8 = 0 ∧ V = 0 ∧ gv = 0 ∧ nc = 0 ∧ m = 0) ∨ (I 1 8 = 1 ∧ I q 0 = ii V ∧ I q 2 = ii gv ∧ I q 3 - I q 2 = ii nc ∧ I q 4 = ii m)) (k : Q (some (some (.int (cnF ns.length (kct ns 0) (kct ns 1) (kct ns 2) V gv nc m x)))) (S, I, J, R, c)) : X xs L (d + 1) 113 0 [.ref 1, .int x] [] (S, I, J, R, c) Q := by
  by_cases hx : ∃ k, k < 7 + 1 ∧ x = ii k
  · obtain ⟨i, hi, rfl⟩ := hx
    have key : ∀ {tgt off}, (#[47, 55, 64, 73, 82, 101, 120, 147] : Array Int)[i]? = some off → tg 1 off = some tgt → X xs L (d + 1) 113 tgt [.ref 1, .int (ii i)] [] (S, I, J, R, c) Q → X xs L (d + 1) 113 0 [.ref 1, .int (ii i)] [] (S, I, J, R, c) Q := fun h1 h2 k => b_X10_count_0 (tsw (lo := 0) (hi := 7) (by omega) (by omega) h1 h2) k
    rcases (show i = 0 ∨ i = 1 ∨ i = 2 ∨ i = 3 ∨ i = 4 ∨ i = 5 ∨ i = 6 ∨ i = 7 by omega) with rfl | rfl | rfl | rfl | rfl | rfl | rfl | rfl
    · exact key rfl rfl (b_X10_count_48 hL r4 hYb (by rw [hC.1]; exact k))
    · exact key rfl rfl (b_X10_count_56 hL r4 hYb (s_howMany (k := 0) hYb hC h40 (by omega) h2 (b_X10_count_64 k)))
    · exact key rfl rfl (b_X10_count_65 hL r4 hYb (s_howMany (k := 1) hYb hC h40 (by omega) h2 (b_X10_count_73 k)))
    · exact key rfl rfl (b_X10_count_74 hL r4 hYb (s_howMany (k := 2) hYb hC h40 (by omega) h2 (b_X10_count_82 k)))
    · refine key rfl rfl (b_X10_count_83 hL (fun z => b_X10_count_100 (b_X10_count_101 ?_)) (fun z => b_X10_count_90 hL r6 hY (b_X10_count_101 ?_))) <;> rcases h18 with ⟨w, rfl, rfl, rfl, rfl⟩ | ⟨w, w1, w2, w3, w4⟩
      · exact k
      · rw [w] at z; exact absurd z (by decide)
      · exact absurd w z
      · rw [w1]; exact k
    · refine key rfl rfl (b_X10_count_102 hL (fun z => b_X10_count_119 (b_X10_count_120 ?_)) (fun z => b_X10_count_109 hL r6 hY (b_X10_count_120 ?_))) <;> rcases h18 with ⟨w, rfl, rfl, rfl, rfl⟩ | ⟨w, w1, w2, w3, w4⟩
      · exact k
      · rw [w] at z; exact absurd z (by decide)
      · exact absurd w z
      · rw [w2]; exact k
    · refine key rfl rfl (b_X10_count_121 hL (fun z => b_X10_count_146 (b_X10_count_147 ?_)) (fun z => b_X10_count_128 hL r6 hY (b_X10_count_147 ?_))) <;> rcases h18 with ⟨w, rfl, rfl, rfl, rfl⟩ | ⟨w, w1, w2, w3, w4⟩
      · exact k
      · rw [w] at z; exact absurd z (by decide)
      · exact absurd w z
      · rw [w3]; exact k
    · refine key rfl rfl (b_X10_count_148 hL (fun z => b_X10_count_165 (b_X10_count_166 ?_)) (fun z => b_X10_count_155 hL r6 hY (b_X10_count_166 ?_))) <;> rcases h18 with ⟨w, rfl, rfl, rfl, rfl⟩ | ⟨w, w1, w2, w3, w4⟩
      · exact k
      · rw [w] at z; exact absurd z (by decide)
      · exact absurd w z
      · rw [w4]; exact k
  · refine b_X10_count_0 (tsd (hi := 7) (by omega) hx rfl) (b_X10_count_167 ?_)
    have hne : ∀ k, k < 8 → ¬ x = ii k := fun k hk e => hx ⟨k, hk, e⟩
    unfold cnF at k
    rw [if_neg (show ¬ x = 0 from hne 0 (by omega)), if_neg (show ¬ x = 1 from hne 1 (by omega)), if_neg (show ¬ x = 2 from hne 2 (by omega)), if_neg (show ¬ x = 3 from hne 3 (by omega)), if_neg (show ¬ x = 4 from hne 4 (by omega)), if_neg (show ¬ x = 5 from hne 5 (by omega)), if_neg (show ¬ x = 6 from hne 6 (by omega)), if_neg (show ¬ x = 7 from hne 7 (by omega))] at k
    exact k
theorem s_kinds0 {k : Nat} (hL : Lay S R) (h22 : I 65 22 = 0) (kk : Q (some (some (.int (ii 0)))) (S, I, J, R, c)) : X xs L d 165 0 [.ref 65, .int (ii (k + 10)), .null, .null] [] (S, I, J, R, c) Q :=
  b_X14_kinds_0 (b_X14_kinds_4 hL (fun _ => b_X14_kinds_49 kk) (fun z => absurd h22 z))
theorem s_mcount (hL : Lay S R) (hN : R 65 11 = N) (hY : LyNo S R N) (h22 : (I 65 22 = 0 ∧ ns = []) ∨ (I 65 22 = 1 ∧ I N 4 = ii ns.length ∧ ns.length ≤ 40 ∧ ∀ i x, ns[i]? = some x → I (N + 2) i = ii (x.2.1 + 10) ∧ x.2.1 ≤ 2)) (hC : R 65 13 = C)
    (h13 : (C = 0 ∧ V = 0 ∧ gv = 0 ∧ nc = 0 ∧ m = 0) ∨ (¬ C = 0 ∧ LyCs S R C ∧ I C 8 = ii V ∧ I C 6 = ii gv ∧ I C 7 = ii nc ∧ I C 9 = ii m)) (k : Q (some (some (.int (cnF ns.length (kct ns 0) (kct ns 1) (kct ns 2) V gv nc m x)))) (S, I, J, R, c)) : X xs L (d + 1) 166 0 [.ref 65, .int x] [] (S, I, J, R, c) Q := by
  have hK : ∀ {i} {Q' : Option (Option Value) → MH → Prop}, i ≤ 2 → Q' (some (some (.int (ii (kct ns i))))) (S, I, J, R, c) → X xs L d 165 0 [.ref 65, .int (ii (i + 10)), .null, .null] [] (S, I, J, R, c) Q' := by
    intro i Q' hi kk
    rcases h22 with ⟨w, rfl⟩ | ⟨w, w1, w2, w3⟩
    · exact s_kinds0 hL w kk
    · exact s_kinds hL hN hY w w1 w2 w3 hi kk
  by_cases hx : ∃ k, k < 7 + 1 ∧ x = ii k
  · obtain ⟨i, hi, rfl⟩ := hx
    have key : ∀ {tgt off}, (#[47, 66, 73, 80, 87, 106, 125, 144] : Array Int)[i]? = some off → tg 1 off = some tgt → X xs L (d + 1) 166 tgt [.ref 65, .int (ii i)] [] (S, I, J, R, c) Q → X xs L (d + 1) 166 0 [.ref 65, .int (ii i)] [] (S, I, J, R, c) Q := fun h1 h2 k => b_X14_count_0 (tsw (lo := 0) (hi := 7) (by omega) (by omega) h1 h2) k
    rcases (show i = 0 ∨ i = 1 ∨ i = 2 ∨ i = 3 ∨ i = 4 ∨ i = 5 ∨ i = 6 ∨ i = 7 by omega) with rfl | rfl | rfl | rfl | rfl | rfl | rfl | rfl
    · refine key rfl rfl (b_X14_count_48 hL (fun z => b_X14_count_65 (b_X14_count_66 ?_)) (fun z => b_X14_count_55 hL hN hY (b_X14_count_66 ?_))) <;> rcases h22 with ⟨w, rfl⟩ | ⟨w, w1, w2, w3⟩
      · exact k
      · rw [w] at z; exact absurd z (by decide)
      · exact absurd w z
      · rw [w1]; exact k
    · exact key rfl rfl (b_X14_count_67 hL (hK (i := 0) (by omega) (b_X14_count_73 k)))
    · exact key rfl rfl (b_X14_count_74 hL (hK (i := 1) (by omega) (b_X14_count_80 k)))
    · exact key rfl rfl (b_X14_count_81 hL (hK (i := 2) (by omega) (b_X14_count_87 k)))
    · refine key rfl rfl (b_X14_count_88 hL hC (fun z => ?_) (fun z => b_X14_count_95 (b_X14_count_106 ?_))) <;> rcases h13 with ⟨w, rfl, rfl, rfl, rfl⟩ | ⟨w, w0, w1, w2, w3, w4⟩
      · exact absurd w z
      · exact b_X14_count_99 hL hC w0 (b_X14_count_106 (by rw [w1]; exact k))
      · exact k
      · exact absurd w z
    · refine key rfl rfl (b_X14_count_107 hL hC (fun z => ?_) (fun z => b_X14_count_114 (b_X14_count_125 ?_))) <;> rcases h13 with ⟨w, rfl, rfl, rfl, rfl⟩ | ⟨w, w0, w1, w2, w3, w4⟩
      · exact absurd w z
      · exact b_X14_count_118 hL hC w0 (b_X14_count_125 (by rw [w2]; exact k))
      · exact k
      · exact absurd w z
    · refine key rfl rfl (b_X14_count_126 hL hC (fun z => ?_) (fun z => b_X14_count_133 (b_X14_count_144 ?_))) <;> rcases h13 with ⟨w, rfl, rfl, rfl, rfl⟩ | ⟨w, w0, w1, w2, w3, w4⟩
      · exact absurd w z
      · exact b_X14_count_137 hL hC w0 (b_X14_count_144 (by rw [w3]; exact k))
      · exact k
      · exact absurd w z
    · refine key rfl rfl (b_X14_count_145 hL hC (fun z => ?_) (fun z => b_X14_count_152 (b_X14_count_163 ?_))) <;> rcases h13 with ⟨w, rfl, rfl, rfl, rfl⟩ | ⟨w, w0, w1, w2, w3, w4⟩
      · exact absurd w z
      · exact b_X14_count_156 hL hC w0 (b_X14_count_163 (by rw [w4]; exact k))
      · exact k
      · exact absurd w z
  · refine b_X14_count_0 (tsd (hi := 7) (by omega) hx rfl) (b_X14_count_164 ?_)
    have hne : ∀ k, k < 8 → ¬ x = ii k := fun k hk e => hx ⟨k, hk, e⟩
    unfold cnF at k
    rw [if_neg (show ¬ x = 0 from hne 0 (by omega)), if_neg (show ¬ x = 1 from hne 1 (by omega)), if_neg (show ¬ x = 2 from hne 2 (by omega)), if_neg (show ¬ x = 3 from hne 3 (by omega)), if_neg (show ¬ x = 4 from hne 4 (by omega)), if_neg (show ¬ x = 5 from hne 5 (by omega)), if_neg (show ¬ x = 6 from hne 6 (by omega)), if_neg (show ¬ x = 7 from hne 7 (by omega))] at k
    exact k
end CNT
