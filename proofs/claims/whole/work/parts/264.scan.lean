/-! ===== P2: scan ===== -/
def kdf (y : Int32) : Int32 := f_X9_kindOf (y &&& 255)
def tks (b : Nat → Int32) (len : Nat) : Nat → Nat → List (Nat × Nat)
  | 0, _ => []
  | f + 1, k => if k < len then (if b k &&& 255 = 32 ∨ b k &&& 255 = 10 then tks b len f (k + 1) else (k, rp (cgo (kdf (b k))) b len (k + 1)) :: tks b len f (rp (cgo (kdf (b k))) b len (k + 1))) else []
def CT (b : Nat → Int32) (I : Nat → Nat → Int32) (J : Nat → Nat → Int64) (T : List (Nat × Nat)) : Prop := ∀ (i : Nat) (t : Nat × Nat), T[i]? = some t → I 5 i = ckd (kdf (b t.1)) b t.1 t.2 ∧ I 6 i = ii t.1 ∧ J 7 i = pk b t.1 (t.2 - t.1)
/-- but for the places of A nothing changes -/
def fr {α : Type} (A : Nat → Nat → Prop) (f g : Nat → Nat → α) : Prop := ∀ a k, ¬ A a k → g a k = f a k
theorem fr_refl {α : Type} (A : Nat → Nat → Prop) (f : Nat → Nat → α) : fr A f f := fun _ _ _ => rfl
theorem fr_trans {α : Type} {A : Nat → Nat → Prop} {f g h : Nat → Nat → α} (p : fr A f g) (q : fr A g h) : fr A f h := fun a k n => (q a k n).trans (p a k n)
theorem fr_u {α : Type} {A : Nat → Nat → Prop} {f g : Nat → Nat → α} {a k : Nat} (v : α) (p : fr A f g) (h : A a k) : fr A f (u2 g a k v) := fun b j n => by
  rw [u2_if, if_neg (fun q => n (by rw [q.1, q.2]; exact h))]; exact p b j n
theorem fr_row {α : Type} {A : Nat → Nat → Prop} {f g : Nat → Nat → α} (p : fr A f g) (a : Nat) (h : ∀ k, ¬ A a k) : g a = f a := funext fun k => p a k (h k)
theorem fr_sub {α : Type} {A B : Nat → Nat → Prop} {f g : Nat → Nat → α} (p : fr A f g) (h : ∀ a k, A a k → B a k) : fr B f g := fun a k n => p a k (fun q => n (h a k q))
def aSc (a k : Nat) : Prop := a = 5 ∨ a = 6 ∨ (a = 4 ∧ (k = 4 ∨ k = 5))
def aSj (a _k : Nat) : Prop := a = 7
theorem CT_snoc {b : Nat → Int32} {I : Nat → Nat → Int32} {J : Nat → Nat → Int64} {T : List (Nat × Nat)} {p e n : Nat} {x : Int32} (h : CT b I J T) (hn : n = T.length) : CT b (u2 (u2 (u2 I 5 n (ckd (kdf (b p)) b p e)) 6 n (ii p)) 4 4 x) (u2 J 7 n (pk b p (e - p))) (T ++ [(p, e)]) := by
  intro i t ht
  rw [List.getElem?_append] at ht
  split at ht
  · rename_i hi
    have h1 := h i t ht
    have hne : i ≠ n := by omega
    rw [u2_a _ _ _ _ (by decide), u2_a _ _ _ _ (by decide), u2_k _ _ _ _ hne, u2_a _ _ _ _ (by decide), u2_k _ _ _ _ hne, u2_a _ _ _ _ (by decide), u2_k _ _ _ _ hne]
    exact h1
  · rename_i hi
    have h2 : i - T.length = 0 := by
      by_cases q : i - T.length = 0
      · exact q
      · rw [List.getElem?_cons, if_neg q] at ht; simp at ht
    have h3 : i = n := by omega
    rw [h2] at ht
    have ht' : (p, e) = t := by simpa using ht
    subst ht' h3
    rw [u2_a _ _ _ _ (by decide), u2_a _ _ _ _ (by decide), u2_e, u2_a _ _ _ _ (by decide), u2_e, u2_e]
    exact ⟨rfl, rfl, rfl⟩
theorem tks_len (b : Nat → Int32) (len : Nat) : ∀ (f k : Nat), k ≤ len → (tks b len f k).length ≤ len - k
  | 0, k, h => by simp [tks]
  | f + 1, k, h => by
    rw [tks]
    split
    · split
      · have := tks_len b len f (k + 1) (by omega); omega
      · have h1 := rp_le (cgo (kdf (b k))) b len _ (k + 1) (Nat.le_refl _)
        have := tks_len b len f (rp (cgo (kdf (b k))) b len (k + 1)) (by omega)
        rw [List.length_cons]; omega
    · simp
theorem s_X9_scan {xs : Nat → Int32} {L d : Nat} {S : Nat → Shp} {I : Nat → Nat → Int32} {J : Nat → Nat → Int64} {R : Nat → Nat → Nat} {c : Nat × Nat} {Q : Option (Option Value) → MH → Prop} {len : Nat} (hL : Lay S R) (hl : I 2 1 = ii len) (hl2 : len ≤ 2000) (k : ∀ I' J', fr aSc I I' → fr aSj J J' → CT (I 3) I' J' (tks (I 3) len len 0) → I' 5 (tks (I 3) len len 0).length = 0 → I' 6 (tks (I 3) len len 0).length = ii len → I' 4 4 = ii ((tks (I 3) len len 0).length + 1) → I' 4 5 = 0 → Q (some none) (S, I', J', R, c)) : X xs L (d + 4) 83 0 [.ref 4, .null, .null] [] (S, I, J, R, c) Q := by
  refine b_X9_scan_0 hL ?_
  have hloop : ∀ (f q : Nat) (v2 : Value) (I' : Nat → Nat → Int32) (J' : Nat → Nat → Int64) (T : List (Nat × Nat)), len - q ≤ f → q ≤ len → T.length ≤ q → fr aSc I I' → fr aSj J J' → CT (I 3) I' J' T → I' 4 4 = ii T.length → I' 4 5 = 0 → T ++ tks (I 3) len f q = tks (I 3) len len 0 → X xs L (d + 4) 83 12 [.ref 4, .int (ii q), v2] [] (S, I', J', R, c) Q := by
    intro f
    induction f with
    | zero =>
      intro q v2 I' J' T h1 h2 h3 h4 h5 h6 h7 h8 h9
      have hl' : I' 2 1 = ii len := by rw [h4 2 1 (by unfold aSc; omega), hl]
      refine b_X9_scan_12 hL (fun h => ?_) (fun h => ?_)
      · have hb : inb (I' 4 4) 2001 = true := by rw [h7]; exact ii_inb (by omega) (by omega)
        refine b_X9_scan_69 hL hb hb ?_
        rw [h7, ii_nat (by omega), ii_add1, hl']
        rw [show tks (I 3) len 0 q = [] from rfl, List.append_nil] at h9
        refine k _ _ (fr_u _ (fr_u _ (fr_u _ h4 (Or.inl rfl)) (Or.inr (Or.inl rfl))) (Or.inr (Or.inr ⟨rfl, Or.inl rfl⟩))) h5 ?_ ?_ ?_ ?_ ?_
        · rw [← h9]
          intro i t ht
          have hi : i ≠ T.length := fun q => by rw [q, List.getElem?_eq_none (Nat.le_refl _)] at ht; cases ht
          have := h6 i t ht
          rw [u2_a _ _ _ _ (by decide), u2_a _ _ _ _ (by decide), u2_k _ _ _ _ hi, u2_a _ _ _ _ (by decide), u2_k _ _ _ _ hi, u2_a _ _ _ _ (by decide)]
          exact this
        · rw [← h9, u2_a _ _ _ _ (by decide), u2_a _ _ _ _ (by decide), u2_e]
        · rw [← h9, u2_a _ _ _ _ (by decide), u2_e]
        · rw [← h9, u2_e]
        · rw [u2_k _ _ _ _ (by decide), u2_a _ _ _ _ (by decide), u2_a _ _ _ _ (by decide), h8]
      · rw [hl', ii_le (by omega) (by omega)] at h; omega
    | succ f ih =>
      intro q v2 I' J' T h1 h2 h3 h4 h5 h6 h7 h8 h9
      have hl' : I' 2 1 = ii len := by rw [h4 2 1 (by unfold aSc; omega), hl]
      have h3' : I' 3 = I 3 := fr_row h4 3 (by intro k; unfold aSc; omega)
      rw [tks] at h9
      by_cases hq : q < len
      · rw [if_pos hq] at h9
        refine b_X9_scan_12 hL (fun h => ?_) (fun h => ?_)
        · rw [hl', ii_le (by omega) (by omega)] at h; omega
        refine b_X9_scan_23 hL (s_X8_byteAt hL (ii_inb (by omega) (by omega)) ?_)
        have e1 : f_X8_byteAt I' (ii q) = I 3 q &&& 255 := by unfold f_X8_byteAt; rw [ii_nat (by omega), h3']
        rw [e1]
        have hsp : (I 3 q &&& 255 = 32 ∨ I 3 q &&& 255 = 10) → ∀ v, X xs L (d + 4) 83 44 [.ref 4, .int (ii q), .int v] [] (S, I', J', R, c) Q := by
          intro hs v
          rw [if_pos hs] at h9
          refine b_X9_scan_44 (b_X9_scan_66 ?_)
          rw [ii_add1]
          exact ih (q + 1) _ I' J' T (by omega) (by omega) (by omega) h4 h5 h6 h7 h8 h9
        refine b_X9_scan_31 (fun h10 => hsp (Or.inl h10) _) (fun h10 => ?_)
        refine b_X9_scan_38 (fun h11 => ?_) (fun h11 => hsp (Or.inr (Classical.not_not.1 h11)) _)
        rw [if_neg (fun z => z.elim h10 h11)] at h9
        refine b_X9_scan_50 (s_X9_kindOf ?_)
        have hr := rp_le (cgo (kdf (I 3 q))) (I 3) len _ (q + 1) (Nat.le_refl _)
        refine b_X9_scan_59 hL (s_X9_addToken (e := rp (cgo (kdf (I 3 q))) (I 3) len (q + 1)) hL hl' hl2 hq h7 (by omega) (by rw [h3']; rfl) ?_)
        refine b_X9_scan_62 (b_X9_scan_66 ?_)
        rw [ii_add1]
        have emx : (if ii (q + 1) < ii (rp (cgo (kdf (I 3 q))) (I 3) len (q + 1)) then ii (rp (cgo (kdf (I 3 q))) (I 3) len (q + 1)) else ii (q + 1)) = ii (rp (cgo (kdf (I 3 q))) (I 3) len (q + 1)) := by
          split
          · rfl
          · rename_i z; rw [ii_lt (by omega) (by omega)] at z; congr 1; omega
        rw [emx]
        refine ih _ _ _ _ (T ++ [(q, rp (cgo (kdf (I 3 q))) (I 3) len (q + 1))]) (by omega) (by omega) (by rw [List.length_append, List.length_singleton]; omega) (fr_u _ (fr_u _ (fr_u _ h4 (Or.inl rfl)) (Or.inr (Or.inl rfl))) (Or.inr (Or.inr ⟨rfl, Or.inl rfl⟩))) (fr_u _ h5 rfl) ?_ ?_ ?_ ?_
        · rw [h3']; exact CT_snoc h6 rfl
        · rw [u2_e, List.length_append, List.length_singleton]
        · rw [u2_k _ _ _ _ (by decide), u2_a _ _ _ _ (by decide), u2_a _ _ _ _ (by decide), h8]
        · rw [List.append_assoc]; exact h9
      · rw [if_neg hq] at h9
        exact X_mono (ih q v2 I' J' T (by omega) h2 h3 h4 h5 h6 h7 h8 (by
          rw [show tks (I 3) len f q = [] by cases f with
            | zero => rfl
            | succ f => rw [tks, if_neg hq]]
          exact h9)) (fun _ _ z => z)
  refine hloop len 0 _ _ _ [] (by omega) (by omega) (by simp) ?_ (fr_refl _ _) ?_ ?_ ?_ rfl
  · exact fr_u _ (fr_u _ (fr_refl _ _) (Or.inr (Or.inr ⟨rfl, Or.inl rfl⟩))) (Or.inr (Or.inr ⟨rfl, Or.inr rfl⟩))
  · intro i t ht; simp at ht
  · rw [u2_k _ _ _ _ (by decide), u2_e]; rfl
  · rw [u2_e]
