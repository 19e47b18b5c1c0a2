/-! ===== P3: the tokens of both ===== -/
theorem rp_all (p : Int32 → Bool) (b : Nat → Int32) (len : Nat) : ∀ (n k r : Nat), len - k ≤ n → k ≤ r → r < rp p b len k → p (b r) = true
  | 0, k, r, h, h1, h2 => by rw [rp_eq, if_neg (fun q => by omega)] at h2; omega
  | n + 1, k, r, h, h1, h2 => by
    rw [rp_eq] at h2
    split at h2
    · rename_i q
      by_cases hr : r = k
      · rw [hr]; exact q.2
      · exact rp_all p b len n (k + 1) r (by omega) (by omega) h2
    · omega
theorem tks_mem (b : Nat → Int32) (len : Nat) : ∀ (f k : Nat) (t : Nat × Nat), t ∈ tks b len f k → t.1 < len ∧ t.2 = rp (cgo (kdf (b t.1))) b len (t.1 + 1) ∧ ¬ (b t.1 &&& 255 = 32 ∨ b t.1 &&& 255 = 10)
  | 0, k, t, h => by simp [tks] at h
  | f + 1, k, t, h => by
    rw [tks] at h
    split at h
    · rename_i hk
      split at h
      · exact tks_mem b len f (k + 1) t h
      · rename_i hs
        rcases List.mem_cons.1 h with h | h
        · subst h; exact ⟨hk, rfl, hs⟩
        · exact tks_mem b len f _ t h
    · simp at h
theorem lgc {a b : Int64} : lg_cmp a b = 0 ↔ a = b := by
  unfold lg_cmp
  constructor
  · intro h
    split at h
    · exact absurd h (by decide)
    · split at h
      · assumption
      · exact absurd h (by decide)
  · intro h; subst h
    simp
def wds : List Int64 := [452824429940, 2003399269, 465491485544, 444150998382, 1952998766, 26995, 26982, 24948, 29807]
theorem wk_id (w : Int64) (t : Int32) : ∀ (f i : Nat), (∀ j, i ≤ j → j < i + f → ¬ (t = 1 ∧ lg_cmp ((jTab 2).getD j 0) w = 0)) → wk w f i t = t
  | 0, i, h => rfl
  | f + 1, i, h => by
    rw [wk, if_neg (h i (Nat.le_refl _) (by omega))]
    exact wk_id w t f (i + 1) (fun j h1 h2 => h j (by omega) (by omega))
theorem wk_none {w : Int64} (h : ∀ x ∈ wds, ¬ x = w) : wk w 9 0 1 = 1 := by
  refine wk_id w 1 9 0 (fun i _ hi z => ?_)
  refine h ((jTab 2).getD i 0) ?_ (lgc.1 z.2)
  have : ∀ i : Fin 9, (jTab 2).getD i.val 0 ∈ wds := by decide +kernel
  exact this ⟨i, by omega⟩
theorem wk_some : ∀ i : Fin 9, wk ((jTab 2).getD i.val 0) 9 0 1 = ii (10 + i.val) := by decide +kernel
theorem wk_4 (w : Int64) : wk w 9 0 4 = 4 := wk_id w 4 9 0 (fun _ _ _ z => absurd z.1 (by decide))
theorem res_none {w : Int64} (h : ∀ x ∈ wds, ¬ x = w) : f_X9_isReserved w = 0 := by
  have hn : ∀ x, x ∈ wds → ¬ lg_cmp w x = 0 := fun x hx z => h x hx (lgc.1 z).symm
  unfold f_X9_isReserved
  rw [if_neg (hn _ (by decide +kernel)), if_neg (hn _ (by decide +kernel)), if_neg (hn _ (by decide +kernel)), if_neg (hn _ (by decide +kernel)), if_neg (hn _ (by decide +kernel)), if_neg (hn _ (by decide +kernel)), if_neg (hn _ (by decide +kernel)), if_neg (hn _ (by decide +kernel))]
  simp [hn _ (show (29807 : Int64) ∈ wds by decide +kernel)]
theorem res_some : ∀ i : Fin 9, ¬ f_X9_isReserved ((jTab 2).getD i.val 0) = 0 := by decide +kernel
theorem wds_i {w : Int64} (h : ¬ ∀ x ∈ wds, ¬ x = w) : ∃ i : Fin 9, (jTab 2).getD i.val 0 = w := by
  have h2 : ∃ x, x ∈ wds ∧ x = w := Classical.byContradiction fun q => h fun x hx hw => q ⟨x, hx, hw⟩
  obtain ⟨x, hx, hw⟩ := h2
  subst hw
  have : ∀ x ∈ wds, ∃ i : Fin 9, (jTab 2).getD i.val 0 = x := by decide +kernel
  exact this x hx
def NR (key w : Int64) (sz : Int32) : Prop := ∃ (n : Nat) (g : Nat → Nat), 1 ≤ n ∧ n ≤ 4 ∧ (∀ i, i < n → g i < 10) ∧ sz = ii n ∧ key = pk (fun i => ii (48 + g i)) 0 n ∧ w = dc (fun i => ii (48 + g i)) 0 n
/-- a token in the class: its kind, its key; in the model: its kind, its word, its size -/
def TR (ck : Int32) (key : Int64) (mk : Int32) (w : Int64) (sz : Int32) : Prop :=
  (mk = 1 ∧ ck = 2 ∧ key = w) ∨ (mk = 2 ∧ ck = 4 ∧ key = w) ∨ (mk = 3 ∧ ck = 5 ∧ NR key w sz) ∨ (mk = 4 ∧ ck = 1) ∨ (∃ i, i < 9 ∧ mk = ii (10 + i) ∧ ck = 3 ∧ key = (jTab 2).getD i 0) ∨ (sgn mk = true ∧ ck = mk)
theorem pk_sh (b b' : Nat → Int32) (s : Nat) : ∀ n, (∀ i, i < n → b (s + i) = b' i) → pk b s n = pk b' 0 n
  | 0, _ => rfl
  | n + 1, h => by rw [pk, pk, pk_sh b b' s n (fun i hi => h i (by omega)), h n (by omega), Nat.zero_add]
theorem dc_sh (b b' : Nat → Int32) (s : Nat) : ∀ n, (∀ i, i < n → b (s + i) = b' i) → dc b s n = dc b' 0 n
  | 0, _ => rfl
  | n + 1, h => by rw [dc, dc, dc_sh b b' s n (fun i hi => h i (by omega)), h n (by omega), Nat.zero_add]
theorem dig {y : Int32} (h : ¬ f_X14_digit y = 0) : ∃ g, g < 10 ∧ y = ii (48 + g) := by
  unfold f_X14_digit at h
  split at h
  · exact absurd rfl h
  · rename_i h1
    split at h
    · exact absurd rfl h
    · rename_i h2
      have h3 : 0 ≤ y := by
        rw [Int32.lt_iff_toInt_lt] at h1
        rw [Int32.le_iff_toInt_le]
        have : (48 : Int32).toInt = 48 := rfl
        have : (0 : Int32).toInt = 0 := rfl
        omega
      have h4 := ii_of h3
      rw [h4] at h1 h2 ⊢
      have h5 : y.toNatClampNeg < 2147483648 := by
        have := Int32.toInt_lt y
        have e : y.toNatClampNeg = y.toInt.toNat := rfl
        omega
      have h6 : ¬ y.toNatClampNeg < 48 := fun q => h1 ((ii_lt (m := 48) h5 (by omega)).2 q)
      have h7 : ¬ 57 < y.toNatClampNeg := fun q => h2 ((ii_lt (n := 57) (by omega) h5).2 q)
      exact ⟨y.toNatClampNeg - 48, by omega, by congr 1; omega⟩
theorem tok_rel {b : Nat → Int32} {len p e : Nat} (hb : ∀ i, i < len → byt (b i)) (hl : len ≤ 2000) (hp : p < len) (he : e = rp (cgo (kdf (b p))) b len (p + 1)) : TR (ckd (kdf (b p)) b p e) (pk b p (e - p)) (mkd b p e) (mwd b p e) (ii (e - p)) := by
  have hby := hb p hp
  have hk := by_k hby
  have hr := rp_le (cgo (kdf (b p))) b len _ (p + 1) (Nat.le_refl _)
  rw [← he] at hr
  unfold mkd mwd TR
  by_cases k1 : f_X14_small (b p) = 0
  · rw [if_pos k1] at hk ⊢
    rw [if_pos k1]
    by_cases k2 : f_X14_capital (b p) = 0
    · rw [if_pos k2] at hk ⊢
      rw [if_pos k2]
      by_cases k3 : f_X14_digit (b p) = 0
      · rw [if_pos k3] at hk ⊢
        by_cases k4 : ixOf (b p) < 0
        · rw [if_pos k4] at hk ⊢
          refine Or.inr (Or.inr (Or.inr (Or.inl ⟨rfl, ?_⟩)))
          unfold ckd
          rw [hk]
          split
          · rw [if_neg (by decide)]
          · rfl
        · rw [if_neg k4] at hk ⊢
          refine Or.inr (Or.inr (Or.inr (Or.inr (Or.inr ?_))))
          have hs := by_s hby k4
          have hne : ¬ b p = 2 ∧ ¬ b p = 4 ∧ ¬ b p = 5 := by rcases hs with h | h | h | h | h | h | h | h | h | h <;> rw [h] <;> decide
          have hee : e = p + 1 := by
            rw [he, rp_eq, if_neg (fun z => by rw [hk, cgo_no hne.1 hne.2.1 hne.2.2] at z; exact absurd z.2 (by decide))]
          refine ⟨by rcases hs with h | h | h | h | h | h | h | h | h | h <;> rw [h] <;> decide, ?_⟩
          unfold ckd
          rw [hk, hee, show p + 1 - p = 1 by omega]
          have hlg : f_X9_longest (b p) = 1 := by unfold f_X9_longest; rw [if_pos hne.1, if_pos hne.2.1, if_pos hne.2.2]
          rw [hlg, if_pos (by decide), if_neg hne.1]
      · rw [if_neg k3] at hk ⊢
        rw [if_neg k3]
        have hck : ckd (kdf (b p)) b p e = if e - p ≤ 4 then 5 else 1 := by
          unfold ckd
          rw [hk, show f_X9_longest 5 = ii 4 from rfl]
          by_cases h4 : e - p ≤ 4
          · rw [if_pos ((ii_le (by omega) (by omega)).2 h4), if_pos h4, if_neg (by decide)]
          · rw [if_neg (fun z => h4 ((ii_le (by omega) (by omega)).1 z)), if_neg h4]
        rw [hck]
        by_cases h4 : e - p ≤ 4
        · rw [if_pos h4, if_pos h4]
          refine Or.inr (Or.inr (Or.inl ⟨rfl, rfl, ?_⟩))
          have hd : ∀ i, ∃ g, i < e - p → g < 10 ∧ b (p + i) = ii (48 + g) := by
            intro i
            by_cases hi : i < e - p
            · have hc : ¬ f_X14_digit (b (p + i)) = 0 := by
                by_cases h0 : i = 0
                · rw [h0]; exact k3
                · have := rp_all (cgo (kdf (b p))) b len _ (p + 1) (p + i) (Nat.le_refl _) (by omega) (by rw [← he]; omega)
                  rw [hk, by_5 (hb (p + i) (by omega))] at this
                  intro z; rw [bz_f z] at this; cases this
              obtain ⟨g, h1, h2⟩ := dig hc
              exact ⟨g, fun _ => ⟨h1, h2⟩⟩
            · exact ⟨0, fun z => absurd z hi⟩
          refine ⟨e - p, fun i => (hd i).choose, by omega, h4, fun i hi => ((hd i).choose_spec hi).1, rfl, ?_, ?_⟩
          · exact pk_sh _ _ _ _ (fun i hi => ((hd i).choose_spec hi).2)
          · exact dc_sh _ _ _ _ (fun i hi => ((hd i).choose_spec hi).2)
        · rw [if_neg h4, if_neg h4]
          exact Or.inr (Or.inr (Or.inr (Or.inl ⟨rfl, rfl⟩)))
    · rw [if_neg k2] at hk ⊢
      rw [if_neg k2]
      have hck : ckd (kdf (b p)) b p e = if e - p ≤ 4 then 4 else 1 := by
        unfold ckd
        rw [hk, show f_X9_longest 4 = ii 4 from rfl]
        by_cases h4 : e - p ≤ 4
        · rw [if_pos ((ii_le (by omega) (by omega)).2 h4), if_pos h4, if_neg (by decide)]
        · rw [if_neg (fun z => h4 ((ii_le (by omega) (by omega)).1 z)), if_neg h4]
      rw [hck]
      by_cases h4 : e - p ≤ 4
      · rw [if_pos h4, if_pos h4]
        exact Or.inr (Or.inl ⟨rfl, rfl, rfl⟩)
      · rw [if_neg h4, if_neg h4]
        exact Or.inr (Or.inr (Or.inr (Or.inl ⟨rfl, rfl⟩)))
  · rw [if_neg k1] at hk ⊢
    rw [if_neg k1]
    by_cases h4 : e - p ≤ 8
    · rw [if_pos h4]
      by_cases hw : ∀ x ∈ wds, ¬ x = pk b p (e - p)
      · refine Or.inl ⟨wk_none hw, ?_, rfl⟩
        unfold ckd
        rw [hk, show f_X9_longest 2 = ii 8 from rfl, if_pos ((ii_le (by omega) (by omega)).2 h4), if_pos rfl, if_pos (res_none hw)]
      · obtain ⟨i, hi⟩ := wds_i hw
        refine Or.inr (Or.inr (Or.inr (Or.inr (Or.inl ⟨i.val, i.isLt, ?_, ?_, hi.symm⟩))))
        · rw [← hi, wk_some i]
        · unfold ckd
          rw [hk, show f_X9_longest 2 = ii 8 from rfl, if_pos ((ii_le (by omega) (by omega)).2 h4), if_pos rfl, ← hi, if_neg (res_some i)]
    · rw [if_neg h4, wk_4]
      refine Or.inr (Or.inr (Or.inr (Or.inl ⟨rfl, ?_⟩)))
      unfold ckd
      rw [hk, show f_X9_longest 2 = ii 8 from rfl, if_neg (fun z => h4 ((ii_le (by omega) (by omega)).1 z))]
