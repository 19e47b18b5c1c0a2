section JDK2
variable {l : Launch} {b : Nat} {ex : Nat → Nat} {xs : Nat → Int32} {L : Nat}
set_option maxHeartbeats 4000000 in
theorem jm_length : MetJ l b ex xs L yJ0_length_8abf5 cJ0_length_8abf5 1 (some .int) 2 [.ref (ex 3)] 10 := by
  refine jm (by decide +kernel) (Nat.le_of_ble_eq_true rfl) ?_
  intro p e s m below meth c hx hb hml hr hts hown hlocks hSt ls hl
  have hSt0 := hSt
  obtain ⟨-, -, ⟨-, c2, c3⟩, -⟩ := hSt
  have hl : lv_has ls 1 [(0, .ref (ex 3))] := hl
  refine lv_aload_n hx hb dJ0_length_8abf5_0 rfl (lv_at hl 0 rfl) ?_
  refine vk_getf hx hb (c2.1 0 (by decide)).2.2.1 va_S.rf hown (hts _ j_w0.2.2.1 rfl) (fun _ q => q) dJ0_length_8abf5_1 ?_
  refine va_tlen (v := 10) hx hb (c2.1 0 (by decide)).2.2.2 va_S.rf rfl dJ0_length_8abf5_4 ?_
  refine lv_aload_n hx hb dJ0_length_8abf5_5 rfl (lv_at hl 0 rfl) ?_
  refine jv_run (As := []) hx hb hml hts hown hSt0 va_S.rf (jm_coder 1) jc_J0_coder_7d493 j_w1 rfl (show npO yJ0_coder_7d493 0 = true by decide +kernel) (by decide) (by decide) hl.1 (by decide) (by decide) (by decide) dJ0_length_8abf5_6 ?_
  refine lv_ishr hx hb dJ0_length_8abf5_9 ?_
  exact mj_ret hx hb hr rfl hlocks dJ0_length_8abf5_10
def jEnc (c : Int32) : Int32 := if c < 0 then 0 else if 255 < c then 0 else 1
set_option maxHeartbeats 4000000 in
theorem jm_enc (d : Nat) (x : Int32) : MetJ l b ex xs L yJ1_canEncode_9a6ad cJ1_canEncode_9a6ad 1 (some .boolean) d [.int x] (jEnc x) := by
  refine jm (by decide +kernel) (Nat.le_of_ble_eq_true rfl) ?_
  intro p e s m below meth c hx hb hml hr hts hown hlocks hSt ls hl
  have hl : lv_has ls 1 [(0, .int x)] := hl
  have e0 : ∀ {h : jEnc x = 0}, W p l e (rmJ d) s m [Value.int x].toArray below meth c s.heap [] 0 0 (MQ below (QcJ (jEnc x)) [Value.int x].toArray s 0 0 (fun _ => False)) (F0 m 15 ls []) := by
    intro h
    refine lv_iconst (v := 0) hx hb dJ1_canEncode_9a6ad_15 (by decide) ?_
    rw [h]
    exact mj_ret hx hb hr rfl hlocks dJ1_canEncode_9a6ad_16
  refine lv_iload_n hx hb dJ1_canEncode_9a6ad_0 rfl (lv_at hl 0 rfl) ?_
  refine lv_if_lt (tgt := 15) hx hb dJ1_canEncode_9a6ad_1 (by decide) (fun h => e0 (h := by simp [jEnc, h])) (fun h1 => ?_)
  refine lv_iload_n hx hb dJ1_canEncode_9a6ad_4 rfl (lv_at hl 0 rfl) ?_
  refine lv_sipush (v := 255) hx hb dJ1_canEncode_9a6ad_5 (by decide) ?_
  refine lv_icmp_gt (tgt := 15) hx hb dJ1_canEncode_9a6ad_8 (by decide) (fun h => e0 (h := by simp [jEnc, h1, h])) (fun h2 => ?_)
  refine lv_iconst (v := 1) hx hb dJ1_canEncode_9a6ad_11 (by decide) ?_
  refine lv_goto (tgt := 16) hx hb dJ1_canEncode_9a6ad_12 (by decide) ?_
  rw [show jEnc x = 1 by simp [jEnc, h1, h2]]
  exact mj_ret hx hb hr rfl hlocks dJ1_canEncode_9a6ad_16
set_option maxHeartbeats 4000000 in
theorem jm_char (d : Nat) (x : Int32) : MetJ l b ex xs L yJ1_indexOfChar_4cfef cJ1_indexOfChar_4cfef 6 (some .int) d [.ref (ex 4), .int x, .int 0, .int 10] (ixF x.toInt8.toInt32 ixB 0) := by
  refine jm (by decide +kernel) (Nat.le_of_ble_eq_true rfl) ?_
  intro p e s m below meth c hx hb hml hr hts hown hlocks hSt ls hl
  obtain ⟨-, -, ⟨-, c2, c3⟩, -⟩ := hSt
  have hT := (c2.1 0 (by decide)).2.2.2
  have hl : lv_has ls 6 [(0, .ref (ex 4)), (1, .int x), (2, .int 0), (3, .int 10)] := hl
  refine lv_iload_n hx hb dJ1_indexOfChar_4cfef_0 rfl (lv_at hl 1 rfl) ?_
  refine lv_i2b hx hb dJ1_indexOfChar_4cfef_1 rfl ?_
  refine lv_istore (lv' := [(4, .int x.toInt8.toInt32), (0, .ref (ex 4)), (1, .int x), (2, .int 0), (3, .int 10)]) hx hb dJ1_indexOfChar_4cfef_2 hl (by decide) rfl (fun ls hl => ?_)
  refine lv_iload_n hx hb dJ1_indexOfChar_4cfef_4 rfl (lv_at hl 3 rfl) ?_
  refine lv_istore (lv' := [(5, .int 0), (4, .int x.toInt8.toInt32), (0, .ref (ex 4)), (1, .int x), (2, .int 0), (3, .int 10)]) hx hb dJ1_indexOfChar_4cfef_5 hl (by decide) rfl (fun ls hl => ?_)
  have loop : ∀ (t : List Int32) (k : Nat), k ≤ 10 → ixB.drop k = t → ixF x.toInt8.toInt32 t k = ixF x.toInt8.toInt32 ixB 0 → ∀ ls : Array Slot, lv_has ls 6 [(5, .int (nI k)), (4, .int x.toInt8.toInt32), (0, .ref (ex 4)), (3, .int 10)] → W p l e (rmJ d) s m [Value.ref (ex 4), .int x, .int 0, .int 10].toArray below meth c s.heap [] 0 0 (MQ below (QcJ (ixF x.toInt8.toInt32 ixB 0)) [Value.ref (ex 4), .int x, .int 0, .int 10].toArray s 0 0 (fun _ => False)) (F0 m 7 ls []) := by
    intro t
    induction t with
    | nil =>
      intro k hk hd hf ls hl
      have hk10 : k = 10 := by
        have h1 : (ixB.drop k).length = 0 := by rw [hd]; rfl
        rw [List.length_drop] at h1
        have h2 : ixB.length = 10 := rfl
        omega
      subst hk10
      refine lv_iload hx hb dJ1_indexOfChar_4cfef_7 (lv_at hl 0 rfl) ?_
      refine lv_iload_n hx hb dJ1_indexOfChar_4cfef_9 rfl (lv_at hl 3 rfl) ?_
      refine lv_icmp_ge (tgt := 31) hx hb dJ1_indexOfChar_4cfef_10 (by decide) (fun _ => ?_) (fun h => absurd (by decide) h)
      refine lv_iconst (v := -1) hx hb dJ1_indexOfChar_4cfef_31 (by decide) ?_
      rw [← hf]
      exact mj_ret hx hb hr rfl hlocks dJ1_indexOfChar_4cfef_32
    | cons z t ih =>
      intro k hk hd hf ls hl
      have hk10 : k < 10 := by
        have h1 : (ixB.drop k).length = t.length + 1 := by rw [hd]; rfl
        rw [List.length_drop] at h1
        have h2 : ixB.length = 10 := rfl
        omega
      have hz : ixB.getD k 0 = z := by
        have h1 : (ixB.drop k)[0]? = some z := by rw [hd]; rfl
        rw [List.getElem?_drop, Nat.add_zero] at h1
        rw [List.getD_eq_getElem?_getD, h1]
        rfl
      have ht : ixB.drop (k + 1) = t := by
        rw [← List.drop_drop, hd]
        rfl
      refine lv_iload hx hb dJ1_indexOfChar_4cfef_7 (lv_at hl 0 rfl) ?_
      refine lv_iload_n hx hb dJ1_indexOfChar_4cfef_9 rfl (lv_at hl 3 rfl) ?_
      refine lv_icmp_ge (tgt := 31) hx hb dJ1_indexOfChar_4cfef_10 (by decide) (fun h => absurd h (nI_ge hk10 (by decide))) (fun _ => ?_)
      refine lv_aload_n hx hb dJ1_indexOfChar_4cfef_13 rfl (lv_at hl 2 rfl) ?_
      refine lv_iload hx hb dJ1_indexOfChar_4cfef_14 (lv_at hl 0 rfl) ?_
      refine va_tb (v := .int z) hx hb hT va_S.rf (vp_in_nI hk10 (by decide)) ?_ dJ1_indexOfChar_4cfef_16 ?_
      · show Value.int (([ixB].getD 0 []).getD (nI k).toNatClampNeg 0) = .int z
        rw [nI_clamp (by omega)]
        exact congrArg Value.int hz
      refine lv_iload hx hb dJ1_indexOfChar_4cfef_17 (lv_at hl 1 rfl) ?_
      refine lv_icmp_ne (tgt := 25) hx hb dJ1_indexOfChar_4cfef_19 (by decide) (fun hne => ?_) (fun he => ?_)
      · refine lv_iinc (v := nI (k + 1)) (k := 0) (lv' := [(5, .int (nI (k + 1))), (4, .int x.toInt8.toInt32), (0, .ref (ex 4)), (3, .int 10)]) hx hb dJ1_indexOfChar_4cfef_25 hl rfl (by rw [← nI_1]; rfl) (by decide) rfl (fun ls hl => ?_)
        refine lv_goto (tgt := 7) hx hb dJ1_indexOfChar_4cfef_28 (by decide) ?_
        refine ih (k + 1) (by omega) ht ?_ ls hl
        rw [← hf]
        simp only [ixF]
        rw [if_neg hne]
      · refine lv_iload hx hb dJ1_indexOfChar_4cfef_22 (lv_at hl 0 rfl) ?_
        have hres : nI k = ixF x.toInt8.toInt32 ixB 0 := by
          rw [← hf]
          simp only [ixF]
          rw [if_pos he]
        rw [hres]
        exact mj_ret hx hb hr rfl hlocks dJ1_indexOfChar_4cfef_24
  exact loop ixB 0 (by decide) rfl rfl ls (lv_sub hl [0, 1, 2, 5] rfl)
theorem ix_out {c : Int32} (h : jEnc c = 0) : ixOf c = -1 := by
  have key : ∀ z ∈ ixT, z ≠ c := by
    intro z hz e
    subst e
    have h2 : ∀ z ∈ ixT, jEnc z = 1 := by decide
    rw [h2 z hz] at h
    cases h
  have : ∀ (t : List Int32) (k : Nat), (∀ z ∈ t, z ≠ c) → ixF c t k = -1 := by
    intro t
    induction t with
    | nil => intro k _; rfl
    | cons z t ih =>
      intro k h
      simp only [ixF]
      rw [if_neg (h z List.mem_cons_self)]
      exact ih (k + 1) (fun w hw => h w (List.mem_cons_of_mem _ hw))
  exact this ixT 0 key
theorem ix_in {c : Int32} (h : jEnc c = 1) : ixF c.toInt8.toInt32 ixB 0 = ixOf c := by
  have h1 : ¬ c < 0 := by
    intro q
    simp [jEnc, q] at h
  have h2 : ¬ 255 < c := by
    intro q
    simp [jEnc, h1, q] at h
  obtain ⟨n, hn, rfl⟩ := nI_of2 (M := 255) (n := 255) rfl h1 (by
    rw [Int32.le_iff_toInt_le]
    rw [Int32.lt_iff_toInt_lt] at h2
    omega)
  have key : ∀ n, n < 256 → ixF (nI n).toInt8.toInt32 ixB 0 = ixOf (nI n) := by decide +kernel
  exact key n (by omega)
set_option maxHeartbeats 4000000 in
theorem jm_ix4 (x : Int32) : MetJ l b ex xs L yJ1_indexOf_4cfef cJ1_indexOf_4cfef 4 (some .int) 2 [.ref (ex 4), .int x, .int 0, .int 10] (ixOf x) := by
  refine jm (by decide +kernel) (Nat.le_of_ble_eq_true rfl) ?_
  intro p e s m below meth c hx hb hml hr hts hown hlocks hSt ls hl
  have hSt0 := hSt
  obtain ⟨-, -, ⟨-, c2, c3⟩, -⟩ := hSt
  have hT := (c2.1 0 (by decide)).2.2.2
  have hl : lv_has ls 4 [(0, .ref (ex 4)), (1, .int x), (2, .int 0), (3, .int 10)] := hl
  refine lv_iload_n hx hb dJ1_indexOf_4cfef_0 rfl (lv_at hl 1 rfl) ?_
  refine js_run (As := [.int x]) (rest := []) hx hb hml hts hown hSt0 va_S.rf (jm_enc 1 x) jc_J1_canEncode_9a6ad ⟨j_w5.1, j_w5.2.1⟩ rfl (show npO yJ1_canEncode_9a6ad 1 = true by decide +kernel) (by decide) (by decide) hl.1 (by decide) (by decide) (by decide) dJ1_indexOf_4cfef_1 ?_
  refine lv_if_ne (tgt := 9) hx hb dJ1_indexOf_4cfef_4 (by decide) (fun h => ?_) (fun h => ?_)
  · have hen : jEnc x = 1 := by
      unfold jEnc at h ⊢
      split
      · rename_i q; simp [q] at h
      · split
        · rename_i q1 q2; simp [q1, q2] at h
        · rfl
    refine lv_iload_n hx hb dJ1_indexOf_4cfef_9 rfl (lv_at hl 2 rfl) ?_
    refine lv_iconst (v := 0) hx hb dJ1_indexOf_4cfef_10 (by decide) ?_
    refine va_mmax hx hb (hml.trans hl.1.symm) hown (hts _ j_w6.1 rfl) (hts _ mjS_mx.1 rfl) (hts _ mjS_mx.2.1 rfl) (hts _ mjS_mx.2.2 rfl) (by decide) (by decide) (by decide) (by decide) dJ1_indexOf_4cfef_11 ?_
    refine lv_istore_n (lv' := [(2, .int 0), (0, .ref (ex 4)), (1, .int x), (3, .int 10)]) hx hb dJ1_indexOf_4cfef_14 rfl hl (by decide) rfl (fun ls hl => ?_)
    refine lv_iload_n hx hb dJ1_indexOf_4cfef_15 rfl (lv_at hl 3 rfl) ?_
    refine lv_aload_n hx hb dJ1_indexOf_4cfef_16 rfl (lv_at hl 1 rfl) ?_
    refine va_tlen (v := 10) hx hb hT va_S.rf rfl dJ1_indexOf_4cfef_17 ?_
    refine va_mmin hx hb (hml.trans hl.1.symm) hown (hts _ j_w6.2.1 rfl) (hts _ j_w6.2.2.1 rfl) (hts _ mjS_mx.2.1 rfl) (hts _ j_w6.2.2.2 rfl) (by decide) (by decide) (by decide) (by decide) dJ1_indexOf_4cfef_18 ?_
    refine lv_istore_n (lv' := [(3, .int 10), (2, .int 0), (0, .ref (ex 4)), (1, .int x)]) hx hb dJ1_indexOf_4cfef_21 rfl hl (by decide) rfl (fun ls hl => ?_)
    refine lv_iload_n hx hb dJ1_indexOf_4cfef_22 rfl (lv_at hl 1 rfl) ?_
    refine lv_iload_n hx hb dJ1_indexOf_4cfef_23 rfl (lv_at hl 0 rfl) ?_
    refine lv_icmp_lt (tgt := 29) hx hb dJ1_indexOf_4cfef_24 (by decide) (fun _ => ?_) (fun h => absurd (by decide) h)
    refine lv_aload_n hx hb dJ1_indexOf_4cfef_29 rfl (lv_at hl 2 rfl) ?_
    refine lv_iload_n hx hb dJ1_indexOf_4cfef_30 rfl (lv_at hl 3 rfl) ?_
    refine lv_iload_n hx hb dJ1_indexOf_4cfef_31 rfl (lv_at hl 1 rfl) ?_
    refine lv_iload_n hx hb dJ1_indexOf_4cfef_32 rfl (lv_at hl 0 rfl) ?_
    refine js_run (As := [.ref (ex 4), .int x, .int 0, .int 10]) (rest := []) hx hb hml hts hown hSt0 va_S.rf (jm_char 1 x) jc_J1_indexOfChar_4cfef ⟨j_w5.2.2.1, j_w5.2.2.2⟩ rfl (show npO yJ1_indexOfChar_4cfef 4 = true by decide +kernel) (by decide) (by decide) hl.1 (by decide) (by decide) (by decide) dJ1_indexOf_4cfef_33 ?_
    rw [ix_in hen]
    exact mj_ret hx hb hr rfl hlocks dJ1_indexOf_4cfef_36
  · refine lv_iconst (v := -1) hx hb dJ1_indexOf_4cfef_7 (by decide) ?_
    rw [ix_out h]
    exact mj_ret hx hb hr rfl hlocks dJ1_indexOf_4cfef_8
set_option maxHeartbeats 4000000 in
theorem jm_ix2 (x : Int32) : MetJ l b ex xs L yJ0_indexOf_7cf53 cJ0_indexOf_7cf53 3 (some .int) 4 [.ref (ex 3), .int x, .int 0] (ixOf x) := by
  refine jm (by decide +kernel) (Nat.le_of_ble_eq_true rfl) ?_
  intro p e s m below meth c hx hb hml hr hts hown hlocks hSt ls hl
  have hSt0 := hSt
  obtain ⟨-, -, ⟨-, c2, c3⟩, -⟩ := hSt
  have hl : lv_has ls 3 [(0, .ref (ex 3)), (1, .int x), (2, .int 0)] := hl
  refine lv_aload_n hx hb dJ0_indexOf_7cf53_0 rfl (lv_at hl 0 rfl) ?_
  refine jv_run (As := []) hx hb hml hts hown hSt0 va_S.rf (jm_lat 1) jc_J0_isLatin1_aae02 j_w2 rfl (show npO yJ0_isLatin1_aae02 0 = true by decide +kernel) (by decide) (by decide) hl.1 (by decide) (by decide) (by decide) dJ0_indexOf_7cf53_1 ?_
  refine lv_if_eq (tgt := 23) hx hb dJ0_indexOf_7cf53_4 (by decide) (fun h => absurd h (by decide)) (fun _ => ?_)
  refine lv_aload_n hx hb dJ0_indexOf_7cf53_7 rfl (lv_at hl 0 rfl) ?_
  refine vk_getf hx hb (c2.1 0 (by decide)).2.2.1 va_S.rf hown (hts _ j_w0.2.2.1 rfl) (fun _ q => q) dJ0_indexOf_7cf53_8 ?_
  refine lv_iload_n hx hb dJ0_indexOf_7cf53_11 rfl (lv_at hl 1 rfl) ?_
  refine lv_iload_n hx hb dJ0_indexOf_7cf53_12 rfl (lv_at hl 2 rfl) ?_
  refine lv_aload_n hx hb dJ0_indexOf_7cf53_13 rfl (lv_at hl 0 rfl) ?_
  refine jv_run (As := []) hx hb hml hts hown hSt0 va_S.rf (jm_length) jc_J0_length_8abf5 j_w3 rfl (show npO yJ0_length_8abf5 0 = true by decide +kernel) (by decide) (by decide) hl.1 (Nat.le_of_ble_eq_true rfl) (by decide) (by decide) dJ0_indexOf_7cf53_14 ?_
  refine js_run (As := [.ref (ex 4), .int x, .int 0, .int 10]) (rest := []) hx hb hml hts hown hSt0 va_S.rf (jm_ix4 x) jc_J1_indexOf_4cfef j_w4 rfl (show npO yJ1_indexOf_4cfef 4 = true by decide +kernel) (by decide) (by decide) hl.1 (by decide) (by decide) (by decide) dJ0_indexOf_7cf53_17 ?_
  refine lv_goto (tgt := 36) hx hb dJ0_indexOf_7cf53_20 (by decide) ?_
  exact mj_ret hx hb hr rfl hlocks dJ0_indexOf_7cf53_36
set_option maxHeartbeats 4000000 in
theorem jm_ix1 (x : Int32) : MetJ l b ex xs L yJ0_indexOf_0f7a4 cJ0_indexOf_0f7a4 2 (some .int) 6 [.ref (ex 3), .int x] (ixOf x) := by
  refine jm (by decide +kernel) (Nat.le_of_ble_eq_true rfl) ?_
  intro p e s m below meth c hx hb hml hr hts hown hlocks hSt ls hl
  have hl : lv_has ls 2 [(0, .ref (ex 3)), (1, .int x)] := hl
  refine lv_aload_n hx hb dJ0_indexOf_0f7a4_0 rfl (lv_at hl 0 rfl) ?_
  refine lv_iload_n hx hb dJ0_indexOf_0f7a4_1 rfl (lv_at hl 1 rfl) ?_
  refine lv_iconst (v := 0) hx hb dJ0_indexOf_0f7a4_2 (by decide) ?_
  refine jv_run (As := [.int x, .int 0]) (rest := []) hx hb hml hts hown hSt va_S.rf (jm_ix2 x) jc_J0_indexOf_7cf53 j_w7 rfl (show npO yJ0_indexOf_7cf53 2 = true by decide +kernel) (by decide) (by decide) hl.1 (by decide) (by decide) (by decide) dJ0_indexOf_0f7a4_3 ?_
  exact mj_ret hx hb hr rfl hlocks dJ0_indexOf_0f7a4_6
theorem ixH_all : IxH l b ex xs L := by
  intro p e R s m args below meth c d hx hts hSt hRf hRl H locs cells slots Q pc ls x t hd hown hsz h8 hwt hS hc hs kk
  exact jv_run (As := [.int x]) (rest := t.map (up b ex)) hx rfl rfl hts hown hSt hS (jm_ix1 x) jc_J0_indexOf_0f7a4 j_w8 rfl (show npO yJ0_indexOf_0f7a4 1 = true by decide +kernel) (by omega) (by omega) hsz (by rw [up_wt]; exact hwt) hc hs hd kk
end JDK2
