/-! ===== soundness, throws and all ===== -/
abbrev IAEn : String := "java/lang/IllegalArgumentException"
abbrev IAEs : List String := ["java/lang/RuntimeException", "java/lang/Exception"]
theorem iae_a : ((vx_at0 RX14 130 IAEn IAEs).filter goodWord).all (fun w => decide (w ∈ mjS)) = true := by decide +kernel
theorem iae_b : ((vx_at0 RX14 130 IAEn IAEs).filter (fun w => !goodWord w)).all (fun w => isNw w && decide (w ∈ mjS)) = true := by decide +kernel
theorem iae_c : (Cond.classLink RX14 128 IAEn :: Cond.initialized IAEn :: vx_at0 RX14 130 IAEn IAEs).all vx_ot = true := by decide +kernel
theorem iae_d : Cond.classLink RX14 128 IAEn ∈ mjS ∧ Cond.initialized IAEn ∈ mjS ∧ Cond.castable IAEn IAEn ∈ mjS := by decide +kernel
theorem iae_f : Bundle.fit IAEn = true ∧ ∀ n ∈ IAEs, Bundle.fit n = true := by decide +kernel
/-- the code at the three throws -/
def thOK (r : Nat × Nat) : Bool := decide (mO r.1 = 14) && (decide (mHH r.1 = []) && (decide (decode (mB r.1) r.2 = .ok (.new 128, 3)) && (decide (decode (mB r.1) (r.2 + 3) = .ok (.dup, 1)) && (decide (decode (mB r.1) (r.2 + 4) = .ok (.invokespecial 130, 3)) && decide (decode (mB r.1) (r.2 + 7) = .ok (.athrow, 1))))))
theorem mjTh_ok : mjTh.all thOK = true := by decide +kernel
/-- the handlers: they begin with astore_1, catch that class, and belong to the model -/
def hhOK (j : Nat) : Bool := match mHH j with
  | [] => true
  | [(_, _, h, ct)] => decide (mO j = 14) && (decide (ct = 128) && (decide (decode (mB j) h = .ok (.astore_n 1, 1)) && decide (1 < mL j)))
  | _ => false
theorem mjHH_ok : (List.range 169).all hhOK = true := by decide +kernel
theorem hh_at (j : Nat) : hhOK j = true := by
  by_cases h : j < 169
  · exact List.all_eq_true.mp mjHH_ok j (List.mem_range.mpr h)
  · have h1 : mHH j = [] := by
      show (mjr j).2.2.2.2.2.2 = []
      unfold mjr
      rw [tb_gd (by show 169 ≤ j; omega)]
    unfold hhOK
    rw [h1]
