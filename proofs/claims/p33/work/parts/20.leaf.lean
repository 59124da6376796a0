/-! leaves: Math, Integer, readers, copies -/
def b01 (p : Prop) [Decidable p] : Int32 := if p then 1 else 0
def ush (x y : Int32) : Int32 := (x.toUInt32 >>> (y.toUInt32 &&& Int32.toUInt32 31)).toInt32
def bcA (x : Int32) : Int32 := x - (ush x 1 &&& 1431655765)
def bcB (x : Int32) : Int32 := (x &&& 858993459) + (ush x 2 &&& 858993459)
def bcC (x : Int32) : Int32 := (x + ush x 4) &&& 252645135
def bcD (x : Int32) : Int32 := x + ush x 8
def bcE (x : Int32) : Int32 := x + ush x 16
def bitC (x : Int32) : Int32 := bcE (bcD (bcC (bcB (bcA x)))) &&& 63
def lateN (pl dy d : Int32) : Int32 := if pl = 1 ∧ dy < d then d - dy else 0
def fineN (pl dy d : Int32) : Int32 := minI 40 (2 * lateN pl dy d)
abbrev lostP (pl dy d : Int32) : Prop := ¬ lateN pl dy d < 30
def moreN (ki : Int32) : Int32 := if ki = 0 then 2 else 4
def daysN (ki : Int32) : Int32 := if ki = 0 then 14 else 28
theorem c_bitCount (G : GC) (h : HP) (x : Int32) : Calls G yJ6_bitCount_0f7a4 cJ6_bitCount_0f7a4 1 (.some .int) 0 0 0 0 [.int x] h (qV (.int (bitC x)) h) qX := by
  refine Calls_of1 (by decide +kernel) (by simp [cat_rf, cat_ref, cat_int, cat_null]) (by simp) (lv0 := [some (.int x)]) rfl ?_
  intro Z hG hZ hE hN
  subst hG
  refine V_iload_n hZ 0 dJ6_bitCount_0f7a4_0 rfl rfl ?_
  refine V_iload_n hZ 0 dJ6_bitCount_0f7a4_1 rfl rfl ?_
  refine V_iconst (v := 1) hZ dJ6_bitCount_0f7a4_2 (by decide) ?_
  refine V_iushr hZ dJ6_bitCount_0f7a4_3 ?_
  refine V_ldcw hZ dJ6_bitCount_0f7a4_4 ct_J6_265 ?_
  refine V_iand hZ dJ6_bitCount_0f7a4_7 ?_
  refine V_isub hZ dJ6_bitCount_0f7a4_8 ?_
  refine V_istore_n hZ 0 rfl dJ6_bitCount_0f7a4_9 (by decide) (by first | rfl | simp [okp, cat_rf, cat_ref, cat_int, cat_null]) ?_
  refine V.lvc (by simp only [List.set_cons_zero, List.set_cons_succ, Nat.reduceAdd]; rfl) ?_
  refine V_iload_n hZ 0 dJ6_bitCount_0f7a4_10 rfl rfl ?_
  refine V_ldcw hZ dJ6_bitCount_0f7a4_11 ct_J6_266 ?_
  refine V_iand hZ dJ6_bitCount_0f7a4_14 ?_
  refine V_iload_n hZ 0 dJ6_bitCount_0f7a4_15 rfl rfl ?_
  refine V_iconst (v := 2) hZ dJ6_bitCount_0f7a4_16 (by decide) ?_
  refine V_iushr hZ dJ6_bitCount_0f7a4_17 ?_
  refine V_ldcw hZ dJ6_bitCount_0f7a4_18 ct_J6_266 ?_
  refine V_iand hZ dJ6_bitCount_0f7a4_21 ?_
  refine V_iadd hZ dJ6_bitCount_0f7a4_22 ?_
  refine V_istore_n hZ 0 rfl dJ6_bitCount_0f7a4_23 (by decide) (by first | rfl | simp [okp, cat_rf, cat_ref, cat_int, cat_null]) ?_
  refine V.lvc (by simp only [List.set_cons_zero, List.set_cons_succ, Nat.reduceAdd]; rfl) ?_
  refine V_iload_n hZ 0 dJ6_bitCount_0f7a4_24 rfl rfl ?_
  refine V_iload_n hZ 0 dJ6_bitCount_0f7a4_25 rfl rfl ?_
  refine V_iconst (v := 4) hZ dJ6_bitCount_0f7a4_26 (by decide) ?_
  refine V_iushr hZ dJ6_bitCount_0f7a4_27 ?_
  refine V_iadd hZ dJ6_bitCount_0f7a4_28 ?_
  refine V_ldcw hZ dJ6_bitCount_0f7a4_29 ct_J6_267 ?_
  refine V_iand hZ dJ6_bitCount_0f7a4_32 ?_
  refine V_istore_n hZ 0 rfl dJ6_bitCount_0f7a4_33 (by decide) (by first | rfl | simp [okp, cat_rf, cat_ref, cat_int, cat_null]) ?_
  refine V.lvc (by simp only [List.set_cons_zero, List.set_cons_succ, Nat.reduceAdd]; rfl) ?_
  refine V_iload_n hZ 0 dJ6_bitCount_0f7a4_34 rfl rfl ?_
  refine V_iload_n hZ 0 dJ6_bitCount_0f7a4_35 rfl rfl ?_
  refine V_bipush (v := 8) hZ dJ6_bitCount_0f7a4_36 (by decide) ?_
  refine V_iushr hZ dJ6_bitCount_0f7a4_38 ?_
  refine V_iadd hZ dJ6_bitCount_0f7a4_39 ?_
  refine V_istore_n hZ 0 rfl dJ6_bitCount_0f7a4_40 (by decide) (by first | rfl | simp [okp, cat_rf, cat_ref, cat_int, cat_null]) ?_
  refine V.lvc (by simp only [List.set_cons_zero, List.set_cons_succ, Nat.reduceAdd]; rfl) ?_
  refine V_iload_n hZ 0 dJ6_bitCount_0f7a4_41 rfl rfl ?_
  refine V_iload_n hZ 0 dJ6_bitCount_0f7a4_42 rfl rfl ?_
  refine V_bipush (v := 16) hZ dJ6_bitCount_0f7a4_43 (by decide) ?_
  refine V_iushr hZ dJ6_bitCount_0f7a4_45 ?_
  refine V_iadd hZ dJ6_bitCount_0f7a4_46 ?_
  refine V_istore_n hZ 0 rfl dJ6_bitCount_0f7a4_47 (by decide) (by first | rfl | simp [okp, cat_rf, cat_ref, cat_int, cat_null]) ?_
  refine V.lvc (by simp only [List.set_cons_zero, List.set_cons_succ, Nat.reduceAdd]; rfl) ?_
  refine V_iload_n hZ 0 dJ6_bitCount_0f7a4_48 rfl rfl ?_
  refine V_bipush (v := 63) hZ dJ6_bitCount_0f7a4_49 (by decide) ?_
  refine V_iand hZ dJ6_bitCount_0f7a4_51 ?_
  refine V_iret hZ hE rfl (by rfl) dJ6_bitCount_0f7a4_52 (by decide) (by decide) ?_
  exact ⟨rfl, rfl⟩
theorem c_mostCopies (G : GC) (h : HP) {q i : Nat} {ki ow : Int32} (hc : h q = some (mRdr i ki ow)) : Calls G yX3_mostCopies cX3_mostCopies 1 (.some .int) 0 0 0 0 [.ref q] h (qV (.int (moreN ki)) h) qX := by
  refine Calls_of1 (by decide +kernel) (by simp [cat_rf, cat_ref, cat_int, cat_null]) (by simp) (lv0 := [some (.ref q)]) rfl ?_
  intro Z hG hZ hE hN
  subst hG
  refine V_aload_n hZ 0 dX3_mostCopies_0 rfl rfl (by first | rfl | exact isR_rf _) ?_
  refine V_getfield hZ fl_X3_13.r dX3_mostCopies_1 (by assumption) (by rfl) ?_
  refine V_if_ne (tgt := 11) hZ dX3_mostCopies_4 (by decide) (fun c1 => ?_) (fun c1 => ?_)
  · refine V_iconst (v := 4) hZ dX3_mostCopies_11 (by decide) ?_
    refine V_iret hZ hE rfl (by rfl) dX3_mostCopies_12 (by decide) (by decide) ?_
    exact ⟨by simp [moreN, c1], rfl⟩
  · refine V_iconst (v := 2) hZ dX3_mostCopies_7 (by decide) ?_
    refine V_goto (tgt := 12) hZ dX3_mostCopies_8 (by decide) ?_
    refine V_iret hZ hE rfl (by rfl) dX3_mostCopies_12 (by decide) (by decide) ?_
    exact ⟨by simp [moreN, c1], rfl⟩
theorem c_daysOfALoan (G : GC) (h : HP) {q i : Nat} {ki ow : Int32} (hc : h q = some (mRdr i ki ow)) : Calls G yX3_daysOfALoan cX3_daysOfALoan 1 (.some .int) 0 0 0 0 [.ref q] h (qV (.int (daysN ki)) h) qX := by
  refine Calls_of1 (by decide +kernel) (by simp [cat_rf, cat_ref, cat_int, cat_null]) (by simp) (lv0 := [some (.ref q)]) rfl ?_
  intro Z hG hZ hE hN
  subst hG
  refine V_aload_n hZ 0 dX3_daysOfALoan_0 rfl rfl (by first | rfl | exact isR_rf _) ?_
  refine V_getfield hZ fl_X3_13.r dX3_daysOfALoan_1 (by assumption) (by rfl) ?_
  refine V_if_ne (tgt := 12) hZ dX3_daysOfALoan_4 (by decide) (fun c1 => ?_) (fun c1 => ?_)
  · refine V_bipush (v := 28) hZ dX3_daysOfALoan_12 (by decide) ?_
    refine V_iret hZ hE rfl (by rfl) dX3_daysOfALoan_14 (by decide) (by decide) ?_
    exact ⟨by simp [daysN, c1], rfl⟩
  · refine V_bipush (v := 14) hZ dX3_daysOfALoan_7 (by decide) ?_
    refine V_goto (tgt := 14) hZ dX3_daysOfALoan_9 (by decide) ?_
    refine V_iret hZ hE rfl (by rfl) dX3_daysOfALoan_14 (by decide) (by decide) ?_
    exact ⟨by simp [daysN, c1], rfl⟩
section
variable (G : GC) (h : HP) {q i rc : Nat} {pr pl dy rn th : Int32} {rd : Option Nat} (hc : h q = some (mCopy i pr rc pl rd dy rn th))
theorem c_isAsideFor (hc : h q = some (mCopy i pr rc pl rd dy rn th)) (o : Option Nat) (r : Nat) : Calls G yX1_isAsideFor cX1_isAsideFor 3 (.some .boolean) 0 0 0 0 [.ref q, va_rf o, .ref r] h (qV (.int (b01 (pl = 2 ∧ rd = o ∧ rc = r))) h) qX := by
  have rfi : ∀ a b : Option Nat, va_rf a = va_rf b ↔ a = b := by intro a b; cases a <;> cases b <;> simp [va_rf]
  refine Calls_of1 (by decide +kernel) (by simp [cat_rf, cat_ref, cat_int, cat_null]) (by simp) (lv0 := [some (.ref q), some (va_rf o), some (.ref r)]) rfl ?_
  intro Z hG hZ hE hN
  subst hG
  refine V_aload_n hZ 0 dX1_isAsideFor_0 rfl rfl (by first | rfl | exact isR_rf _) ?_
  refine V_getfield hZ fl_X1_9.r dX1_isAsideFor_1 (by assumption) (by rfl) ?_
  refine V_iconst (v := 2) hZ dX1_isAsideFor_4 (by decide) ?_
  refine V_icmp_ne (tgt := 28) hZ dX1_isAsideFor_5 (by decide) (fun c1 => ?_) (fun c1 => ?_)
  · refine V_iconst (v := 0) hZ dX1_isAsideFor_28 (by decide) ?_
    refine V_iret hZ hE rfl (by rfl) dX1_isAsideFor_29 (by decide) (by decide) ?_
    exact ⟨by simp [b01, c1], rfl⟩
  · refine V_aload_n hZ 0 dX1_isAsideFor_8 rfl rfl (by first | rfl | exact isR_rf _) ?_
    refine V_getfield hZ fl_X1_28.r dX1_isAsideFor_9 (by assumption) (by rfl) ?_
    refine V_aload_n hZ 1 dX1_isAsideFor_12 rfl rfl (by first | rfl | exact isR_rf _) ?_
    refine V_acmp_ne (tgt := 28) hZ dX1_isAsideFor_13 (by decide) (by first | rfl | exact isR_rf _) (by first | rfl | exact isR_rf _) (fun c2 => ?_) (fun c2 => ?_)
    · refine V_iconst (v := 0) hZ dX1_isAsideFor_28 (by decide) ?_
      refine V_iret hZ hE rfl (by rfl) dX1_isAsideFor_29 (by decide) (by decide) ?_
      rw [rfi] at c2
      exact ⟨by simp [b01, c2], rfl⟩
    · refine V_aload_n hZ 0 dX1_isAsideFor_16 rfl rfl (by first | rfl | exact isR_rf _) ?_
      refine V_getfield hZ fl_X1_21.r dX1_isAsideFor_17 (by assumption) (by rfl) ?_
      refine V_aload_n hZ 2 dX1_isAsideFor_20 rfl rfl (by first | rfl | exact isR_rf _) ?_
      rw [rfi] at c2
      refine V_acmp_ne (tgt := 28) hZ dX1_isAsideFor_21 (by decide) (by first | rfl | exact isR_rf _) (by first | rfl | exact isR_rf _) (fun c3 => ?_) (fun c3 => ?_)
      · refine V_iconst (v := 0) hZ dX1_isAsideFor_28 (by decide) ?_
        refine V_iret hZ hE rfl (by rfl) dX1_isAsideFor_29 (by decide) (by decide) ?_
        have c4 : ¬ rc = r := fun z => c3 (by rw [z])
        exact ⟨by simp [b01, c4], rfl⟩
      · refine V_iconst (v := 1) hZ dX1_isAsideFor_24 (by decide) ?_
        refine V_goto (tgt := 29) hZ dX1_isAsideFor_25 (by decide) ?_
        refine V_iret hZ hE rfl (by rfl) dX1_isAsideFor_29 (by decide) (by decide) ?_
        have c4 : rc = r := by cases c3; rfl
        exact ⟨by simp [b01, c1, c2, c4], rfl⟩
theorem c_daysLateOn (hc : h q = some (mCopy i pr rc pl rd dy rn th)) (d : Int32) : Calls G yX1_daysLateOn cX1_daysLateOn 2 (.some .int) 0 0 0 0 [.ref q, .int d] h (qV (.int (lateN pl dy d)) h) qX := by
  refine Calls_of1 (by decide +kernel) (by simp [cat_rf, cat_ref, cat_int, cat_null]) (by simp) (lv0 := [some (.ref q), some (.int d)]) rfl ?_
  intro Z hG hZ hE hN
  subst hG
  refine V_aload_n hZ 0 dX1_daysLateOn_0 rfl rfl (by first | rfl | exact isR_rf _) ?_
  refine V_getfield hZ fl_X1_9.r dX1_daysLateOn_1 (by assumption) (by rfl) ?_
  refine V_iconst (v := 1) hZ dX1_daysLateOn_4 (by decide) ?_
  refine V_icmp_ne (tgt := 25) hZ dX1_daysLateOn_5 (by decide) (fun c1 => ?_) (fun c1 => ?_)
  · refine V_iconst (v := 0) hZ dX1_daysLateOn_25 (by decide) ?_
    refine V_iret hZ hE rfl (by rfl) dX1_daysLateOn_26 (by decide) (by decide) ?_
    exact ⟨by simp [lateN, c1], rfl⟩
  · refine V_iload_n hZ 1 dX1_daysLateOn_8 rfl rfl ?_
    refine V_aload_n hZ 0 dX1_daysLateOn_9 rfl rfl (by first | rfl | exact isR_rf _) ?_
    refine V_getfield hZ fl_X1_15.r dX1_daysLateOn_10 (by assumption) (by rfl) ?_
    refine V_icmp_le (tgt := 25) hZ dX1_daysLateOn_13 (by decide) (fun c2 => ?_) (fun c2 => ?_)
    · refine V_iconst (v := 0) hZ dX1_daysLateOn_25 (by decide) ?_
      refine V_iret hZ hE rfl (by rfl) dX1_daysLateOn_26 (by decide) (by decide) ?_
      exact ⟨by simp [lateN, Int32.not_lt.mpr c2], rfl⟩
    · refine V_iload_n hZ 1 dX1_daysLateOn_16 rfl rfl ?_
      refine V_aload_n hZ 0 dX1_daysLateOn_17 rfl rfl (by first | rfl | exact isR_rf _) ?_
      refine V_getfield hZ fl_X1_15.r dX1_daysLateOn_18 (by assumption) (by rfl) ?_
      refine V_isub hZ dX1_daysLateOn_21 ?_
      refine V_goto (tgt := 26) hZ dX1_daysLateOn_22 (by decide) ?_
      refine V_iret hZ hE rfl (by rfl) dX1_daysLateOn_26 (by decide) (by decide) ?_
      exact ⟨by simp [lateN, c1, Int32.not_le.mp c2], rfl⟩
theorem c_isLostOn (hc : h q = some (mCopy i pr rc pl rd dy rn th)) (d : Int32) : Calls G yX1_isLostOn cX1_isLostOn 2 (.some .boolean) 1 21 0 0 [.ref q, .int d] h (qV (.int (b01 (lostP pl dy d))) h) qX := by
  refine Calls_of1 (by decide +kernel) (by simp [cat_rf, cat_ref, cat_int, cat_null]) (by simp) (lv0 := [some (.ref q), some (.int d)]) rfl ?_
  intro Z hG hZ hE hN
  subst hG
  refine V_aload_n hZ 0 dX1_isLostOn_0 rfl rfl (by first | rfl | exact isR_rf _) ?_
  refine V_iload_n hZ 1 dX1_isLostOn_1 rfl rfl ?_
  refine V_invVp hZ me_X1_daysLateOn mi_X1_daysLateOn ml_X1_35 (c_daysLateOn Z.1 h hc d) dX1_isLostOn_2 rfl rfl (by assumption) rfl rfl ⟨by decide, by decide⟩ (by first | decide | simp [cat_rf, cat_ref, cat_int, cat_null]) ⟨by decide, by decide⟩ ?_
  refine V_bipush (v := 30) hZ dX1_isLostOn_5 (by decide) ?_
  refine V_icmp_lt (tgt := 14) hZ dX1_isLostOn_7 (by decide) (fun c1 => ?_) (fun c1 => ?_)
  · refine V_iconst (v := 0) hZ dX1_isLostOn_14 (by decide) ?_
    refine V_iret hZ hE rfl (by rfl) dX1_isLostOn_15 (by decide) (by decide) ?_
    exact ⟨by simp [b01, c1], rfl⟩
  · refine V_iconst (v := 1) hZ dX1_isLostOn_10 (by decide) ?_
    refine V_goto (tgt := 15) hZ dX1_isLostOn_11 (by decide) ?_
    refine V_iret hZ hE rfl (by rfl) dX1_isLostOn_15 (by decide) (by decide) ?_
    exact ⟨by simp [b01, c1], rfl⟩
theorem c_fineOn (hc : h q = some (mCopy i pr rc pl rd dy rn th)) (d : Int32) : Calls G yX1_fineOn cX1_fineOn 2 (.some .int) 1 21 0 0 [.ref q, .int d] h (qV (.int (fineN pl dy d)) h) qX := by
  refine Calls_of1 (by decide +kernel) (by simp [cat_rf, cat_ref, cat_int, cat_null]) (by simp) (lv0 := [some (.ref q), some (.int d)]) rfl ?_
  intro Z hG hZ hE hN
  subst hG
  refine V_bipush (v := 40) hZ dX1_fineOn_0 (by decide) ?_
  refine V_iconst (v := 2) hZ dX1_fineOn_2 (by decide) ?_
  refine V_aload_n hZ 0 dX1_fineOn_3 rfl rfl (by first | rfl | exact isR_rf _) ?_
  refine V_iload_n hZ 1 dX1_fineOn_4 rfl rfl ?_
  refine V_invVp hZ me_X1_daysLateOn mi_X1_daysLateOn ml_X1_35 (c_daysLateOn Z.1 h hc d) dX1_fineOn_5 rfl rfl (by assumption) rfl rfl ⟨by decide, by decide⟩ (by first | decide | simp [cat_rf, cat_ref, cat_int, cat_null]) ⟨by decide, by decide⟩ ?_
  refine V_imul hZ dX1_fineOn_8 ?_
  refine V_mmin hZ ml_X1_39 dX1_fineOn_9 (by decide) (by first | decide | simp [cat_rf, cat_ref, cat_int, cat_null]) ⟨by decide, by decide⟩ ?_
  refine V_iret hZ hE rfl (by rfl) dX1_fineOn_12 (by decide) (by decide) ?_
  exact ⟨rfl, rfl⟩
theorem c_feeWhenLost (hc : h q = some (mCopy i pr rc pl rd dy rn th)) : Calls G yX1_feeWhenLost cX1_feeWhenLost 1 (.some .int) 0 0 0 0 [.ref q] h (qV (.int (pr + 40)) h) qX := by
  refine Calls_of1 (by decide +kernel) (by simp [cat_rf, cat_ref, cat_int, cat_null]) (by simp) (lv0 := [some (.ref q)]) rfl ?_
  intro Z hG hZ hE hN
  subst hG
  refine V_aload_n hZ 0 dX1_feeWhenLost_0 rfl rfl (by first | rfl | exact isR_rf _) ?_
  refine V_getfield hZ fl_X1_25.r dX1_feeWhenLost_1 (by assumption) (by rfl) ?_
  refine V_bipush (v := 40) hZ dX1_feeWhenLost_4 (by decide) ?_
  refine V_iadd hZ dX1_feeWhenLost_6 ?_
  refine V_iret hZ hE rfl (by rfl) dX1_feeWhenLost_7 (by decide) (by decide) ?_
  exact ⟨rfl, rfl⟩
/-- in how many days a copy is there -/
def thereN (pl dy t ki : Int32) (rd : Option Nat) : Int32 := if pl = 1 then maxI 0 (dy - t) else if pl = 2 ∧ rd ≠ none then daysN ki else 0
theorem c_daysUntilThere (hc : h q = some (mCopy i pr rc pl rd dy rn th)) (t ki : Int32) (hr : ∀ a, rd = some a → ∃ j ow, h a = some (mRdr j ki ow)) : Calls G yX1_daysUntilThere cX1_daysUntilThere 2 (.some .int) 1 21 0 0 [.ref q, .int t] h (qV (.int (thereN pl dy t ki rd)) h) qX := by
  refine Calls_of1 (by decide +kernel) (by simp [cat_rf, cat_ref, cat_int, cat_null]) (by simp) (lv0 := [some (.ref q), some (.int t)]) rfl ?_
  intro Z hG hZ hE hN
  subst hG
  refine V_aload_n hZ 0 dX1_daysUntilThere_0 rfl rfl (by first | rfl | exact isR_rf _) ?_
  refine V_getfield hZ fl_X1_9.r dX1_daysUntilThere_1 (by assumption) (by rfl) ?_
  refine V_iconst (v := 1) hZ dX1_daysUntilThere_4 (by decide) ?_
  refine V_icmp_ne (tgt := 19) hZ dX1_daysUntilThere_5 (by decide) (fun c1 => ?_) (fun c1 => ?_)
  · refine V_aload_n hZ 0 dX1_daysUntilThere_19 rfl rfl (by first | rfl | exact isR_rf _) ?_
    refine V_getfield hZ fl_X1_9.r dX1_daysUntilThere_20 (by assumption) (by rfl) ?_
    refine V_iconst (v := 2) hZ dX1_daysUntilThere_23 (by decide) ?_
    refine V_icmp_ne (tgt := 44) hZ dX1_daysUntilThere_24 (by decide) (fun c2 => ?_) (fun c2 => ?_)
    · refine V_iconst (v := 0) hZ dX1_daysUntilThere_44 (by decide) ?_
      refine V_iret hZ hE rfl (by rfl) dX1_daysUntilThere_45 (by decide) (by decide) ?_
      exact ⟨by simp [thereN, c1, c2], rfl⟩
    · refine V_aload_n hZ 0 dX1_daysUntilThere_27 rfl rfl (by first | rfl | exact isR_rf _) ?_
      refine V_getfield hZ fl_X1_28.r dX1_daysUntilThere_28 (by assumption) (by rfl) ?_
      cases rd with
      | none =>
        refine V_ifnullN (tgt := 44) hZ dX1_daysUntilThere_31 (by decide) ?_
        refine V_iconst (v := 0) hZ dX1_daysUntilThere_44 (by decide) ?_
        refine V_iret hZ hE rfl (by rfl) dX1_daysUntilThere_45 (by decide) (by decide) ?_
        exact ⟨by simp [thereN, c1, c2], rfl⟩
      | some a =>
        refine V_ifnullR hZ dX1_daysUntilThere_31 ?_
        refine V_aload_n hZ 0 dX1_daysUntilThere_34 rfl rfl (by first | rfl | exact isR_rf _) ?_
        refine V_getfield hZ fl_X1_28.r dX1_daysUntilThere_35 (by assumption) (by rfl) ?_
        obtain ⟨j, ow, ha⟩ := hr a rfl
        refine V_invVp hZ me_X3_daysOfALoan mi_X3_daysOfALoan ml_X1_48 (c_daysOfALoan Z.1 h ha) dX1_daysUntilThere_38 rfl rfl (by assumption) rfl rfl ⟨by decide, by decide⟩ (by first | decide | simp [cat_rf, cat_ref, cat_int, cat_null]) ⟨by decide, by decide⟩ ?_
        refine V_goto (tgt := 45) hZ dX1_daysUntilThere_41 (by decide) ?_
        refine V_iret hZ hE rfl (by rfl) dX1_daysUntilThere_45 (by decide) (by decide) ?_
        exact ⟨by simp [thereN, c2], rfl⟩
  · refine V_iconst (v := 0) hZ dX1_daysUntilThere_8 (by decide) ?_
    refine V_aload_n hZ 0 dX1_daysUntilThere_9 rfl rfl (by first | rfl | exact isR_rf _) ?_
    refine V_getfield hZ fl_X1_15.r dX1_daysUntilThere_10 (by assumption) (by rfl) ?_
    refine V_iload_n hZ 1 dX1_daysUntilThere_13 rfl rfl ?_
    refine V_isub hZ dX1_daysUntilThere_14 ?_
    refine V_mmax hZ ml_X1_45 dX1_daysUntilThere_15 (by decide) (by first | decide | simp [cat_rf, cat_ref, cat_int, cat_null]) ⟨by decide, by decide⟩ ?_
    refine V_iret hZ hE rfl (by rfl) dX1_daysUntilThere_18 (by decide) (by decide) ?_
    exact ⟨by simp [thereN, c1], rfl⟩
end

