/-! borrowing, renewing, what would be -/
section
variable (G : GC) {h : HP} {S : St}
/-- why reader x may not borrow copy c -/
def reasonN (S : St) (x c : Nat) : Nat :=
  if ¬ cpPl (cps S c) = 0 ∧ asideB S (some x) (cpRc (cps S c)) c = false then 1
  else if moreN (rdKi (rds S x)) ≤ nI (cn (ofB S (some x) 1) 30) then 2
  else if 50 < rdOw (rds S x) then 3
  else if 0 < nI (cn (lateB S x) 30) then 4 else 0
theorem c_reasonAgainst (R : Rep S h) (W : Wf S) {x c : Nat} (hx : x < nRd S) (hi : c < nCp S) : Calls G yX5_reasonAgainst cX5_reasonAgainst 3 (.some .int) 2 47 0 0 [.ref (aH S), .ref (adD S x), .ref (adC S c)] h (qV (.int (nI (reasonN S x c))) h) qX := by
  have h1 := R.hall
  have h3 := R.copy hi
  have h4 := R.rdr hx
  have hr := W_rec W hi
  refine Calls_of1 (by decide +kernel) (by simp [cat_rf, cat_ref, cat_int, cat_null]) (by simp) (lv0 := [some (.ref (aH S)), some (.ref (adD S x)), some (.ref (adC S c))]) rfl ?_
  intro Z hG hZ hE hN
  subst hG
  have tail : ¬ (¬ cpPl (cps S c) = 0 ∧ asideB S (some x) (cpRc (cps S c)) c = false) → V Z 21 [some (.ref (aH S)), some (.ref (adD S x)), some (.ref (adC S c))] [] h 0 0 := by
    intro n1
    refine V_aload_n hZ 0 dX5_reasonAgainst_21 rfl rfl (by first | rfl | exact isR_rf _) ?_
    refine V_aload_n hZ 1 dX5_reasonAgainst_22 rfl rfl (by first | rfl | exact isR_rf _) ?_
    refine V_iconst (v := 1) hZ dX5_reasonAgainst_23 (by decide) ?_
    refine V_invVp hZ me_X5_copiesOf mi_X5_copiesOf ml_X5_347 (c_copiesOf Z.1 R W hx 1) dX5_reasonAgainst_24 rfl rfl (by assumption) rfl rfl ⟨by decide, by decide⟩ (by first | decide | simp [cat_rf, cat_ref, cat_int, cat_null]) ⟨by decide, by decide⟩ ?_
    refine V_aload_n hZ 1 dX5_reasonAgainst_27 rfl rfl (by first | rfl | exact isR_rf _) ?_
    refine V_invVp hZ me_X3_mostCopies mi_X3_mostCopies ml_X5_371 (c_mostCopies Z.1 h h4) dX5_reasonAgainst_28 rfl rfl (by assumption) rfl rfl ⟨by decide, by decide⟩ (by first | decide | simp [cat_rf, cat_ref, cat_int, cat_null]) ⟨by decide, by decide⟩ ?_
    refine V_icmp_lt (tgt := 36) hZ dX5_reasonAgainst_31 (by decide) (fun c2 => ?_) (fun c2 => ?_)
    · have n2 : ¬ moreN (rdKi (rds S x)) ≤ nI (cn (ofB S (some x) 1) 30) := Int32.not_le.mpr c2
      refine V_aload_n hZ 1 dX5_reasonAgainst_36 rfl rfl (by first | rfl | exact isR_rf _) ?_
      refine V_getfield hZ fl_X5_172.r dX5_reasonAgainst_37 (by assumption) (by rfl) ?_
      refine V_bipush (v := 50) hZ dX5_reasonAgainst_40 (by decide) ?_
      refine V_icmp_le (tgt := 47) hZ dX5_reasonAgainst_42 (by decide) (fun c3 => ?_) (fun c3 => ?_)
      · have n3 : ¬ 50 < rdOw (rds S x) := Int32.not_lt.mpr c3
        refine V_aload_n hZ 0 dX5_reasonAgainst_47 rfl rfl (by first | rfl | exact isR_rf _) ?_
        refine V_aload_n hZ 1 dX5_reasonAgainst_48 rfl rfl (by first | rfl | exact isR_rf _) ?_
        refine V_invVp hZ me_X5_lateCopiesOf mi_X5_lateCopiesOf ml_X5_353 (c_lateCopiesOf Z.1 R W hx) dX5_reasonAgainst_49 rfl rfl (by assumption) rfl rfl ⟨by decide, by decide⟩ (by first | decide | simp [cat_rf, cat_ref, cat_int, cat_null]) ⟨by decide, by decide⟩ ?_
        refine V_if_le (tgt := 57) hZ dX5_reasonAgainst_52 (by decide) (fun c4 => ?_) (fun c4 => ?_)
        · refine V_iconst (v := 0) hZ dX5_reasonAgainst_57 (by decide) ?_
          refine V_iret hZ hE rfl (by rfl) dX5_reasonAgainst_58 (by decide) (by decide) ?_
          have n4 : ¬ 0 < nI (cn (lateB S x) 30) := Int32.not_lt.mpr c4
          exact ⟨by simp only [reasonN, if_neg n1, if_neg n2, if_neg n3, if_neg n4]; rfl, rfl⟩
        · refine V_iconst (v := 4) hZ dX5_reasonAgainst_55 (by decide) ?_
          refine V_iret hZ hE rfl (by rfl) dX5_reasonAgainst_56 (by decide) (by decide) ?_
          have n4 : 0 < nI (cn (lateB S x) 30) := Int32.not_le.mp c4
          exact ⟨by simp only [reasonN, if_neg n1, if_neg n2, if_neg n3, if_pos n4]; rfl, rfl⟩
      · refine V_iconst (v := 3) hZ dX5_reasonAgainst_45 (by decide) ?_
        refine V_iret hZ hE rfl (by rfl) dX5_reasonAgainst_46 (by decide) (by decide) ?_
        have n3 : 50 < rdOw (rds S x) := Int32.not_le.mp c3
        exact ⟨by simp only [reasonN, if_neg n1, if_neg n2, if_pos n3]; rfl, rfl⟩
    · refine V_iconst (v := 2) hZ dX5_reasonAgainst_34 (by decide) ?_
      refine V_iret hZ hE rfl (by rfl) dX5_reasonAgainst_35 (by decide) (by decide) ?_
      have n2 : moreN (rdKi (rds S x)) ≤ nI (cn (ofB S (some x) 1) 30) := Int32.not_lt.mp c2
      exact ⟨by simp only [reasonN, if_neg n1, if_pos n2]; rfl, rfl⟩
  refine V_aload_n hZ 2 dX5_reasonAgainst_0 rfl rfl (by first | rfl | exact isR_rf _) ?_
  refine V_getfield hZ fl_X5_215.r dX5_reasonAgainst_1 (by assumption) (by rfl) ?_
  refine V_if_eq (tgt := 21) hZ dX5_reasonAgainst_4 (by decide) (fun c1 => ?_) (fun c1 => ?_)
  · exact tail (fun z => z.1 c1)
  · refine V_aload_n hZ 2 dX5_reasonAgainst_7 rfl rfl (by first | rfl | exact isR_rf _) ?_
    refine V_aload_n hZ 1 dX5_reasonAgainst_8 rfl rfl (by first | rfl | exact isR_rf _) ?_
    refine V_aload_n hZ 2 dX5_reasonAgainst_9 rfl rfl (by first | rfl | exact isR_rf _) ?_
    refine V_getfield hZ fl_X5_192.r dX5_reasonAgainst_10 (by assumption) (by rfl) ?_
    refine V_invVp hZ me_X1_isAsideFor mi_X1_isAsideFor ml_X5_368 (c_isAsideForS Z.1 R W (o := some x) hi hr (fun y hy => by cases hy; exact hx)) dX5_reasonAgainst_13 rfl rfl (by assumption) rfl rfl ⟨by decide, by decide⟩ (by first | decide | simp [cat_rf, cat_ref, cat_int, cat_null]) ⟨by decide, by decide⟩ ?_
    refine V_if_ne (tgt := 21) hZ dX5_reasonAgainst_16 (by decide) (fun c5 => ?_) (fun c5 => ?_)
    · exact tail (fun z => by have := b01_nz c5; rw [this] at z; cases z.2)
    · refine V_iconst (v := 1) hZ dX5_reasonAgainst_19 (by decide) ?_
      refine V_iret hZ hE rfl (by rfl) dX5_reasonAgainst_20 (by decide) (by decide) ?_
      have n1 : ¬ cpPl (cps S c) = 0 ∧ asideB S (some x) (cpRc (cps S c)) c = false := ⟨c1, by
        have := b01_z c5
        cases hz : asideB S (some x) (cpRc (cps S c)) c
        · rfl
        · exact absurd hz this⟩
      exact ⟨by simp only [reasonN, if_pos n1]; rfl, rfl⟩
def mayB (S : St) (x c : Nat) : Bool := decide (c < nCp S ∧ reasonN S x c = 0)
theorem reasonN_lt (x c : Nat) : reasonN S x c < 5 := by unfold reasonN; repeat' split
                                                         all_goals decide
theorem c_borrowable (R : Rep S h) (W : Wf S) {x : Nat} (hx : x < nRd S) : Calls G yX5_borrowable cX5_borrowable 7 (.some .int) 3 69 0 0 [.ref (aH S), .ref (adD S x)] h (qV (.int (nI (cn (mayB S x) 30))) h) qX := by
  have h1 := R.hall
  have h2 := R.copies
  refine Calls_of1 (by decide +kernel) (by simp [cat_rf, cat_ref, cat_int, cat_null]) (by simp) (lv0 := [some (.ref (aH S)), some (.ref (adD S x)), none, none, none, none, none]) rfl ?_
  intro Z hG hZ hE hN
  subst hG
  refine V_iconst (v := 0) hZ dX5_borrowable_0 (by decide) ?_
  refine V_istore_n hZ 2 rfl dX5_borrowable_1 (by decide) (by first | rfl | simp [okp, cat_rf, cat_ref, cat_int, cat_null]) ?_
  refine V.lvc (by simp only [List.set_cons_zero, List.set_cons_succ, Nat.reduceAdd]; rfl) ?_
  refine V_aload_n hZ 0 dX5_borrowable_2 rfl rfl (by first | rfl | exact isR_rf _) ?_
  refine V_getfield hZ fl_X5_23.r dX5_borrowable_3 (by assumption) (by rfl) ?_
  refine V_astore_n hZ 3 rfl dX5_borrowable_6 (by first | rfl | exact isR_rf _) (by decide) (by first | rfl | simp [okp, cat_rf, cat_ref, cat_int, cat_null]) ?_
  refine V.lvc (by simp only [List.set_cons_zero, List.set_cons_succ, Nat.reduceAdd]; rfl) ?_
  refine V_aload_n hZ 3 dX5_borrowable_7 rfl rfl (by first | rfl | exact isR_rf _) ?_
  refine V_alenR hZ dX5_borrowable_8 (by assumption) ?_
  refine V_istore hZ dX5_borrowable_9 (by decide) (by first | rfl | simp [okp, cat_rf, cat_ref, cat_int, cat_null]) ?_
  refine V.lvc (by simp only [List.set_cons_zero, List.set_cons_succ, Nat.reduceAdd]; rfl) ?_
  refine V_iconst (v := 0) hZ dX5_borrowable_11 (by decide) ?_
  refine V_istore hZ dX5_borrowable_12 (by decide) (by first | rfl | simp [okp, cat_rf, cat_ref, cat_int, cat_null]) ?_
  refine V.lvc (by simp only [List.set_cons_zero, List.set_cons_succ, Nat.reduceAdd]; rfl) ?_
  have key : ∀ m c, c + m = 30 → ∀ w, V Z 14 [some (.ref (aH S)), some (.ref (adD S x)), some (.int (nI (cn (mayB S x) c))), some (.ref (aCs S)), some (.int (nI 30)), some (.int (nI c)), w] [] h 0 0 := by
    intro m
    induction m with
    | zero =>
      intro c hcm  w
      have hc : c = 30 := by omega
      subst hc
      refine V_iload hZ dX5_borrowable_14 rfl ?_
      refine V_iload hZ dX5_borrowable_16 rfl ?_
      refine V_icmp_ge (tgt := 51) hZ dX5_borrowable_18 (by decide) (fun cE => ?_) (fun cE => ?_)
      · refine V_iload_n hZ 2 dX5_borrowable_51 rfl rfl ?_
        refine V_iret hZ hE rfl (by rfl) dX5_borrowable_52 (by decide) (by decide) ?_
        exact ⟨rfl, rfl⟩
      · exact absurd (by decide) cE
    | succ m ih =>
      intro c hcm  w
      have hcN : c < 30 := by omega
      refine V_iload hZ dX5_borrowable_14 rfl ?_
      refine V_iload hZ dX5_borrowable_16 rfl ?_
      refine V_icmp_ge (tgt := 51) hZ dX5_borrowable_18 (by decide) (fun cE => ?_) (fun cE => ?_)
      · have cE2 : 30 ≤ c := (nI_leI (a := 30) (by decide) (by omega)).mp cE
        omega
      · refine V_aload_n hZ 3 dX5_borrowable_21 rfl rfl (by first | rfl | exact isR_rf _) ?_
        refine V_iload hZ dX5_borrowable_22 rfl ?_
        by_cases hi : c < nCp S
        · refine V_aaldn hZ dX5_borrowable_24 (by assumption) hcN (by decide) (v := .ref (adC S c)) (rowf_lt hi) ?_
          refine V_astore hZ dX5_borrowable_25 (by first | rfl | exact isR_rf _) (by decide) (by first | rfl | simp [okp, cat_rf, cat_ref, cat_int, cat_null]) ?_
          refine V.lvc (by simp only [List.set_cons_zero, List.set_cons_succ, Nat.reduceAdd]; rfl) ?_
          refine V_aload hZ dX5_borrowable_27 rfl (by first | rfl | exact isR_rf _) ?_
          refine V_ifnullR hZ dX5_borrowable_29 ?_
          refine V_aload_n hZ 0 dX5_borrowable_32 rfl rfl (by first | rfl | exact isR_rf _) ?_
          refine V_aload_n hZ 1 dX5_borrowable_33 rfl rfl (by first | rfl | exact isR_rf _) ?_
          refine V_aload hZ dX5_borrowable_34 rfl (by first | rfl | exact isR_rf _) ?_
          refine V_invVp hZ me_X5_reasonAgainst mi_X5_reasonAgainst ml_X5_175 (c_reasonAgainst Z.1 R W hx hi) dX5_borrowable_36 rfl rfl (by assumption) rfl rfl ⟨by decide, by decide⟩ (by first | decide | simp [cat_rf, cat_ref, cat_int, cat_null]) ⟨by decide, by decide⟩ ?_
          refine V_if_ne (tgt := 45) hZ dX5_borrowable_39 (by decide) (fun c1 => ?_) (fun c1 => ?_)
          · refine V_iincv hZ dX5_borrowable_45 rfl (by decide) (by first | rfl | simp [okp, cat_rf, cat_ref, cat_int, cat_null]) (by first | exact nI_inc _ | rfl) ?_
            refine V.lvc (by simp only [List.set_cons_zero, List.set_cons_succ, Nat.reduceAdd]; rfl) ?_
            refine V_goto (tgt := 14) hZ dX5_borrowable_48 (by decide) ?_
            have e := ih (c + 1) (by omega) (some (.ref (adC S c)))
            have c2 : ¬ reasonN S x c = 0 := fun z => c1 (by rw [z]; rfl)
            rw [cn_f (by simp [mayB, c2])] at e
            exact e
          · refine V_iincv hZ dX5_borrowable_42 rfl (by decide) (by first | rfl | simp [okp, cat_rf, cat_ref, cat_int, cat_null]) (by first | exact nI_inc _ | rfl) ?_
            refine V.lvc (by simp only [List.set_cons_zero, List.set_cons_succ, Nat.reduceAdd]; rfl) ?_
            refine V_iincv hZ dX5_borrowable_45 rfl (by decide) (by first | rfl | simp [okp, cat_rf, cat_ref, cat_int, cat_null]) (by first | exact nI_inc _ | rfl) ?_
            refine V.lvc (by simp only [List.set_cons_zero, List.set_cons_succ, Nat.reduceAdd]; rfl) ?_
            refine V_goto (tgt := 14) hZ dX5_borrowable_48 (by decide) ?_
            have e := ih (c + 1) (by omega) (some (.ref (adC S c)))
            have c2 : reasonN S x c = 0 := nI_inj (by have := reasonN_lt (S := S) x c; omega) (by decide) (show nI (reasonN S x c) = nI 0 from c1)
            rw [cn_t (by simp [mayB, c2, hi])] at e
            exact e
        · refine V_aaldn hZ dX5_borrowable_24 (by assumption) hcN (by decide) (v := .null) (rowf_ge hi) ?_
          refine V_astore hZ dX5_borrowable_25 (by first | rfl | exact isR_rf _) (by decide) (by first | rfl | simp [okp, cat_rf, cat_ref, cat_int, cat_null]) ?_
          refine V.lvc (by simp only [List.set_cons_zero, List.set_cons_succ, Nat.reduceAdd]; rfl) ?_
          refine V_aload hZ dX5_borrowable_27 rfl (by first | rfl | exact isR_rf _) ?_
          refine V_ifnullN (tgt := 45) hZ dX5_borrowable_29 (by decide) ?_
          refine V_iincv hZ dX5_borrowable_45 rfl (by decide) (by first | rfl | simp [okp, cat_rf, cat_ref, cat_int, cat_null]) (by first | exact nI_inc _ | rfl) ?_
          refine V.lvc (by simp only [List.set_cons_zero, List.set_cons_succ, Nat.reduceAdd]; rfl) ?_
          refine V_goto (tgt := 14) hZ dX5_borrowable_48 (by decide) ?_
          have e := ih (c + 1) (by omega) (some .null)
          rw [cn_f (by simp [mayB, hi])] at e
          exact e
  exact key 30 0 rfl none
def renewP (S : St) (c : Nat) : Prop := cpPl (cps S c) = 1 ∧ lateC S c (tdy S) = 0 ∧ cpRn (cps S c) < 2 ∧ nextW S (cpRc (cps S c)) = none
def renewB (S : St) (c : Nat) : Bool := decide (cpPl (cps S c) = 1 ∧ lateC S c (tdy S) = 0 ∧ cpRn (cps S c) < 2 ∧ nextW S (cpRc (cps S c)) = none)
theorem c_mayBeRenewed (R : Rep S h) (W : Wf S) {c : Nat} (hi : c < nCp S) : Calls G yX5_mayBeRenewed cX5_mayBeRenewed 2 (.some .boolean) 3 73 0 0 [.ref (aH S), .ref (adC S c)] h (qV (.int (b01 (renewB S c = true))) h) qX := by
  have h1 := R.hall
  have h3 := R.copy hi
  have hr := W_rec W hi
  have h4 := R.rec hr
  refine Calls_of1 (by decide +kernel) (by simp [cat_rf, cat_ref, cat_int, cat_null]) (by simp) (lv0 := [some (.ref (aH S)), some (.ref (adC S c))]) rfl ?_
  intro Z hG hZ hE hN
  subst hG
  refine V_aload_n hZ 1 dX5_mayBeRenewed_0 rfl rfl (by first | rfl | exact isR_rf _) ?_
  refine V_getfield hZ fl_X5_215.r dX5_mayBeRenewed_1 (by assumption) (by rfl) ?_
  refine V_iconst (v := 1) hZ dX5_mayBeRenewed_4 (by decide) ?_
  refine V_icmp_ne (tgt := 42) hZ dX5_mayBeRenewed_5 (by decide) (fun c1 => ?_) (fun c1 => ?_)
  · refine V_iconst (v := 0) hZ dX5_mayBeRenewed_42 (by decide) ?_
    refine V_iret hZ hE rfl (by rfl) dX5_mayBeRenewed_43 (by decide) (by decide) ?_
    exact ⟨by simp [renewB, b01, c1], rfl⟩
  · refine V_aload_n hZ 1 dX5_mayBeRenewed_8 rfl rfl (by first | rfl | exact isR_rf _) ?_
    refine V_aload_n hZ 0 dX5_mayBeRenewed_9 rfl rfl (by first | rfl | exact isR_rf _) ?_
    refine V_getfield hZ fl_X5_181.r dX5_mayBeRenewed_10 (by assumption) (by rfl) ?_
    refine V_invVp hZ me_X1_daysLateOn mi_X1_daysLateOn ml_X5_341 (c_daysLateOn Z.1 h h3 (tdy S)) dX5_mayBeRenewed_13 rfl rfl (by assumption) rfl rfl ⟨by decide, by decide⟩ (by first | decide | simp [cat_rf, cat_ref, cat_int, cat_null]) ⟨by decide, by decide⟩ ?_
    refine V_if_ne (tgt := 42) hZ dX5_mayBeRenewed_16 (by decide) (fun c2 => ?_) (fun c2 => ?_)
    · refine V_iconst (v := 0) hZ dX5_mayBeRenewed_42 (by decide) ?_
      refine V_iret hZ hE rfl (by rfl) dX5_mayBeRenewed_43 (by decide) (by decide) ?_
      exact ⟨by simp [renewB, b01, lateC, c2], rfl⟩
    · refine V_aload_n hZ 1 dX5_mayBeRenewed_19 rfl rfl (by first | rfl | exact isR_rf _) ?_
      refine V_getfield hZ fl_X5_212.r dX5_mayBeRenewed_20 (by assumption) (by rfl) ?_
      refine V_iconst (v := 2) hZ dX5_mayBeRenewed_23 (by decide) ?_
      refine V_icmp_ge (tgt := 42) hZ dX5_mayBeRenewed_24 (by decide) (fun c3 => ?_) (fun c3 => ?_)
      · refine V_iconst (v := 0) hZ dX5_mayBeRenewed_42 (by decide) ?_
        refine V_iret hZ hE rfl (by rfl) dX5_mayBeRenewed_43 (by decide) (by decide) ?_
        have c4 : ¬ cpRn (cps S c) < 2 := Int32.not_lt.mpr c3
        exact ⟨by simp [renewB, b01, c4], rfl⟩
      · have c4 : cpRn (cps S c) < 2 := Int32.not_le.mp c3
        refine V_aload_n hZ 0 dX5_mayBeRenewed_27 rfl rfl (by first | rfl | exact isR_rf _) ?_
        refine V_aload_n hZ 1 dX5_mayBeRenewed_28 rfl rfl (by first | rfl | exact isR_rf _) ?_
        refine V_getfield hZ fl_X5_192.r dX5_mayBeRenewed_29 (by assumption) (by rfl) ?_
        refine V_invVp hZ me_X5_firstWithNoneAside mi_X5_firstWithNoneAside ml_X5_374 (c_firstWithNoneAside Z.1 R W hr) dX5_mayBeRenewed_32 rfl rfl (by assumption) rfl rfl ⟨by decide, by decide⟩ (by first | decide | simp [cat_rf, cat_ref, cat_int, cat_null]) ⟨by decide, by decide⟩ ?_
        cases hz : nextW S (cpRc (cps S c)) with
        | none =>
          refine V_ifnonnullN hZ dX5_mayBeRenewed_35 ?_
          refine V_iconst (v := 1) hZ dX5_mayBeRenewed_38 (by decide) ?_
          refine V_goto (tgt := 43) hZ dX5_mayBeRenewed_39 (by decide) ?_
          refine V_iret hZ hE rfl (by rfl) dX5_mayBeRenewed_43 (by decide) (by decide) ?_
          have c5 : renewB S c = true := by simp only [renewB, decide_eq_true_eq]; exact ⟨c1, c2, c4, hz⟩
          exact ⟨by simp [b01, c5], rfl⟩
        | some y =>
          refine V_ifnonnullR (tgt := 42) hZ dX5_mayBeRenewed_35 (by decide) ?_
          refine V_iconst (v := 0) hZ dX5_mayBeRenewed_42 (by decide) ?_
          refine V_iret hZ hE rfl (by rfl) dX5_mayBeRenewed_43 (by decide) (by decide) ?_
          exact ⟨by simp [renewB, b01, hz], rfl⟩
def lostB (S : St) (d : Int32) (c : Nat) : Bool := decide (c < nCp S ∧ lostP (cpPl (cps S c)) (cpDy (cps S c)) (tdy S + d))
theorem c_lostWithin (R : Rep S h) (d : Int32) : Calls G yX5_lostWithin cX5_lostWithin 7 (.some .int) 2 42 0 0 [.ref (aH S), .int d] h (qV (.int (nI (cn (lostB S d) 30))) h) qX := by
  have h1 := R.hall
  have h2 := R.copies
  refine Calls_of1 (by decide +kernel) (by simp [cat_rf, cat_ref, cat_int, cat_null]) (by simp) (lv0 := [some (.ref (aH S)), some (.int d), none, none, none, none, none]) rfl ?_
  intro Z hG hZ hE hN
  subst hG
  refine V_iconst (v := 0) hZ dX5_lostWithin_0 (by decide) ?_
  refine V_istore_n hZ 2 rfl dX5_lostWithin_1 (by decide) (by first | rfl | simp [okp, cat_rf, cat_ref, cat_int, cat_null]) ?_
  refine V.lvc (by simp only [List.set_cons_zero, List.set_cons_succ, Nat.reduceAdd]; rfl) ?_
  refine V_aload_n hZ 0 dX5_lostWithin_2 rfl rfl (by first | rfl | exact isR_rf _) ?_
  refine V_getfield hZ fl_X5_23.r dX5_lostWithin_3 (by assumption) (by rfl) ?_
  refine V_astore_n hZ 3 rfl dX5_lostWithin_6 (by first | rfl | exact isR_rf _) (by decide) (by first | rfl | simp [okp, cat_rf, cat_ref, cat_int, cat_null]) ?_
  refine V.lvc (by simp only [List.set_cons_zero, List.set_cons_succ, Nat.reduceAdd]; rfl) ?_
  refine V_aload_n hZ 3 dX5_lostWithin_7 rfl rfl (by first | rfl | exact isR_rf _) ?_
  refine V_alenR hZ dX5_lostWithin_8 (by assumption) ?_
  refine V_istore hZ dX5_lostWithin_9 (by decide) (by first | rfl | simp [okp, cat_rf, cat_ref, cat_int, cat_null]) ?_
  refine V.lvc (by simp only [List.set_cons_zero, List.set_cons_succ, Nat.reduceAdd]; rfl) ?_
  refine V_iconst (v := 0) hZ dX5_lostWithin_11 (by decide) ?_
  refine V_istore hZ dX5_lostWithin_12 (by decide) (by first | rfl | simp [okp, cat_rf, cat_ref, cat_int, cat_null]) ?_
  refine V.lvc (by simp only [List.set_cons_zero, List.set_cons_succ, Nat.reduceAdd]; rfl) ?_
  have key : ∀ m c, c + m = 30 → ∀ w, V Z 14 [some (.ref (aH S)), some (.int d), some (.int (nI (cn (lostB S d) c))), some (.ref (aCs S)), some (.int (nI 30)), some (.int (nI c)), w] [] h 0 0 := by
    intro m
    induction m with
    | zero =>
      intro c hcm  w
      have hc : c = 30 := by omega
      subst hc
      refine V_iload hZ dX5_lostWithin_14 rfl ?_
      refine V_iload hZ dX5_lostWithin_16 rfl ?_
      refine V_icmp_ge (tgt := 55) hZ dX5_lostWithin_18 (by decide) (fun cE => ?_) (fun cE => ?_)
      · refine V_iload_n hZ 2 dX5_lostWithin_55 rfl rfl ?_
        refine V_iret hZ hE rfl (by rfl) dX5_lostWithin_56 (by decide) (by decide) ?_
        exact ⟨rfl, rfl⟩
      · exact absurd (by decide) cE
    | succ m ih =>
      intro c hcm  w
      have hcN : c < 30 := by omega
      refine V_iload hZ dX5_lostWithin_14 rfl ?_
      refine V_iload hZ dX5_lostWithin_16 rfl ?_
      refine V_icmp_ge (tgt := 55) hZ dX5_lostWithin_18 (by decide) (fun cE => ?_) (fun cE => ?_)
      · have cE2 : 30 ≤ c := (nI_leI (a := 30) (by decide) (by omega)).mp cE
        omega
      · refine V_aload_n hZ 3 dX5_lostWithin_21 rfl rfl (by first | rfl | exact isR_rf _) ?_
        refine V_iload hZ dX5_lostWithin_22 rfl ?_
        by_cases hi : c < nCp S
        · refine V_aaldn hZ dX5_lostWithin_24 (by assumption) hcN (by decide) (v := .ref (adC S c)) (rowf_lt hi) ?_
          refine V_astore hZ dX5_lostWithin_25 (by first | rfl | exact isR_rf _) (by decide) (by first | rfl | simp [okp, cat_rf, cat_ref, cat_int, cat_null]) ?_
          refine V.lvc (by simp only [List.set_cons_zero, List.set_cons_succ, Nat.reduceAdd]; rfl) ?_
          refine V_aload hZ dX5_lostWithin_27 rfl (by first | rfl | exact isR_rf _) ?_
          refine V_ifnullR hZ dX5_lostWithin_29 ?_
          have h3 := R.copy hi
          refine V_aload hZ dX5_lostWithin_32 rfl (by first | rfl | exact isR_rf _) ?_
          refine V_aload_n hZ 0 dX5_lostWithin_34 rfl rfl (by first | rfl | exact isR_rf _) ?_
          refine V_getfield hZ fl_X5_181.r dX5_lostWithin_35 (by assumption) (by rfl) ?_
          refine V_iload_n hZ 1 dX5_lostWithin_38 rfl rfl ?_
          refine V_iadd hZ dX5_lostWithin_39 ?_
          refine V_invVp hZ me_X1_isLostOn mi_X1_isLostOn ml_X5_280 (c_isLostOn Z.1 h h3 (tdy S + d)) dX5_lostWithin_40 rfl rfl (by assumption) rfl rfl ⟨by decide, by decide⟩ (by first | decide | simp [cat_rf, cat_ref, cat_int, cat_null]) ⟨by decide, by decide⟩ ?_
          refine V_if_eq (tgt := 49) hZ dX5_lostWithin_43 (by decide) (fun c1 => ?_) (fun c1 => ?_)
          · refine V_iincv hZ dX5_lostWithin_49 rfl (by decide) (by first | rfl | simp [okp, cat_rf, cat_ref, cat_int, cat_null]) (by first | exact nI_inc _ | rfl) ?_
            refine V.lvc (by simp only [List.set_cons_zero, List.set_cons_succ, Nat.reduceAdd]; rfl) ?_
            refine V_goto (tgt := 14) hZ dX5_lostWithin_52 (by decide) ?_
            have e := ih (c + 1) (by omega) (some (.ref (adC S c)))
            have c2 := b01_z c1
            rw [cn_f (by simp only [lostB, decide_eq_false_iff_not]; exact fun z => c2 z.2)] at e
            exact e
          · refine V_iincv hZ dX5_lostWithin_46 rfl (by decide) (by first | rfl | simp [okp, cat_rf, cat_ref, cat_int, cat_null]) (by first | exact nI_inc _ | rfl) ?_
            refine V.lvc (by simp only [List.set_cons_zero, List.set_cons_succ, Nat.reduceAdd]; rfl) ?_
            refine V_iincv hZ dX5_lostWithin_49 rfl (by decide) (by first | rfl | simp [okp, cat_rf, cat_ref, cat_int, cat_null]) (by first | exact nI_inc _ | rfl) ?_
            refine V.lvc (by simp only [List.set_cons_zero, List.set_cons_succ, Nat.reduceAdd]; rfl) ?_
            refine V_goto (tgt := 14) hZ dX5_lostWithin_52 (by decide) ?_
            have e := ih (c + 1) (by omega) (some (.ref (adC S c)))
            have c2 := b01_nz c1
            rw [cn_t (by simp only [lostB, decide_eq_true_eq]; exact ⟨hi, c2⟩)] at e
            exact e
        · refine V_aaldn hZ dX5_lostWithin_24 (by assumption) hcN (by decide) (v := .null) (rowf_ge hi) ?_
          refine V_astore hZ dX5_lostWithin_25 (by first | rfl | exact isR_rf _) (by decide) (by first | rfl | simp [okp, cat_rf, cat_ref, cat_int, cat_null]) ?_
          refine V.lvc (by simp only [List.set_cons_zero, List.set_cons_succ, Nat.reduceAdd]; rfl) ?_
          refine V_aload hZ dX5_lostWithin_27 rfl (by first | rfl | exact isR_rf _) ?_
          refine V_ifnullN (tgt := 49) hZ dX5_lostWithin_29 (by decide) ?_
          refine V_iincv hZ dX5_lostWithin_49 rfl (by decide) (by first | rfl | simp [okp, cat_rf, cat_ref, cat_int, cat_null]) (by first | exact nI_inc _ | rfl) ?_
          refine V.lvc (by simp only [List.set_cons_zero, List.set_cons_succ, Nat.reduceAdd]; rfl) ?_
          refine V_goto (tgt := 14) hZ dX5_lostWithin_52 (by decide) ?_
          have e := ih (c + 1) (by omega) (some .null)
          rw [cn_f (by simp only [lostB, decide_eq_false_iff_not]; exact fun z => hi z.1)] at e
          exact e
  exact key 30 0 rfl none
end
/-- when each copy of r is there -/
abbrev thd (c : Cp) (t : Int32) : Cp := (cpPr c, cpRc c, cpPl c, cpRd c, cpDy c, cpRn c, t)
def kiOf (T : St) (o : Option Nat) : Int32 := match o with
  | none => 0
  | some x => rdKi (rds T x)
abbrev thereC (T : St) (c : Nat) : Int32 := thereN (cpPl (cps T c)) (cpDy (cps T c)) (tdy T) (kiOf T (cpRd (cps T c))) (cpRd (cps T c))
def rkStep (r : Nat) (T : St) (c : Nat) : St := if c < nCp T ∧ cpRc (cps T c) = r then setCp T c (thd (cps T c) (thereC T c)) else T
def rkS (S : St) (r : Nat) : St := itN (rkStep r) 30 S
theorem same5_rkStep {T : St} {r c : Nat} : same5 T (rkStep r T c) := by
  unfold rkStep
  split <;> exact ⟨rfl, rfl, rfl⟩
theorem wf_th {T : St} (W : Wf T) {c : Nat} (hi : c < nCp T) (t : Int32) : Wf (setCp T c (thd (cps T c) t)) := wf_cp W (W_rec W hi) (W_rdr W hi) (W_asd W hi)
theorem wf_rkStep {T : St} {r c : Nat} (W : Wf T) : Wf (rkStep r T c) := by
  unfold rkStep
  split
  · rename_i h; exact wf_th W h.1 _
  · exact W
theorem same5_rk {S : St} {r : Nat} : same5 S (rkS S r) := itN_same (fun T c => same5_rkStep) 30
theorem wf_rk {S : St} (W : Wf S) {r : Nat} : Wf (rkS S r) := itN_wf (fun T c h => wf_rkStep h) W 30
theorem thereN_map (pl dy t ki : Int32) (o : Option Nat) (f : Nat → Nat) : thereN pl dy t ki (o.map f) = thereN pl dy t ki o := by cases o <;> simp [thereN]
theorem c_reckonWhenThere (G : GC) {h : HP} {S : St} (R : Rep S h) (W : Wf S) {r : Nat} (hr : r < nRc S) : Calls G yX5_reckonWhenThere cX5_reckonWhenThere 6 (.none : Option Jvm.ClassFile.FieldType) 2 42 0 0 [.ref (aH S), .ref (adR S r)] h (fun v h' => v = none ∧ Rep (rkS S r) h') qX := by
  have h1 := R.hall
  have h2 := R.copies
  refine Calls_of1 (by decide +kernel) (by simp [cat_rf, cat_ref, cat_int, cat_null]) (by simp) (lv0 := [some (.ref (aH S)), some (.ref (adR S r)), none, none, none, none]) rfl ?_
  intro Z hG hZ hE hN
  subst hG
  refine V_aload_n hZ 0 dX5_reckonWhenThere_0 rfl rfl (by first | rfl | exact isR_rf _) ?_
  refine V_getfield hZ fl_X5_23.r dX5_reckonWhenThere_1 (by assumption) (by rfl) ?_
  refine V_astore_n hZ 2 rfl dX5_reckonWhenThere_4 (by first | rfl | exact isR_rf _) (by decide) (by first | rfl | simp [okp, cat_rf, cat_ref, cat_int, cat_null]) ?_
  refine V.lvc (by simp only [List.set_cons_zero, List.set_cons_succ, Nat.reduceAdd]; rfl) ?_
  refine V_aload_n hZ 2 dX5_reckonWhenThere_5 rfl rfl (by first | rfl | exact isR_rf _) ?_
  refine V_alenR hZ dX5_reckonWhenThere_6 (by assumption) ?_
  refine V_istore_n hZ 3 rfl dX5_reckonWhenThere_7 (by decide) (by first | rfl | simp [okp, cat_rf, cat_ref, cat_int, cat_null]) ?_
  refine V.lvc (by simp only [List.set_cons_zero, List.set_cons_succ, Nat.reduceAdd]; rfl) ?_
  refine V_iconst (v := 0) hZ dX5_reckonWhenThere_8 (by decide) ?_
  refine V_istore hZ dX5_reckonWhenThere_9 (by decide) (by first | rfl | simp [okp, cat_rf, cat_ref, cat_int, cat_null]) ?_
  refine V.lvc (by simp only [List.set_cons_zero, List.set_cons_succ, Nat.reduceAdd]; rfl) ?_
  have key : ∀ m c, c + m = 30 → ∀ (T : St) (g : HP), Rep T g → Wf T → r < nRc T → itN (rkStep r) c S = T → ∀ w, V Z 11 [some (.ref (aH T)), some (.ref (adR T r)), some (.ref (aCs T)), some (.int (nI 30)), some (.int (nI c)), w] [] g 0 0 := by
    intro m
    induction m with
    | zero =>
      intro c hcm T g R W hr hT w
      have hc : c = 30 := by omega
      subst hc
      have g1 := R.hall
      have g2 := R.copies
      refine V_iload hZ dX5_reckonWhenThere_11 rfl ?_
      refine V_iload_n hZ 3 dX5_reckonWhenThere_13 rfl rfl ?_
      refine V_icmp_ge (tgt := 57) hZ dX5_reckonWhenThere_14 (by decide) (fun cE => ?_) (fun cE => ?_)
      · refine V_vret hZ hE rfl dX5_reckonWhenThere_57 (by decide) (by decide) ?_
        exact ⟨rfl, by rw [show rkS S r = T from hT]; exact R⟩
      · exact absurd (by decide) cE
    | succ m ih =>
      intro c hcm T g R W hr hT w
      have hcN : c < 30 := by omega
      have g1 := R.hall
      have g2 := R.copies
      refine V_iload hZ dX5_reckonWhenThere_11 rfl ?_
      refine V_iload_n hZ 3 dX5_reckonWhenThere_13 rfl rfl ?_
      refine V_icmp_ge (tgt := 57) hZ dX5_reckonWhenThere_14 (by decide) (fun cE => ?_) (fun cE => ?_)
      · have cE2 : 30 ≤ c := (nI_leI (a := 30) (by decide) (by omega)).mp cE
        omega
      · refine V_aload_n hZ 2 dX5_reckonWhenThere_17 rfl rfl (by first | rfl | exact isR_rf _) ?_
        refine V_iload hZ dX5_reckonWhenThere_18 rfl ?_
        by_cases hi : c < nCp T
        · refine V_aaldn hZ dX5_reckonWhenThere_20 (by assumption) hcN (by decide) (v := .ref (adC T c)) (rowf_lt hi) ?_
          refine V_astore hZ dX5_reckonWhenThere_21 (by first | rfl | exact isR_rf _) (by decide) (by first | rfl | simp [okp, cat_rf, cat_ref, cat_int, cat_null]) ?_
          refine V.lvc (by simp only [List.set_cons_zero, List.set_cons_succ, Nat.reduceAdd]; rfl) ?_
          refine V_aload hZ dX5_reckonWhenThere_23 rfl (by first | rfl | exact isR_rf _) ?_
          refine V_ifnullR hZ dX5_reckonWhenThere_25 ?_
          have g3 := R.copy hi
          refine V_aload hZ dX5_reckonWhenThere_28 rfl (by first | rfl | exact isR_rf _) ?_
          refine V_getfield hZ fl_X5_192.r dX5_reckonWhenThere_30 (by assumption) (by rfl) ?_
          refine V_aload_n hZ 1 dX5_reckonWhenThere_33 rfl rfl (by first | rfl | exact isR_rf _) ?_
          refine V_acmp_ne (tgt := 51) hZ dX5_reckonWhenThere_34 (by decide) (by first | rfl | exact isR_rf _) (by first | rfl | exact isR_rf _) (fun c1 => ?_) (fun c1 => ?_)
          · refine V_iincv hZ dX5_reckonWhenThere_51 rfl (by decide) (by first | rfl | simp [okp, cat_rf, cat_ref, cat_int, cat_null]) (by first | exact nI_inc _ | rfl) ?_
            refine V.lvc (by simp only [List.set_cons_zero, List.set_cons_succ, Nat.reduceAdd]; rfl) ?_
            refine V_goto (tgt := 11) hZ dX5_reckonWhenThere_54 (by decide) ?_
            have c2 : ¬ (c < nCp T ∧ cpRc (cps T c) = r) := fun z => c1 (by rw [z.2])
            exact ih (c + 1) (by omega) T g R W hr (by rw [itN, hT]; simp only [rkStep, if_neg c2]) _
          · have c2 : c < nCp T ∧ cpRc (cps T c) = r := ⟨hi, (recIff R W (W_rec W hi) hr).mp (refIff.mp c1)⟩
            refine V_aload hZ dX5_reckonWhenThere_37 rfl (by first | rfl | exact isR_rf _) ?_
            refine V_aload hZ dX5_reckonWhenThere_39 rfl (by first | rfl | exact isR_rf _) ?_
            refine V_aload_n hZ 0 dX5_reckonWhenThere_41 rfl rfl (by first | rfl | exact isR_rf _) ?_
            refine V_getfield hZ fl_X5_181.r dX5_reckonWhenThere_42 (by assumption) (by rfl) ?_
            have hk : ∀ a, (cpRd (cps T c)).map (adD T) = some a → ∃ j ow, g a = some (mRdr j (kiOf T (cpRd (cps T c))) ow) := by
              intro a ha
              cases hz : cpRd (cps T c) with
              | none => rw [hz] at ha; cases ha
              | some y =>
                rw [hz] at ha
                cases ha
                exact ⟨y, _, R.rdr (W_rdr W hi y hz)⟩
            refine V_invVp hZ me_X1_daysUntilThere mi_X1_daysUntilThere ml_X5_401 (c_daysUntilThere Z.1 g g3 (tdy T) (kiOf T (cpRd (cps T c))) hk) dX5_reckonWhenThere_45 rfl rfl (by assumption) rfl rfl ⟨by decide, by decide⟩ (by first | decide | simp [cat_rf, cat_ref, cat_int, cat_null]) ⟨by decide, by decide⟩ ?_
            refine V_putfield hZ fl_X5_398 dX5_reckonWhenThere_48 (by first | assumption | exact hup_self _ _ _) (by first | rfl | exact nar_rf _ _) (by first | rfl | exact fits_rf _ _) (by simp) ?_
            refine V_iincv hZ dX5_reckonWhenThere_51 rfl (by decide) (by first | rfl | simp [okp, cat_rf, cat_ref, cat_int, cat_null]) (by first | exact nI_inc _ | rfl) ?_
            refine V.lvc (by simp only [List.set_cons_zero, List.set_cons_succ, Nat.reduceAdd]; rfl) ?_
            refine V_goto (tgt := 11) hZ dX5_reckonWhenThere_54 (by decide) ?_
            have R2 := rep_cp R W hi (thd (cps T c) (thereC T c))
            rw [thereN_map]
            exact ih (c + 1) (by omega) (setCp T c (thd (cps T c) (thereC T c))) _ R2 (wf_th W hi _) hr (by rw [itN, hT]; simp only [rkStep, if_pos c2]) _
        · refine V_aaldn hZ dX5_reckonWhenThere_20 (by assumption) hcN (by decide) (v := .null) (rowf_ge hi) ?_
          refine V_astore hZ dX5_reckonWhenThere_21 (by first | rfl | exact isR_rf _) (by decide) (by first | rfl | simp [okp, cat_rf, cat_ref, cat_int, cat_null]) ?_
          refine V.lvc (by simp only [List.set_cons_zero, List.set_cons_succ, Nat.reduceAdd]; rfl) ?_
          refine V_aload hZ dX5_reckonWhenThere_23 rfl (by first | rfl | exact isR_rf _) ?_
          refine V_ifnullN (tgt := 51) hZ dX5_reckonWhenThere_25 (by decide) ?_
          refine V_iincv hZ dX5_reckonWhenThere_51 rfl (by decide) (by first | rfl | simp [okp, cat_rf, cat_ref, cat_int, cat_null]) (by first | exact nI_inc _ | rfl) ?_
          refine V.lvc (by simp only [List.set_cons_zero, List.set_cons_succ, Nat.reduceAdd]; rfl) ?_
          refine V_goto (tgt := 11) hZ dX5_reckonWhenThere_54 (by decide) ?_
          exact ih (c + 1) (by omega) T g R W hr (by rw [itN, hT]; simp only [rkStep, if_neg (show ¬ (c < nCp T ∧ cpRc (cps T c) = r) from fun z => hi z.1)]) _
  exact key 30 0 rfl _ _ R W hr rfl none

