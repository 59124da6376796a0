/-! names and records -/
theorem c_stoodFor (G : GC) (h : HP) {q i : Nat} (hc : h q = some (mName i)) : Calls G yX2_stoodFor cX2_stoodFor 3 (.some (.object "BookplateHall$Name")) 0 0 0 0 [.ref q] h (qV (.ref q) h) qX := by
  refine Calls_of1 (by decide +kernel) (by simp [cat_rf, cat_ref, cat_int, cat_null]) (by simp) (lv0 := [some (.ref q), none, none]) rfl ?_
  intro Z hG hZ hE hN
  subst hG
  refine V_aload_n hZ 0 dX2_stoodFor_0 rfl rfl (by first | rfl | exact isR_rf _) ?_
  refine V_astore_n hZ 1 rfl dX2_stoodFor_1 (by first | rfl | exact isR_rf _) (by decide) (by first | rfl | simp [okp, cat_rf, cat_ref, cat_int, cat_null]) ?_
  refine V.lvc (by simp only [List.set_cons_zero, List.set_cons_succ, Nat.reduceAdd]; rfl) ?_
  refine V_iconst (v := 0) hZ dX2_stoodFor_2 (by decide) ?_
  refine V_istore_n hZ 2 rfl dX2_stoodFor_3 (by decide) (by first | rfl | simp [okp, cat_rf, cat_ref, cat_int, cat_null]) ?_
  refine V.lvc (by simp only [List.set_cons_zero, List.set_cons_succ, Nat.reduceAdd]; rfl) ?_
  refine V_iload_n hZ 2 dX2_stoodFor_4 rfl rfl ?_
  refine V_bipush (v := 16) hZ dX2_stoodFor_5 (by decide) ?_
  refine V_icmp_ge (tgt := 28) hZ dX2_stoodFor_7 (by decide) (fun c1 => ?_) (fun c1 => ?_)
  · exact absurd c1 (by decide)
  · refine V_aload_n hZ 1 dX2_stoodFor_10 rfl rfl (by first | rfl | exact isR_rf _) ?_
    refine V_getfield hZ fl_X2_15.r dX2_stoodFor_11 (by assumption) (by rfl) ?_
    refine V_ifnullN (tgt := 28) hZ dX2_stoodFor_14 (by decide) ?_
    refine V_aload_n hZ 1 dX2_stoodFor_28 rfl rfl (by first | rfl | exact isR_rf _) ?_
    refine V_aret hZ hE rfl (by first | rfl | exact isR_rf _) dX2_stoodFor_29 (by decide) (by decide) ?_
    exact ⟨rfl, rfl⟩
theorem c_isLive (G : GC) (h : HP) {q i ln : Nat} {au we : Option Nat} {ti ye le : Int32} (hc : h q = some (mRec i au ti ye ln we le)) : Calls G yX0_isLive cX0_isLive 1 (.some .boolean) 0 0 0 0 [.ref q] h (qV (.int (b01 (we = none))) h) qX := by
  refine Calls_of1 (by decide +kernel) (by simp [cat_rf, cat_ref, cat_int, cat_null]) (by simp) (lv0 := [some (.ref q)]) rfl ?_
  intro Z hG hZ hE hN
  subst hG
  refine V_aload_n hZ 0 dX0_isLive_0 rfl rfl (by first | rfl | exact isR_rf _) ?_
  refine V_getfield hZ fl_X0_32.r dX0_isLive_1 (by assumption) (by rfl) ?_
  cases we with
  | none =>
    refine V_ifnonnullN hZ dX0_isLive_4 ?_
    refine V_iconst (v := 1) hZ dX0_isLive_7 (by decide) ?_
    refine V_goto (tgt := 12) hZ dX0_isLive_8 (by decide) ?_
    refine V_iret hZ hE rfl (by rfl) dX0_isLive_12 (by decide) (by decide) ?_
    exact ⟨by simp [b01], rfl⟩
  | some a =>
    refine V_ifnonnullR (tgt := 11) hZ dX0_isLive_4 (by decide) ?_
    refine V_iconst (v := 0) hZ dX0_isLive_11 (by decide) ?_
    refine V_iret hZ hE rfl (by rfl) dX0_isLive_12 (by decide) (by decide) ?_
    exact ⟨by simp [b01], rfl⟩
theorem c_isBy (G : GC) (h : HP) {q i ln : Nat} {au we : Option Nat} {ti ye le : Int32} (hc : h q = some (mRec i au ti ye ln we le)) (o : Option Nat) (ha : ∀ x, au = some x → ∃ j, h x = some (mName j)) (ho : ∀ x, o = some x → ∃ j, h x = some (mName j)) : Calls G yX0_isBy cX0_isBy 2 (.some .boolean) 1 22 0 0 [.ref q, va_rf o] h (qV (.int (b01 (au ≠ none ∧ au = o))) h) qX := by
  refine Calls_of1 (by decide +kernel) (by simp [cat_rf, cat_ref, cat_int, cat_null]) (by simp) (lv0 := [some (.ref q), some (va_rf o)]) rfl ?_
  intro Z hG hZ hE hN
  subst hG
  refine V_aload_n hZ 0 dX0_isBy_0 rfl rfl (by first | rfl | exact isR_rf _) ?_
  refine V_getfield hZ fl_X0_22.r dX0_isBy_1 (by assumption) (by rfl) ?_
  cases au with
  | none =>
    refine V_ifnullN (tgt := 29) hZ dX0_isBy_4 (by decide) ?_
    refine V_iconst (v := 0) hZ dX0_isBy_29 (by decide) ?_
    refine V_iret hZ hE rfl (by rfl) dX0_isBy_30 (by decide) (by decide) ?_
    exact ⟨by simp [b01], rfl⟩
  | some x =>
    obtain ⟨j, hx⟩ := ha x rfl
    refine V_ifnullR hZ dX0_isBy_4 ?_
    refine V_aload_n hZ 1 dX0_isBy_7 rfl rfl (by first | rfl | exact isR_rf _) ?_
    cases o with
    | none =>
      refine V_ifnullN (tgt := 29) hZ dX0_isBy_8 (by decide) ?_
      refine V_iconst (v := 0) hZ dX0_isBy_29 (by decide) ?_
      refine V_iret hZ hE rfl (by rfl) dX0_isBy_30 (by decide) (by decide) ?_
      exact ⟨by simp [b01], rfl⟩
    | some y =>
      obtain ⟨j', hy⟩ := ho y rfl
      refine V_ifnullR hZ dX0_isBy_8 ?_
      refine V_aload_n hZ 0 dX0_isBy_11 rfl rfl (by first | rfl | exact isR_rf _) ?_
      refine V_getfield hZ fl_X0_22.r dX0_isBy_12 (by assumption) (by rfl) ?_
      refine V_invVp hZ me_X2_stoodFor mi_X2_stoodFor ml_X0_36 (c_stoodFor Z.1 h hx) dX0_isBy_15 rfl rfl (by assumption) rfl rfl ⟨by decide, by decide⟩ (by first | decide | simp [cat_rf, cat_ref, cat_int, cat_null]) ⟨by decide, by decide⟩ ?_
      refine V_aload_n hZ 1 dX0_isBy_18 rfl rfl (by first | rfl | exact isR_rf _) ?_
      refine V_invVp hZ me_X2_stoodFor mi_X2_stoodFor ml_X0_36 (c_stoodFor Z.1 h hy) dX0_isBy_19 rfl rfl (by assumption) rfl rfl ⟨by decide, by decide⟩ (by first | decide | simp [cat_rf, cat_ref, cat_int, cat_null]) ⟨by decide, by decide⟩ ?_
      refine V_acmp_ne (tgt := 29) hZ dX0_isBy_22 (by decide) (by first | rfl | exact isR_rf _) (by first | rfl | exact isR_rf _) (fun c1 => ?_) (fun c1 => ?_)
      · refine V_iconst (v := 0) hZ dX0_isBy_29 (by decide) ?_
        refine V_iret hZ hE rfl (by rfl) dX0_isBy_30 (by decide) (by decide) ?_
        have c2 : ¬ x = y := fun z => c1 (by rw [z])
        exact ⟨by simp [b01, c2], rfl⟩
      · refine V_iconst (v := 1) hZ dX0_isBy_25 (by decide) ?_
        refine V_goto (tgt := 30) hZ dX0_isBy_26 (by decide) ?_
        refine V_iret hZ hE rfl (by rfl) dX0_isBy_30 (by decide) (by decide) ?_
        have c2 : x = y := by cases c1; rfl
        exact ⟨by simp [b01, c2], rfl⟩
def likeA (a b : Option Nat) : Int32 := if a = b then 30 else 0
def likeT (t u : Int32) : Int32 := if bitC (t ||| u) = 0 then 0 else 50 * bitC (t &&& u) / bitC (t ||| u)
def likeY (y z : Int32) : Int32 := maxI 0 (20 - 4 * absI (y - z))
def likeN (a : Option Nat) (t y : Int32) (a' : Option Nat) (t' y' : Int32) : Int32 := likeA a a' + likeT t t' + likeY y y'
section
variable (G : GC) (h : HP) {q i ln q' i' ln' : Nat} {au we au' we' : Option Nat} {ti ye le ti' ye' le' : Int32}
theorem c_likenessOfAuthors (hc : h q = some (mRec i au ti ye ln we le)) (hc' : h q' = some (mRec i' au' ti' ye' ln' we' le')) (ha : ∀ x, au = some x → ∃ j, h x = some (mName j)) (ho : ∀ x, au' = some x → ∃ j, h x = some (mName j)) : Calls G yX0_likenessOfAuthors cX0_likenessOfAuthors 3 (.some .int) 2 43 0 0 [.ref q, .ref q'] h (qV (.int (likeA au au')) h) qX := by
  refine Calls_of1 (by decide +kernel) (by simp [cat_rf, cat_ref, cat_int, cat_null]) (by simp) (lv0 := [some (.ref q), some (.ref q'), none]) rfl ?_
  intro Z hG hZ hE hN
  subst hG
  refine V_aload_n hZ 0 dX0_likenessOfAuthors_0 rfl rfl (by first | rfl | exact isR_rf _) ?_
  refine V_getfield hZ fl_X0_22.r dX0_likenessOfAuthors_1 (by assumption) (by rfl) ?_
  cases au with
  | none =>
    refine V_ifnonnullN hZ dX0_likenessOfAuthors_4 ?_
    refine V_aload_n hZ 1 dX0_likenessOfAuthors_7 rfl rfl (by first | rfl | exact isR_rf _) ?_
    refine V_getfield hZ fl_X0_22.r dX0_likenessOfAuthors_8 (by assumption) (by rfl) ?_
    cases au' with
    | none =>
      refine V_ifnonnullN hZ dX0_likenessOfAuthors_11 ?_
      refine V_iconst (v := 1) hZ dX0_likenessOfAuthors_14 (by decide) ?_
      refine V_goto (tgt := 19) hZ dX0_likenessOfAuthors_15 (by decide) ?_
      refine V_istore_n hZ 2 rfl dX0_likenessOfAuthors_19 (by decide) (by first | rfl | simp [okp, cat_rf, cat_ref, cat_int, cat_null]) ?_
      refine V.lvc (by simp only [List.set_cons_zero, List.set_cons_succ, Nat.reduceAdd]; rfl) ?_
      refine V_iload_n hZ 2 dX0_likenessOfAuthors_20 rfl rfl ?_
      refine V_if_ne (tgt := 35) hZ dX0_likenessOfAuthors_21 (by decide) (fun c1 => ?_) (fun c1 => ?_)
      · refine V_bipush (v := 30) hZ dX0_likenessOfAuthors_35 (by decide) ?_
        refine V_goto (tgt := 41) hZ dX0_likenessOfAuthors_37 (by decide) ?_
        refine V_iret hZ hE rfl (by rfl) dX0_likenessOfAuthors_41 (by decide) (by decide) ?_
        exact ⟨by simp [likeA], rfl⟩
      · exact absurd c1 (by decide)
    | some y =>
      refine V_ifnonnullR (tgt := 18) hZ dX0_likenessOfAuthors_11 (by decide) ?_
      refine V_iconst (v := 0) hZ dX0_likenessOfAuthors_18 (by decide) ?_
      refine V_istore_n hZ 2 rfl dX0_likenessOfAuthors_19 (by decide) (by first | rfl | simp [okp, cat_rf, cat_ref, cat_int, cat_null]) ?_
      refine V.lvc (by simp only [List.set_cons_zero, List.set_cons_succ, Nat.reduceAdd]; rfl) ?_
      refine V_iload_n hZ 2 dX0_likenessOfAuthors_20 rfl rfl ?_
      refine V_if_ne (tgt := 35) hZ dX0_likenessOfAuthors_21 (by decide) (fun c1 => ?_) (fun c1 => ?_)
      · exact absurd rfl c1
      · refine V_aload_n hZ 0 dX0_likenessOfAuthors_24 rfl rfl (by first | rfl | exact isR_rf _) ?_
        refine V_aload_n hZ 1 dX0_likenessOfAuthors_25 rfl rfl (by first | rfl | exact isR_rf _) ?_
        refine V_getfield hZ fl_X0_22.r dX0_likenessOfAuthors_26 (by assumption) (by rfl) ?_
        refine V_invVp hZ me_X0_isBy mi_X0_isBy ml_X0_52 (c_isBy Z.1 h hc (some y) ha ho) dX0_likenessOfAuthors_29 rfl rfl (by assumption) rfl rfl ⟨by decide, by decide⟩ (by first | decide | simp [cat_rf, cat_ref, cat_int, cat_null]) ⟨by decide, by decide⟩ ?_
        refine V_if_eq (tgt := 40) hZ dX0_likenessOfAuthors_32 (by decide) (fun c2 => ?_) (fun c2 => ?_)
        · refine V_iconst (v := 0) hZ dX0_likenessOfAuthors_40 (by decide) ?_
          refine V_iret hZ hE rfl (by rfl) dX0_likenessOfAuthors_41 (by decide) (by decide) ?_
          exact ⟨by simp [likeA], rfl⟩
        · exact absurd (by simp [b01]) c2
  | some x =>
    refine V_ifnonnullR (tgt := 18) hZ dX0_likenessOfAuthors_4 (by decide) ?_
    refine V_iconst (v := 0) hZ dX0_likenessOfAuthors_18 (by decide) ?_
    refine V_istore_n hZ 2 rfl dX0_likenessOfAuthors_19 (by decide) (by first | rfl | simp [okp, cat_rf, cat_ref, cat_int, cat_null]) ?_
    refine V.lvc (by simp only [List.set_cons_zero, List.set_cons_succ, Nat.reduceAdd]; rfl) ?_
    refine V_iload_n hZ 2 dX0_likenessOfAuthors_20 rfl rfl ?_
    refine V_if_ne (tgt := 35) hZ dX0_likenessOfAuthors_21 (by decide) (fun c1 => ?_) (fun c1 => ?_)
    · exact absurd rfl c1
    · refine V_aload_n hZ 0 dX0_likenessOfAuthors_24 rfl rfl (by first | rfl | exact isR_rf _) ?_
      refine V_aload_n hZ 1 dX0_likenessOfAuthors_25 rfl rfl (by first | rfl | exact isR_rf _) ?_
      refine V_getfield hZ fl_X0_22.r dX0_likenessOfAuthors_26 (by assumption) (by rfl) ?_
      refine V_invVp hZ me_X0_isBy mi_X0_isBy ml_X0_52 (c_isBy Z.1 h hc au' ha ho) dX0_likenessOfAuthors_29 rfl rfl (by assumption) rfl rfl ⟨by decide, by decide⟩ (by first | decide | simp [cat_rf, cat_ref, cat_int, cat_null]) ⟨by decide, by decide⟩ ?_
      refine V_if_eq (tgt := 40) hZ dX0_likenessOfAuthors_32 (by decide) (fun c2 => ?_) (fun c2 => ?_)
      · refine V_iconst (v := 0) hZ dX0_likenessOfAuthors_40 (by decide) ?_
        refine V_iret hZ hE rfl (by rfl) dX0_likenessOfAuthors_41 (by decide) (by decide) ?_
        have c3 : ¬ some x = au' := fun z => absurd c2 (by rw [← z]; simp [b01])
        exact ⟨by simp [likeA, c3], rfl⟩
      · refine V_bipush (v := 30) hZ dX0_likenessOfAuthors_35 (by decide) ?_
        refine V_goto (tgt := 41) hZ dX0_likenessOfAuthors_37 (by decide) ?_
        refine V_iret hZ hE rfl (by rfl) dX0_likenessOfAuthors_41 (by decide) (by decide) ?_
        have c3 : some x = au' := by
          by_cases z : some x = au'
          · exact z
          · exact absurd (by simp [b01, z]) c2
        exact ⟨by simp [likeA, c3], rfl⟩
theorem c_likenessOfTitles (hc : h q = some (mRec i au ti ye ln we le)) (hc' : h q' = some (mRec i' au' ti' ye' ln' we' le')) : Calls G yX0_likenessOfTitles cX0_likenessOfTitles 4 (.some .int) 1 20 0 0 [.ref q, .ref q'] h (qV (.int (likeT ti ti')) h) qX := by
  refine Calls_of1 (by decide +kernel) (by simp [cat_rf, cat_ref, cat_int, cat_null]) (by simp) (lv0 := [some (.ref q), some (.ref q'), none, none]) rfl ?_
  intro Z hG hZ hE hN
  subst hG
  refine V_aload_n hZ 0 dX0_likenessOfTitles_0 rfl rfl (by first | rfl | exact isR_rf _) ?_
  refine V_getfield hZ fl_X0_26.r dX0_likenessOfTitles_1 (by assumption) (by rfl) ?_
  refine V_aload_n hZ 1 dX0_likenessOfTitles_4 rfl rfl (by first | rfl | exact isR_rf _) ?_
  refine V_getfield hZ fl_X0_26.r dX0_likenessOfTitles_5 (by assumption) (by rfl) ?_
  refine V_iand hZ dX0_likenessOfTitles_8 ?_
  refine V_invSp hZ me_J6_bitCount_0f7a4 ms_J6_bitCount_0f7a4 ml_X0_56 (c_bitCount Z.1 h (ti &&& ti')) dX0_likenessOfTitles_9 rfl rfl ⟨by decide, by decide⟩ (by first | decide | simp [cat_rf, cat_ref, cat_int, cat_null]) ⟨by decide, by decide⟩ ?_
  refine V_istore_n hZ 2 rfl dX0_likenessOfTitles_12 (by decide) (by first | rfl | simp [okp, cat_rf, cat_ref, cat_int, cat_null]) ?_
  refine V.lvc (by simp only [List.set_cons_zero, List.set_cons_succ, Nat.reduceAdd]; rfl) ?_
  refine V_aload_n hZ 0 dX0_likenessOfTitles_13 rfl rfl (by first | rfl | exact isR_rf _) ?_
  refine V_getfield hZ fl_X0_26.r dX0_likenessOfTitles_14 (by assumption) (by rfl) ?_
  refine V_aload_n hZ 1 dX0_likenessOfTitles_17 rfl rfl (by first | rfl | exact isR_rf _) ?_
  refine V_getfield hZ fl_X0_26.r dX0_likenessOfTitles_18 (by assumption) (by rfl) ?_
  refine V_ior hZ dX0_likenessOfTitles_21 ?_
  refine V_invSp hZ me_J6_bitCount_0f7a4 ms_J6_bitCount_0f7a4 ml_X0_56 (c_bitCount Z.1 h (ti ||| ti')) dX0_likenessOfTitles_22 rfl rfl ⟨by decide, by decide⟩ (by first | decide | simp [cat_rf, cat_ref, cat_int, cat_null]) ⟨by decide, by decide⟩ ?_
  refine V_istore_n hZ 3 rfl dX0_likenessOfTitles_25 (by decide) (by first | rfl | simp [okp, cat_rf, cat_ref, cat_int, cat_null]) ?_
  refine V.lvc (by simp only [List.set_cons_zero, List.set_cons_succ, Nat.reduceAdd]; rfl) ?_
  refine V_iload_n hZ 3 dX0_likenessOfTitles_26 rfl rfl ?_
  refine V_if_ne (tgt := 34) hZ dX0_likenessOfTitles_27 (by decide) (fun c1 => ?_) (fun c1 => ?_)
  · refine V_bipush (v := 50) hZ dX0_likenessOfTitles_34 (by decide) ?_
    refine V_iload_n hZ 2 dX0_likenessOfTitles_36 rfl rfl ?_
    refine V_imul hZ dX0_likenessOfTitles_37 ?_
    refine V_iload_n hZ 3 dX0_likenessOfTitles_38 rfl rfl ?_
    refine V_idiv hZ c1 dX0_likenessOfTitles_39 ?_
    refine V_iret hZ hE rfl (by rfl) dX0_likenessOfTitles_40 (by decide) (by decide) ?_
    exact ⟨by simp [likeT, c1], rfl⟩
  · refine V_iconst (v := 0) hZ dX0_likenessOfTitles_30 (by decide) ?_
    refine V_goto (tgt := 40) hZ dX0_likenessOfTitles_31 (by decide) ?_
    refine V_iret hZ hE rfl (by rfl) dX0_likenessOfTitles_40 (by decide) (by decide) ?_
    exact ⟨by simp [likeT, c1], rfl⟩
theorem c_likenessOfYears (hc : h q = some (mRec i au ti ye ln we le)) (hc' : h q' = some (mRec i' au' ti' ye' ln' we' le')) : Calls G yX0_likenessOfYears cX0_likenessOfYears 2 (.some .int) 1 21 0 0 [.ref q, .ref q'] h (qV (.int (likeY ye ye')) h) qX := by
  refine Calls_of1 (by decide +kernel) (by simp [cat_rf, cat_ref, cat_int, cat_null]) (by simp) (lv0 := [some (.ref q), some (.ref q')]) rfl ?_
  intro Z hG hZ hE hN
  subst hG
  refine V_iconst (v := 0) hZ dX0_likenessOfYears_0 (by decide) ?_
  refine V_bipush (v := 20) hZ dX0_likenessOfYears_1 (by decide) ?_
  refine V_iconst (v := 4) hZ dX0_likenessOfYears_3 (by decide) ?_
  refine V_aload_n hZ 0 dX0_likenessOfYears_4 rfl rfl (by first | rfl | exact isR_rf _) ?_
  refine V_getfield hZ fl_X0_29.r dX0_likenessOfYears_5 (by assumption) (by rfl) ?_
  refine V_aload_n hZ 1 dX0_likenessOfYears_8 rfl rfl (by first | rfl | exact isR_rf _) ?_
  refine V_getfield hZ fl_X0_29.r dX0_likenessOfYears_9 (by assumption) (by rfl) ?_
  refine V_isub hZ dX0_likenessOfYears_12 ?_
  refine V_mabs hZ ml_X0_62 dX0_likenessOfYears_13 (by decide) (by first | decide | simp [cat_rf, cat_ref, cat_int, cat_null]) ⟨by decide, by decide⟩ ?_
  refine V_imul hZ dX0_likenessOfYears_16 ?_
  refine V_isub hZ dX0_likenessOfYears_17 ?_
  refine V_mmax hZ ml_X0_67 dX0_likenessOfYears_18 (by decide) (by first | decide | simp [cat_rf, cat_ref, cat_int, cat_null]) ⟨by decide, by decide⟩ ?_
  refine V_iret hZ hE rfl (by rfl) dX0_likenessOfYears_21 (by decide) (by decide) ?_
  exact ⟨rfl, rfl⟩
theorem c_likenessTo (hc : h q = some (mRec i au ti ye ln we le)) (hc' : h q' = some (mRec i' au' ti' ye' ln' we' le')) (ha : ∀ x, au = some x → ∃ j, h x = some (mName j)) (ho : ∀ x, au' = some x → ∃ j, h x = some (mName j)) : Calls G yX0_likenessTo cX0_likenessTo 2 (.some .int) 3 65 0 0 [.ref q, .ref q'] h (qV (.int (likeN au ti ye au' ti' ye')) h) qX := by
  refine Calls_of1 (by decide +kernel) (by simp [cat_rf, cat_ref, cat_int, cat_null]) (by simp) (lv0 := [some (.ref q), some (.ref q')]) rfl ?_
  intro Z hG hZ hE hN
  subst hG
  refine V_aload_n hZ 0 dX0_likenessTo_0 rfl rfl (by first | rfl | exact isR_rf _) ?_
  refine V_aload_n hZ 1 dX0_likenessTo_1 rfl rfl (by first | rfl | exact isR_rf _) ?_
  refine V_invVp hZ me_X0_likenessOfAuthors mi_X0_likenessOfAuthors ml_X0_42 (c_likenessOfAuthors Z.1 h hc hc' ha ho) dX0_likenessTo_2 rfl rfl (by assumption) rfl rfl ⟨by decide, by decide⟩ (by first | decide | simp [cat_rf, cat_ref, cat_int, cat_null]) ⟨by decide, by decide⟩ ?_
  refine V_aload_n hZ 0 dX0_likenessTo_5 rfl rfl (by first | rfl | exact isR_rf _) ?_
  refine V_aload_n hZ 1 dX0_likenessTo_6 rfl rfl (by first | rfl | exact isR_rf _) ?_
  refine V_invVp hZ me_X0_likenessOfTitles mi_X0_likenessOfTitles ml_X0_46 (c_likenessOfTitles Z.1 h hc hc') dX0_likenessTo_7 rfl rfl (by assumption) rfl rfl ⟨by decide, by decide⟩ (by first | decide | simp [cat_rf, cat_ref, cat_int, cat_null]) ⟨by decide, by decide⟩ ?_
  refine V_iadd hZ dX0_likenessTo_10 ?_
  refine V_aload_n hZ 0 dX0_likenessTo_11 rfl rfl (by first | rfl | exact isR_rf _) ?_
  refine V_aload_n hZ 1 dX0_likenessTo_12 rfl rfl (by first | rfl | exact isR_rf _) ?_
  refine V_invVp hZ me_X0_likenessOfYears mi_X0_likenessOfYears ml_X0_49 (c_likenessOfYears Z.1 h hc hc') dX0_likenessTo_13 rfl rfl (by assumption) rfl rfl ⟨by decide, by decide⟩ (by first | decide | simp [cat_rf, cat_ref, cat_int, cat_null]) ⟨by decide, by decide⟩ ?_
  refine V_iadd hZ dX0_likenessTo_16 ?_
  refine V_iret hZ hE rfl (by rfl) dX0_likenessTo_17 (by decide) (by decide) ?_
  exact ⟨rfl, rfl⟩
end
/-- the record into which one went over, after at most k steps -/
def lvN (we : Nat → Option Nat) : Nat → Nat → Nat
  | 0, i => i
  | k + 1, i => match we i with
    | none => i
    | some j => lvN we k j
abbrev weS (S : St) : Nat → Option Nat := fun i => rcWe (rcs S i)
abbrev live (S : St) (i : Nat) : Nat := lvN (weS S) 20 i
theorem lvN_lt {S : St} (W : Wf S) : ∀ k i, i < nRc S → lvN (weS S) k i < nRc S := by
  intro k
  induction k with
  | zero => intro i hi; exact hi
  | succ k ih =>
    intro i hi
    unfold lvN
    split
    · exact hi
    · rename_i j hj
      exact ih j ((W.2.2.2.2.1 i hi).2 j hj)
theorem live_lt {S : St} (W : Wf S) {i : Nat} (hi : i < nRc S) : live S i < nRc S := lvN_lt W 20 i hi
theorem c_liveOne (G : GC) {h : HP} {S : St} (R : Rep S h) (W : Wf S) {i : Nat} (hi : i < nRc S) : Calls G yX0_liveOne cX0_liveOne 3 (.some (.object "BookplateHall$BookRecord")) 0 0 0 0 [.ref (adR S i)] h (qV (.ref (adR S (live S i))) h) qX := by
  refine Calls_of1 (by decide +kernel) (by simp [cat_rf, cat_ref, cat_int, cat_null]) (by simp) (lv0 := [some (.ref (adR S i)), none, none]) rfl ?_
  intro Z hG hZ hE hN
  subst hG
  refine V_aload_n hZ 0 dX0_liveOne_0 rfl rfl (by first | rfl | exact isR_rf _) ?_
  refine V_astore_n hZ 1 rfl dX0_liveOne_1 (by first | rfl | exact isR_rf _) (by decide) (by first | rfl | simp [okp, cat_rf, cat_ref, cat_int, cat_null]) ?_
  refine V.lvc (by simp only [List.set_cons_zero, List.set_cons_succ, Nat.reduceAdd]; rfl) ?_
  refine V_iconst (v := 0) hZ dX0_liveOne_2 (by decide) ?_
  refine V_istore_n hZ 2 rfl dX0_liveOne_3 (by decide) (by first | rfl | simp [okp, cat_rf, cat_ref, cat_int, cat_null]) ?_
  refine V.lvc (by simp only [List.set_cons_zero, List.set_cons_succ, Nat.reduceAdd]; rfl) ?_
  have key : ∀ m c j, c + m = 20 → j < nRc S → lvN (weS S) m j = live S i → V Z 4 [some (.ref (adR S i)), some (.ref (adR S j)), some (.int (nI c))] [] h 0 0 := by
    intro m
    induction m with
    | zero =>
      intro c j hcm hj hl
      refine V_iload_n hZ 2 dX0_liveOne_4 rfl rfl ?_
      refine V_bipush (v := 20) hZ dX0_liveOne_5 (by decide) ?_
      refine V_icmp_ge (tgt := 28) hZ dX0_liveOne_7 (by decide) (fun c1 => ?_) (fun c1 => ?_)
      · refine V_aload_n hZ 1 dX0_liveOne_28 rfl rfl (by first | rfl | exact isR_rf _) ?_
        refine V_aret hZ hE rfl (by first | rfl | exact isR_rf _) dX0_liveOne_29 (by decide) (by decide) ?_
        exact ⟨by rw [← hl]; rfl, rfl⟩
      · have hc : c = 20 := by omega
        subst hc
        exact absurd (by decide) c1
    | succ m ih =>
      intro c j hcm hj hl
      have hr := R.rec hj
      refine V_iload_n hZ 2 dX0_liveOne_4 rfl rfl ?_
      refine V_bipush (v := 20) hZ dX0_liveOne_5 (by decide) ?_
      refine V_icmp_ge (tgt := 28) hZ dX0_liveOne_7 (by decide) (fun c1 => ?_) (fun c1 => ?_)
      · have c2 : 20 ≤ c := (nI_leI (a := 20) (by decide) (by omega)).mp c1
        omega
      · refine V_aload_n hZ 1 dX0_liveOne_10 rfl rfl (by first | rfl | exact isR_rf _) ?_
        refine V_getfield hZ fl_X0_32.r dX0_liveOne_11 (by assumption) (by rfl) ?_
        cases hw : rcWe (rcs S j) with
        | none =>
          have hl2 : j = live S i := by rw [← hl]; simp [lvN, weS, hw]
          refine V_ifnullN (tgt := 28) hZ dX0_liveOne_14 (by decide) ?_
          refine V_aload_n hZ 1 dX0_liveOne_28 rfl rfl (by first | rfl | exact isR_rf _) ?_
          refine V_aret hZ hE rfl (by first | rfl | exact isR_rf _) dX0_liveOne_29 (by decide) (by decide) ?_
          exact ⟨by rw [hl2], rfl⟩
        | some x =>
          have hl2 : lvN (weS S) m x = live S i := by rw [← hl]; simp [lvN, weS, hw]
          refine V_ifnullR hZ dX0_liveOne_14 ?_
          simp only [oRec, hw] at hr
          refine V_aload_n hZ 1 dX0_liveOne_17 rfl rfl (by first | rfl | exact isR_rf _) ?_
          refine V_getfield hZ fl_X0_32.r dX0_liveOne_18 (by assumption) (by rfl) ?_
          refine V_astore_n hZ 1 rfl dX0_liveOne_21 (by first | rfl | exact isR_rf _) (by decide) (by first | rfl | simp [okp, cat_rf, cat_ref, cat_int, cat_null]) ?_
          refine V.lvc (by simp only [List.set_cons_zero, List.set_cons_succ, Nat.reduceAdd]; rfl) ?_
          refine V_iincv hZ dX0_liveOne_22 rfl (by decide) (by first | rfl | simp [okp, cat_rf, cat_ref, cat_int, cat_null]) (by first | exact nI_inc _ | rfl) ?_
          refine V.lvc (by simp only [List.set_cons_zero, List.set_cons_succ, Nat.reduceAdd]; rfl) ?_
          refine V_goto (tgt := 4) hZ dX0_liveOne_25 (by decide) ?_
          exact ih (c + 1) x (by omega) ((W.2.2.2.2.1 j hj).2 x hw) hl2
  exact key 20 0 i rfl hi rfl

