/-! name, reader, record, copy, lay, meanWaits -/
section
variable {h : HP} {S : St}
theorem wf_addCp (W : Wf S) {q : Nat} {c : Cp} (hn : nCp S < 30) (h1 : cpRc c < nRc S) (h2 : ∀ r, cpRd c = some r → r < nRd S) (h3 : cpPl c = 2 → cpRd c ≠ none) : Wf (addCp S q c) := by
  refine ⟨W.1, W.2.1, hn, W.2.2.2.1, W.2.2.2.2.1, W.2.2.2.2.2.1, fun j hj => ?_⟩
  show cpRc (va_up (cps S) (nCp S) c j) < nRc S ∧ (∀ r, cpRd (va_up (cps S) (nCp S) c j) = some r → r < nRd S) ∧ (cpPl (va_up (cps S) (nCp S) c j) = 2 → cpRd (va_up (cps S) (nCp S) c j) ≠ none)
  by_cases hji : j = nCp S
  · rw [hji, up_eq]; exact ⟨h1, h2, h3⟩
  · rw [up_ne hji]
    have : j < nCp S + 1 := hj
    exact W.2.2.2.2.2.2 j (by omega)
theorem wf_addRd (W : Wf S) {q : Nat} {d : Rd} (hn : nRd S < 8) : Wf (addRd S q d) := by
  refine ⟨W.1, W.2.1, W.2.2.1, hn, W.2.2.2.2.1, fun j hj => ?_, fun j hj => ?_⟩
  · have := W.2.2.2.2.2.1 j hj
    exact ⟨this.1, fun x hx => Nat.lt_succ_of_lt (this.2.1 x hx), this.2.2⟩
  · have := W.2.2.2.2.2.2 j hj
    exact ⟨this.1, fun x hx => Nat.lt_succ_of_lt (this.2.1 x hx), this.2.2⟩
theorem wf_addNm (W : Wf S) {q : Nat} (hn : nNm S < 16) : Wf (addNm S q) := by
  refine ⟨hn, W.2.1, W.2.2.1, W.2.2.2.1, fun j hj => ?_, W.2.2.2.2.2.1, W.2.2.2.2.2.2⟩
  have := W.2.2.2.2.1 j hj
  exact ⟨fun x hx => Nat.lt_succ_of_lt (this.1 x hx), this.2⟩
theorem wf_addRc (W : Wf S) {q q2 q3 : Nat} {r : Rc} (hn : nRc S < 20) (h1 : ∀ j, rcAu r = some j → j < nNm S) (h2 : ∀ j, rcWe r = some j → j < nRc S) : Wf (addRc S q q2 q3 r) := by
  refine ⟨W.1, hn, W.2.2.1, W.2.2.2.1, fun j hj => ?_, fun j hj => ?_, fun j hj => ?_⟩
  · show (∀ k, rcAu (va_up (rcs S) (nRc S) r j) = some k → k < nNm S) ∧ (∀ k, rcWe (va_up (rcs S) (nRc S) r j) = some k → k < nRc S + 1)
    by_cases hji : j = nRc S
    · rw [hji, up_eq]; exact ⟨h1, fun k hk => Nat.lt_succ_of_lt (h2 k hk)⟩
    · rw [up_ne hji]
      have : j < nRc S + 1 := hj
      have := W.2.2.2.2.1 j (by omega)
      exact ⟨this.1, fun k hk => Nat.lt_succ_of_lt (this.2 k hk)⟩
  · show (va_up (lin S) (nRc S) [] j).length ≤ 8 ∧ (∀ x ∈ va_up (lin S) (nRc S) [] j, x < nRd S) ∧ (va_up (lin S) (nRc S) [] j).Nodup
    by_cases hji : j = nRc S
    · rw [hji, up_eq]; exact ⟨Nat.zero_le _, (fun x hx => by cases hx), List.nodup_nil⟩
    · rw [up_ne hji]
      have : j < nRc S + 1 := hj
      exact W.2.2.2.2.2.1 j (by omega)
  · have := W.2.2.2.2.2.2 j hj
    exact ⟨Nat.lt_succ_of_lt this.1, this.2⟩
end
section
variable (G : GC) {h : HP} {S : St}
theorem c_name (R : Rep S h) (W : Wf S) (hn : nNm S < 16) : Calls G yX5_name cX5_name 2 (.some .int) 6 90 1 2 [.ref (aH S)] h (fun v h' => v = some (.int (nI (nNm S))) ∧ ∃ q, Rep (addNm S q) h') qX := by
  have h1 := R.hall
  have h2 := R.names
  refine Calls_of1 (by decide +kernel) (by simp [cat_rf, cat_ref, cat_int, cat_null]) (by simp) (lv0 := [some (.ref (aH S)), none]) rfl ?_
  intro Z hG hZ hE hN
  subst hG
  refine V_aload_n hZ 0 dX5_name_0 rfl rfl (by first | rfl | exact isR_rf _) ?_
  refine V_getfield hZ fl_X5_33.r dX5_name_1 (by assumption) (by rfl) ?_
  refine V_istore_n hZ 1 rfl dX5_name_4 (by decide) (by first | rfl | simp [okp, cat_rf, cat_ref, cat_int, cat_null]) ?_
  refine V.lvc (by simp only [List.set_cons_zero, List.set_cons_succ, Nat.reduceAdd]; rfl) ?_
  refine V_iload_n hZ 1 dX5_name_5 rfl rfl ?_
  refine V_if_lt (tgt := 18) hZ dX5_name_6 (by decide) (fun c1 => ?_) (fun c1 => ?_)
  · exact absurd c1 (nI_pos (by omega))
  · refine V_iload_n hZ 1 dX5_name_9 rfl rfl ?_
    refine V_aload_n hZ 0 dX5_name_10 rfl rfl (by first | rfl | exact isR_rf _) ?_
    refine V_getfield hZ fl_X5_11.r dX5_name_11 (by assumption) (by rfl) ?_
    refine V_alenR hZ dX5_name_14 (by assumption) ?_
    refine V_icmp_lt (tgt := 28) hZ dX5_name_15 (by decide) (fun c2 => ?_) (fun c2 => ?_)
    · refine V_aload_n hZ 0 dX5_name_28 rfl rfl (by first | rfl | exact isR_rf _) ?_
      refine V_getfield hZ fl_X5_11.r dX5_name_29 (by assumption) (by rfl) ?_
      refine V_iload_n hZ 1 dX5_name_32 rfl rfl ?_
      refine V_new hZ nw_X5_9 dX5_name_33 (by decide) (by decide) (fun q hq => ?_)
      refine V_dup hZ dX5_name_36 (by first | rfl | exact cat_rf _) ?_
      refine V_iload_n hZ 1 dX5_name_37 rfl rfl ?_
      have e1 : hup h q (.inr (2, [.int 0, .null])) q = some (.inr (2, [.int 0, .null])) := hup_self _ _ _
      refine V_invI hZ me_X2_init mc_X2_init rfl ml_X5_44 (c_X2_init Z.1 (i := nNm S) e1) dX5_name_38 rfl rfl ⟨by decide, by decide⟩ (by first | decide | (simp [cat_rf, cat_ref, cat_int, cat_null]; done) | (simp [cat_rf, cat_ref, cat_int, cat_null, Value.category]; done)) ⟨by decide, by decide⟩ (fun _ _ hq => hq.elim) ?_
      rintro _ _ ⟨rfl, rfl⟩
      rw [hup_hup]
      have nH := nq_of h1 hq
      have nN := nq_of h2 hq
      have f1 : hup h q (mName (nNm S)) (aNs S) = some (aR RX2 16 (rowf (nNm S) (adN S))) := by rw [hup_ne _ _ nN]; exact h2
      refine V_aastn (r := (RX2, TX2, 2)) hZ dX5_name_41 f1 (hup_self h q (mName (nNm S))) rfl hn (by decide) ?_
      have f2 : hup (hup h q (mName (nNm S))) (aNs S) (aR RX2 16 (va_up (rowf (nNm S) (adN S)) (nNm S) (some q))) (aH S) = some (oHall S) := by rw [hup_ne _ _ (ne_of h1 h2 (by simp [aR])), hup_ne _ _ nH]; exact h1
      refine V_aload_n hZ 0 dX5_name_42 rfl rfl (by first | rfl | exact isR_rf _) ?_
      refine V_iload_n hZ 1 dX5_name_43 rfl rfl ?_
      refine V_iconst (v := 1) hZ dX5_name_44 (by decide) ?_
      refine V_iadd hZ dX5_name_45 ?_
      rw [nI_1]
      refine V_putfield hZ fl_X5_33 dX5_name_46 (by first | assumption | exact hup_self _ _ _) (by first | rfl | exact nar_rf _ _) (by first | rfl | exact fits_rf _ _) (by simp) ?_
      refine V_iload_n hZ 1 dX5_name_49 rfl rfl ?_
      refine V_iret hZ hE rfl (by rfl) dX5_name_50 (by decide) (by decide) ?_
      exact ⟨rfl, q, rep_addNm R W hq⟩
    · have c3 : ¬ nI (nNm S) < nI 16 := c2
      exact absurd (nI_lt hn (by decide)) c3
theorem c_reader (R : Rep S h) (W : Wf S) (hn : nRd S < 8) {k : Nat} (hk : k ≤ 1) : Calls G yX5_reader cX5_reader 3 (.some .int) 7 112 1 3 [.ref (aH S), .int (nI k)] h (fun v h' => v = some (.int (nI (nRd S))) ∧ ∃ q, Rep (addRd S q (nI k, 0)) h') qX := by
  have h1 := R.hall
  have h2 := R.readers
  refine Calls_of1 (by decide +kernel) (by simp [cat_rf, cat_ref, cat_int, cat_null]) (by simp) (lv0 := [some (.ref (aH S)), some (.int (nI k)), none]) rfl ?_
  intro Z hG hZ hE hN
  subst hG
  refine V_iload_n hZ 1 dX5_reader_0 rfl rfl ?_
  refine V_iconst (v := 0) hZ dX5_reader_1 (by decide) ?_
  refine V_iconst (v := 1) hZ dX5_reader_2 (by decide) ?_
  refine V_invS hZ me_X5_requireBetween ms_X5_requireBetween ml_X5_71 (c_requireBetween Z.1 h (no_lt0 (by omega)) (no_gt (m := 1) hk (by decide))) dX5_reader_3 rfl rfl ⟨by decide, by decide⟩ (by first | decide | (simp [cat_rf, cat_ref, cat_int, cat_null]; done) | (simp [cat_rf, cat_ref, cat_int, cat_null, Value.category]; done)) ⟨by decide, by decide⟩ (fun _ _ hq => hq.elim) ?_
  rintro _ h ⟨rfl, rfl⟩
  refine V_aload_n hZ 0 dX5_reader_6 rfl rfl (by first | rfl | exact isR_rf _) ?_
  refine V_getfield hZ fl_X5_156.r dX5_reader_7 (by assumption) (by rfl) ?_
  refine V_istore_n hZ 2 rfl dX5_reader_10 (by decide) (by first | rfl | simp [okp, cat_rf, cat_ref, cat_int, cat_null]) ?_
  refine V.lvc (by simp only [List.set_cons_zero, List.set_cons_succ, Nat.reduceAdd]; rfl) ?_
  refine V_iload_n hZ 2 dX5_reader_11 rfl rfl ?_
  refine V_if_lt (tgt := 24) hZ dX5_reader_12 (by decide) (fun c1 => ?_) (fun c1 => ?_)
  · exact absurd c1 (nI_pos (by omega))
  · refine V_iload_n hZ 2 dX5_reader_15 rfl rfl ?_
    refine V_aload_n hZ 0 dX5_reader_16 rfl rfl (by first | rfl | exact isR_rf _) ?_
    refine V_getfield hZ fl_X5_29.r dX5_reader_17 (by assumption) (by rfl) ?_
    refine V_alenR hZ dX5_reader_20 (by assumption) ?_
    refine V_icmp_lt (tgt := 34) hZ dX5_reader_21 (by decide) (fun c2 => ?_) (fun c2 => ?_)
    · refine V_aload_n hZ 0 dX5_reader_34 rfl rfl (by first | rfl | exact isR_rf _) ?_
      refine V_getfield hZ fl_X5_29.r dX5_reader_35 (by assumption) (by rfl) ?_
      refine V_iload_n hZ 2 dX5_reader_38 rfl rfl ?_
      refine V_new hZ nw_X5_27 dX5_reader_39 (by decide) (by decide) (fun q hq => ?_)
      refine V_dup hZ dX5_reader_42 (by first | rfl | exact cat_rf _) ?_
      refine V_iload_n hZ 2 dX5_reader_43 rfl rfl ?_
      refine V_iload_n hZ 1 dX5_reader_44 rfl rfl ?_
      have e1 : hup h q (.inr (3, [.int 0, .int 0, .int 0])) q = some (.inr (3, [.int 0, .int 0, .int 0])) := hup_self _ _ _
      refine V_invI hZ me_X3_init mc_X3_init rfl ml_X5_161 (c_X3_init Z.1 (i := nRd S) e1) dX5_reader_45 rfl rfl ⟨by decide, by decide⟩ (by first | decide | (simp [cat_rf, cat_ref, cat_int, cat_null]; done) | (simp [cat_rf, cat_ref, cat_int, cat_null, Value.category]; done)) ⟨by decide, by decide⟩ (fun _ _ hq => hq.elim) ?_
      rintro _ _ ⟨rfl, rfl⟩
      rw [hup_hup]
      have nH := nq_of h1 hq
      have nN := nq_of h2 hq
      have f1 : hup h q (mRdr (nRd S) (nI k) 0) (aDs S) = some (aR RX3 8 (rowf (nRd S) (adD S))) := by rw [hup_ne _ _ nN]; exact h2
      refine V_aastn (r := (RX3, TX3, 3)) hZ dX5_reader_48 f1 (hup_self h q (mRdr (nRd S) (nI k) 0)) rfl hn (by decide) ?_
      have f2 : hup (hup h q (mRdr (nRd S) (nI k) 0)) (aDs S) (aR RX3 8 (va_up (rowf (nRd S) (adD S)) (nRd S) (some q))) (aH S) = some (oHall S) := by rw [hup_ne _ _ (ne_of h1 h2 (by simp [aR])), hup_ne _ _ nH]; exact h1
      refine V_aload_n hZ 0 dX5_reader_49 rfl rfl (by first | rfl | exact isR_rf _) ?_
      refine V_iload_n hZ 2 dX5_reader_50 rfl rfl ?_
      refine V_iconst (v := 1) hZ dX5_reader_51 (by decide) ?_
      refine V_iadd hZ dX5_reader_52 ?_
      rw [nI_1]
      refine V_putfield hZ fl_X5_156 dX5_reader_53 (by first | assumption | exact hup_self _ _ _) (by first | rfl | exact nar_rf _ _) (by first | rfl | exact fits_rf _ _) (by simp) ?_
      refine V_iload_n hZ 2 dX5_reader_56 rfl rfl ?_
      refine V_iret hZ hE rfl (by rfl) dX5_reader_57 (by decide) (by decide) ?_
      exact ⟨rfl, q, rep_addRd R W hq (nI k, 0)⟩
    · have c3 : ¬ nI (nRd S) < nI 8 := c2
      exact absurd (nI_lt hn (by decide)) c3
theorem c_knownNameOrNull (R : Rep S h) (W : Wf S) {o : Option Nat} (ho : ∀ x, o = some x → x < nNm S) : Calls G yX5_knownNameOrNull cX5_knownNameOrNull 2 (.some (.object "BookplateHall$Name")) 7 112 0 0 [.ref (aH S), .int (orN o)] h (qV (va_rf (o.map (adN S))) h) qX := by
  have h1 := R.hall
  refine Calls_of1 (by decide +kernel) (by simp [cat_rf, cat_ref, cat_int, cat_null]) (by simp) (lv0 := [some (.ref (aH S)), some (.int (orN o))]) rfl ?_
  intro Z hG hZ hE hN
  subst hG
  refine V_iload_n hZ 1 dX5_knownNameOrNull_0 rfl rfl ?_
  refine V_iconst (v := -1) hZ dX5_knownNameOrNull_1 (by decide) ?_
  cases o with
  | none =>
    refine V_icmp_ne (tgt := 9) hZ dX5_knownNameOrNull_2 (by decide) (fun c1 => ?_) (fun c1 => ?_)
    · exact absurd rfl c1
    · refine V_null hZ dX5_knownNameOrNull_5 ?_
      refine V_goto (tgt := 14) hZ dX5_knownNameOrNull_6 (by decide) ?_
      refine V_aret hZ hE rfl (by first | rfl | exact isR_rf _) dX5_knownNameOrNull_14 (by decide) (by decide) ?_
      exact ⟨rfl, rfl⟩
  | some x =>
    have hx := ho x rfl
    have hb := W.1
    refine V_icmp_ne (tgt := 9) hZ dX5_knownNameOrNull_2 (by decide) (fun c1 => ?_) (fun c1 => ?_)
    · refine V_aload_n hZ 0 dX5_knownNameOrNull_9 rfl rfl (by first | rfl | exact isR_rf _) ?_
      refine V_iload_n hZ 1 dX5_knownNameOrNull_10 rfl rfl ?_
      refine V_invVp hZ me_X5_knownName mi_X5_knownName ml_X5_47 (c_knownName Z.1 R W hx) dX5_knownNameOrNull_11 rfl rfl (by assumption) rfl rfl ⟨by decide, by decide⟩ (by first | decide | (simp [cat_rf, cat_ref, cat_int, cat_null]; done) | (simp [cat_rf, cat_ref, cat_int, cat_null, Value.category]; done)) ⟨by decide, by decide⟩ ?_
      refine V_aret hZ hE rfl (by first | rfl | exact isR_rf _) dX5_knownNameOrNull_14 (by decide) (by decide) ?_
      exact ⟨rfl, rfl⟩
    · have c2 : nI x = -1 := c1
      exact absurd (show nI x < 0 by rw [c2]; decide) (nI_pos (by omega))
theorem c_record (R : Rep S h) (W : Wf S) (hn : nRc S < 20) {o : Option Nat} (ho : ∀ x, o = some x → x < nNm S) {t y : Nat} (ht1 : 1 ≤ t) (ht2 : t ≤ 4095) (hy : y ≤ 99) : Calls G yX5_record cX5_record 6 (.some .int) 8 133 3 17 [.ref (aH S), .int (orN o), .int (nI t), .int (nI y)] h (fun v h' => v = some (.int (nI (nRc S))) ∧ ∃ q q2 q3, Rep (addRc S q q2 q3 (o, nI t, nI y, none, 0)) h') qX := by
  have h1 := R.hall
  have h2 := R.records
  refine Calls_of1 (by decide +kernel) (by simp [cat_rf, cat_ref, cat_int, cat_null]) (by simp) (lv0 := [some (.ref (aH S)), some (.int (orN o)), some (.int (nI t)), some (.int (nI y)), none, none]) rfl ?_
  intro Z hG hZ hE hN
  subst hG
  refine V_aload_n hZ 0 dX5_record_0 rfl rfl (by first | rfl | exact isR_rf _) ?_
  refine V_iload_n hZ 1 dX5_record_1 rfl rfl ?_
  refine V_invVp hZ me_X5_knownNameOrNull mi_X5_knownNameOrNull ml_X5_68 (c_knownNameOrNull Z.1 R W ho) dX5_record_2 rfl rfl (by assumption) rfl rfl ⟨by decide, by decide⟩ (by first | decide | (simp [cat_rf, cat_ref, cat_int, cat_null]; done) | (simp [cat_rf, cat_ref, cat_int, cat_null, Value.category]; done)) ⟨by decide, by decide⟩ ?_
  refine V_astore hZ dX5_record_5 (by first | rfl | exact isR_rf _) (by decide) (by first | rfl | simp [okp, cat_rf, cat_ref, cat_int, cat_null]) ?_
  refine V.lvc (by simp only [List.set_cons_zero, List.set_cons_succ, Nat.reduceAdd]; rfl) ?_
  refine V_iload_n hZ 2 dX5_record_7 rfl rfl ?_
  refine V_iconst (v := 1) hZ dX5_record_8 (by decide) ?_
  refine V_sipush (v := 4095) hZ dX5_record_9 (by decide) ?_
  refine V_invS hZ me_X5_requireBetween ms_X5_requireBetween ml_X5_71 (c_requireBetween Z.1 h (no_gt (m := t) (k := 1) (by omega) (by omega)) (no_gt (m := 4095) (by omega) (by decide))) dX5_record_12 rfl rfl ⟨by decide, by decide⟩ (by first | decide | (simp [cat_rf, cat_ref, cat_int, cat_null]; done) | (simp [cat_rf, cat_ref, cat_int, cat_null, Value.category]; done)) ⟨by decide, by decide⟩ (fun _ _ hq => hq.elim) ?_
  rintro _ h ⟨rfl, rfl⟩
  refine V_iload_n hZ 3 dX5_record_15 rfl rfl ?_
  refine V_iconst (v := 0) hZ dX5_record_16 (by decide) ?_
  refine V_bipush (v := 99) hZ dX5_record_17 (by decide) ?_
  refine V_invS hZ me_X5_requireBetween ms_X5_requireBetween ml_X5_71 (c_requireBetween Z.1 h (no_lt0 (by omega)) (no_gt (m := 99) (by omega) (by decide))) dX5_record_19 rfl rfl ⟨by decide, by decide⟩ (by first | decide | (simp [cat_rf, cat_ref, cat_int, cat_null]; done) | (simp [cat_rf, cat_ref, cat_int, cat_null, Value.category]; done)) ⟨by decide, by decide⟩ (fun _ _ hq => hq.elim) ?_
  rintro _ h ⟨rfl, rfl⟩
  refine V_aload_n hZ 0 dX5_record_22 rfl rfl (by first | rfl | exact isR_rf _) ?_
  refine V_getfield hZ fl_X5_75.r dX5_record_23 (by assumption) (by rfl) ?_
  refine V_istore hZ dX5_record_26 (by decide) (by first | rfl | simp [okp, cat_rf, cat_ref, cat_int, cat_null]) ?_
  refine V.lvc (by simp only [List.set_cons_zero, List.set_cons_succ, Nat.reduceAdd]; rfl) ?_
  refine V_iload hZ dX5_record_28 rfl ?_
  refine V_if_lt (tgt := 43) hZ dX5_record_30 (by decide) (fun c1 => ?_) (fun c1 => ?_)
  · exact absurd c1 (nI_pos (by omega))
  · refine V_iload hZ dX5_record_33 rfl ?_
    refine V_aload_n hZ 0 dX5_record_35 rfl rfl (by first | rfl | exact isR_rf _) ?_
    refine V_getfield hZ fl_X5_17.r dX5_record_36 (by assumption) (by rfl) ?_
    refine V_alenR hZ dX5_record_39 (by assumption) ?_
    refine V_icmp_lt (tgt := 53) hZ dX5_record_40 (by decide) (fun c2 => ?_) (fun c2 => ?_)
    · refine V_aload_n hZ 0 dX5_record_53 rfl rfl (by first | rfl | exact isR_rf _) ?_
      refine V_getfield hZ fl_X5_17.r dX5_record_54 (by assumption) (by rfl) ?_
      refine V_iload hZ dX5_record_57 rfl ?_
      refine V_new hZ nw_X5_15 dX5_record_59 (by decide) (by decide) (fun q hq => ?_)
      refine V_dup hZ dX5_record_62 (by first | rfl | exact cat_rf _) ?_
      refine V_iload hZ dX5_record_63 rfl ?_
      refine V_aload hZ dX5_record_65 rfl (by first | rfl | exact isR_rf _) ?_
      refine V_iload_n hZ 2 dX5_record_67 rfl rfl ?_
      refine V_iload_n hZ 3 dX5_record_68 rfl rfl ?_
      have e1 : hup h q (.inr (0, [.int 0, .null, .int 0, .int 0, .null, .null, .int 0])) q = some (.inr (0, [.int 0, .null, .int 0, .int 0, .null, .null, .int 0])) := hup_self _ _ _
      refine V_invI hZ me_X0_init mc_X0_init rfl ml_X5_80 (c_X0_init Z.1 (i := nRc S) (au := o.map (adN S)) (ti := nI t) (ye := nI y) e1) dX5_record_69 rfl rfl ⟨by decide, by decide⟩ (by first | decide | (simp [cat_rf, cat_ref, cat_int, cat_null]; done) | (simp [cat_rf, cat_ref, cat_int, cat_null, Value.category]; done)) ⟨by decide, by decide⟩ (fun _ _ hq => hq.elim) ?_
      rintro _ _ ⟨rfl, q2, q3, hq2, hq3, n23, rfl⟩
      obtain ⟨n2, hq2⟩ := hup_none hq2
      obtain ⟨n3, hq3⟩ := hup_none hq3
      rw [hup_comm h (Ne.symm n3), hup_comm _ (Ne.symm n2), hup_hup]
      generalize hm : hup (hup (hup h q3 (aR RX3 8 (lnf [] (fun _ => 0)))) q2 (mLine q3 0)) q (mRec (nRc S) (o.map (adN S)) (nI t) (nI y) q2 none 0) = g
      have kg : ∀ {a : Nat} {x : ME}, h a = some x → g a = some x := by
        intro a x ha
        rw [← hm, hup_ne _ _ (nq_of ha hq), hup_ne _ _ (nq_of ha hq2), hup_ne _ _ (nq_of ha hq3)]
        exact ha
      have f0 : g q = some (mRec (nRc S) (o.map (adN S)) (nI t) (nI y) q2 none 0) := by rw [← hm, hup_self]
      refine V_aastn (r := (RX0, TX0, 7)) hZ dX5_record_72 (kg h2) f0 rfl hn (by decide) ?_
      have f2 : hup g (aRs S) (aR RX0 20 (va_up (rowf (nRc S) (adR S)) (nRc S) (some q))) (aH S) = some (oHall S) := by rw [hup_ne _ _ (ne_of h1 h2 (by simp [aR]))]; exact kg h1
      refine V_aload_n hZ 0 dX5_record_73 rfl rfl (by first | rfl | exact isR_rf _) ?_
      refine V_iload hZ dX5_record_74 rfl ?_
      refine V_iconst (v := 1) hZ dX5_record_76 (by decide) ?_
      refine V_iadd hZ dX5_record_77 ?_
      rw [nI_1]
      refine V_putfield hZ fl_X5_75 dX5_record_78 (by first | assumption | exact hup_self _ _ _) (by first | rfl | exact nar_rf _ _) (by first | rfl | exact fits_rf _ _) (by simp) ?_
      refine V_iload hZ dX5_record_81 rfl ?_
      refine V_iret hZ hE rfl (by rfl) dX5_record_83 (by decide) (by decide) ?_
      have R2 := rep_addRc R W hq hq2 hq3 (Ne.symm n2) (Ne.symm n3) n23 (o, nI t, nI y, none, 0) (fun j hj => by cases hj)
      refine ⟨rfl, q, q2, q3, ?_⟩
      rw [← hm]
      exact R2
    · have c3 : ¬ nI (nRc S) < nI 20 := c2
      exact absurd (nI_lt hn (by decide)) c3
theorem t_record (R : Rep S h) (W : Wf S) (hn : nRc S = 20) {o : Option Nat} (ho : ∀ x, o = some x → x < nNm S) {t y : Nat} (ht1 : 1 ≤ t) (ht2 : t ≤ 4095) (hy : y ≤ 99) : Calls G yX5_record cX5_record 6 (.some .int) 8 133 1 6 [.ref (aH S), .int (orN o), .int (nI t), .int (nI y)] h qF (qT eIS h) := by
  have h1 := R.hall
  have h2 := R.records
  refine Calls_of1 (by decide +kernel) (by simp [cat_rf, cat_ref, cat_int, cat_null]) (by simp) (lv0 := [some (.ref (aH S)), some (.int (orN o)), some (.int (nI t)), some (.int (nI y)), none, none]) rfl ?_
  intro Z hG hZ hE hN
  subst hG
  refine V_aload_n hZ 0 dX5_record_0 rfl rfl (by first | rfl | exact isR_rf _) ?_
  refine V_iload_n hZ 1 dX5_record_1 rfl rfl ?_
  refine V_invVp hZ me_X5_knownNameOrNull mi_X5_knownNameOrNull ml_X5_68 (c_knownNameOrNull Z.1 R W ho) dX5_record_2 rfl rfl (by assumption) rfl rfl ⟨by decide, by decide⟩ (by first | decide | (simp [cat_rf, cat_ref, cat_int, cat_null]; done) | (simp [cat_rf, cat_ref, cat_int, cat_null, Value.category]; done)) ⟨by decide, by decide⟩ ?_
  refine V_astore hZ dX5_record_5 (by first | rfl | exact isR_rf _) (by decide) (by first | rfl | simp [okp, cat_rf, cat_ref, cat_int, cat_null]) ?_
  refine V.lvc (by simp only [List.set_cons_zero, List.set_cons_succ, Nat.reduceAdd]; rfl) ?_
  refine V_iload_n hZ 2 dX5_record_7 rfl rfl ?_
  refine V_iconst (v := 1) hZ dX5_record_8 (by decide) ?_
  refine V_sipush (v := 4095) hZ dX5_record_9 (by decide) ?_
  refine V_invS hZ me_X5_requireBetween ms_X5_requireBetween ml_X5_71 (c_requireBetween Z.1 h (no_gt (m := t) (k := 1) (by omega) (by omega)) (no_gt (m := 4095) (by omega) (by decide))) dX5_record_12 rfl rfl ⟨by decide, by decide⟩ (by first | decide | (simp [cat_rf, cat_ref, cat_int, cat_null]; done) | (simp [cat_rf, cat_ref, cat_int, cat_null, Value.category]; done)) ⟨by decide, by decide⟩ (fun _ _ hq => hq.elim) ?_
  rintro _ h ⟨rfl, rfl⟩
  refine V_iload_n hZ 3 dX5_record_15 rfl rfl ?_
  refine V_iconst (v := 0) hZ dX5_record_16 (by decide) ?_
  refine V_bipush (v := 99) hZ dX5_record_17 (by decide) ?_
  refine V_invS hZ me_X5_requireBetween ms_X5_requireBetween ml_X5_71 (c_requireBetween Z.1 h (no_lt0 (by omega)) (no_gt (m := 99) (by omega) (by decide))) dX5_record_19 rfl rfl ⟨by decide, by decide⟩ (by first | decide | (simp [cat_rf, cat_ref, cat_int, cat_null]; done) | (simp [cat_rf, cat_ref, cat_int, cat_null, Value.category]; done)) ⟨by decide, by decide⟩ (fun _ _ hq => hq.elim) ?_
  rintro _ h ⟨rfl, rfl⟩
  refine V_aload_n hZ 0 dX5_record_22 rfl rfl (by first | rfl | exact isR_rf _) ?_
  refine V_getfield hZ fl_X5_75.r dX5_record_23 (by assumption) (by rfl) ?_
  refine V_istore hZ dX5_record_26 (by decide) (by first | rfl | simp [okp, cat_rf, cat_ref, cat_int, cat_null]) ?_
  refine V.lvc (by simp only [List.set_cons_zero, List.set_cons_succ, Nat.reduceAdd]; rfl) ?_
  refine V_iload hZ dX5_record_28 rfl ?_
  refine V_if_lt (tgt := 43) hZ dX5_record_30 (by decide) (fun c1 => ?_) (fun c1 => ?_)
  · exact absurd c1 (nI_pos (by omega))
  · refine V_iload hZ dX5_record_33 rfl ?_
    refine V_aload_n hZ 0 dX5_record_35 rfl rfl (by first | rfl | exact isR_rf _) ?_
    refine V_getfield hZ fl_X5_17.r dX5_record_36 (by assumption) (by rfl) ?_
    refine V_alenR hZ dX5_record_39 (by assumption) ?_
    refine V_icmp_lt (tgt := 53) hZ dX5_record_40 (by decide) (fun c2 => ?_) (fun c2 => ?_)
    · have c3 : nI (nRc S) < nI 20 := c2
      exact absurd c3 (nI_nlt (by omega) (by omega))
    · refine V_throw hZ hE hN tw_37_78_41 dX5_record_43 dX5_record_46 dX5_record_47 dX5_record_49 dX5_record_52 (by decide) (by first | decide | (simp [cat_rf, cat_ref, cat_int, cat_null]; done) | (simp [cat_rf, cat_ref, cat_int, cat_null, Value.category]; done)) (by decide) (by decide) ?_
      exact ⟨rfl, rfl⟩
abbrev newC (i : Nat) (pr : Int32) : Cp := (pr, i, 0, none, -1, 0, 0)
theorem c_copy (R : Rep S h) (W : Wf S) (hn : nCp S < 30) {i p : Nat} (hi : i < nRc S) (hl : rcWe (rcs S i) = none) (hp1 : 1 ≤ p) (hp2 : p ≤ 200) : Calls G yX5_copy cX5_copy 6 (.some .int) 7 112 1 8 [.ref (aH S), .int (nI i), .int (nI p)] h (fun v h' => v = some (.int (nI (nCp S))) ∧ ∃ q, Rep (freeS (addCp S q (newC i (nI p))) (nCp S)) h' ∧ Wf (addCp S q (newC i (nI p)))) qX := by
  have h1 := R.hall
  have h2 := R.copies
  have h3 := R.rec hi
  refine Calls_of1 (by decide +kernel) (by simp [cat_rf, cat_ref, cat_int, cat_null]) (by simp) (lv0 := [some (.ref (aH S)), some (.int (nI i)), some (.int (nI p)), none, none, none]) rfl ?_
  intro Z hG hZ hE hN
  subst hG
  refine V_aload_n hZ 0 dX5_copy_0 rfl rfl (by first | rfl | exact isR_rf _) ?_
  refine V_iload_n hZ 1 dX5_copy_1 rfl rfl ?_
  refine V_invVp hZ me_X5_knownRecord mi_X5_knownRecord ml_X5_83 (c_knownRecord Z.1 R W hi) dX5_copy_2 rfl rfl (by assumption) rfl rfl ⟨by decide, by decide⟩ (by first | decide | (simp [cat_rf, cat_ref, cat_int, cat_null]; done) | (simp [cat_rf, cat_ref, cat_int, cat_null, Value.category]; done)) ⟨by decide, by decide⟩ ?_
  refine V_astore_n hZ 3 rfl dX5_copy_5 (by first | rfl | exact isR_rf _) (by decide) (by first | rfl | simp [okp, cat_rf, cat_ref, cat_int, cat_null]) ?_
  refine V.lvc (by simp only [List.set_cons_zero, List.set_cons_succ, Nat.reduceAdd]; rfl) ?_
  refine V_iload_n hZ 2 dX5_copy_6 rfl rfl ?_
  refine V_iconst (v := 1) hZ dX5_copy_7 (by decide) ?_
  refine V_sipush (v := 200) hZ dX5_copy_8 (by decide) ?_
  refine V_invS hZ me_X5_requireBetween ms_X5_requireBetween ml_X5_71 (c_requireBetween Z.1 h (no_gt (m := p) (k := 1) (by omega) (by omega)) (no_gt (m := 200) (by omega) (by decide))) dX5_copy_11 rfl rfl ⟨by decide, by decide⟩ (by first | decide | (simp [cat_rf, cat_ref, cat_int, cat_null]; done) | (simp [cat_rf, cat_ref, cat_int, cat_null, Value.category]; done)) ⟨by decide, by decide⟩ (fun _ _ hq => hq.elim) ?_
  rintro _ h ⟨rfl, rfl⟩
  refine V_aload_n hZ 0 dX5_copy_14 rfl rfl (by first | rfl | exact isR_rf _) ?_
  refine V_getfield hZ fl_X5_136.r dX5_copy_15 (by assumption) (by rfl) ?_
  refine V_istore hZ dX5_copy_18 (by decide) (by first | rfl | simp [okp, cat_rf, cat_ref, cat_int, cat_null]) ?_
  refine V.lvc (by simp only [List.set_cons_zero, List.set_cons_succ, Nat.reduceAdd]; rfl) ?_
  refine V_aload_n hZ 3 dX5_copy_20 rfl rfl (by first | rfl | exact isR_rf _) ?_
  refine V_invVp hZ me_X0_isLive mi_X0_isLive ml_X5_99 (c_isLive Z.1 h h3) dX5_copy_21 rfl rfl (by assumption) rfl rfl ⟨by decide, by decide⟩ (by first | decide | (simp [cat_rf, cat_ref, cat_int, cat_null]; done) | (simp [cat_rf, cat_ref, cat_int, cat_null, Value.category]; done)) ⟨by decide, by decide⟩ ?_
  refine V_if_eq (tgt := 42) hZ dX5_copy_24 (by decide) (fun c0 => ?_) (fun c0 => ?_)
  · exact absurd c0 (by simp [b01, hl])
  · refine V_iload hZ dX5_copy_27 rfl ?_
    refine V_if_lt (tgt := 42) hZ dX5_copy_29 (by decide) (fun c1 => ?_) (fun c1 => ?_)
    · exact absurd c1 (nI_pos (by omega))
    · refine V_iload hZ dX5_copy_32 rfl ?_
      refine V_aload_n hZ 0 dX5_copy_34 rfl rfl (by first | rfl | exact isR_rf _) ?_
      refine V_getfield hZ fl_X5_23.r dX5_copy_35 (by assumption) (by rfl) ?_
      refine V_alenR hZ dX5_copy_38 (by assumption) ?_
      refine V_icmp_lt (tgt := 52) hZ dX5_copy_39 (by decide) (fun c2 => ?_) (fun c2 => ?_)
      · refine V_new hZ nw_X5_21 dX5_copy_52 (by decide) (by decide) (fun q hq => ?_)
        refine V_dup hZ dX5_copy_55 (by first | rfl | exact cat_rf _) ?_
        refine V_iload hZ dX5_copy_56 rfl ?_
        refine V_aload_n hZ 3 dX5_copy_58 rfl rfl (by first | rfl | exact isR_rf _) ?_
        refine V_iload_n hZ 2 dX5_copy_59 rfl rfl ?_
        have e1 : hup h q (.inr (1, [.int 0, .int 0, .null, .int 0, .null, .int 0, .int 0, .int 0])) q = some (.inr (1, [.int 0, .int 0, .null, .int 0, .null, .int 0, .int 0, .int 0])) := hup_self _ _ _
        refine V_invI hZ me_X1_init mc_X1_init rfl ml_X5_141 (c_X1_init Z.1 (i := nCp S) (rc := adR S i) (pr := nI p) e1) dX5_copy_60 rfl rfl ⟨by decide, by decide⟩ (by first | decide | (simp [cat_rf, cat_ref, cat_int, cat_null]; done) | (simp [cat_rf, cat_ref, cat_int, cat_null, Value.category]; done)) ⟨by decide, by decide⟩ (fun _ _ hq => hq.elim) ?_
        rintro _ _ ⟨rfl, rfl⟩
        rw [hup_hup]
        have nH := nq_of h1 hq
        have nN := nq_of h2 hq
        have f0 : hup h q (mCopy (nCp S) (nI p) (adR S i) 0 none (-1) 0 0) (aH S) = some (oHall S) := by rw [hup_ne _ _ nH]; exact h1
        have f1 : hup h q (mCopy (nCp S) (nI p) (adR S i) 0 none (-1) 0 0) (aCs S) = some (aR RX1 30 (rowf (nCp S) (adC S))) := by rw [hup_ne _ _ nN]; exact h2
        refine V_astore hZ dX5_copy_63 (by first | rfl | exact isR_rf _) (by decide) (by first | rfl | simp [okp, cat_rf, cat_ref, cat_int, cat_null]) ?_
        refine V.lvc (by simp only [List.set_cons_zero, List.set_cons_succ, Nat.reduceAdd]; rfl) ?_
        refine V_aload_n hZ 0 dX5_copy_65 rfl rfl (by first | rfl | exact isR_rf _) ?_
        refine V_getfield hZ fl_X5_23.r dX5_copy_66 (by assumption) (by rfl) ?_
        refine V_iload hZ dX5_copy_69 rfl ?_
        refine V_aload hZ dX5_copy_71 rfl (by first | rfl | exact isR_rf _) ?_
        refine V_aastn (r := (RX1, TX1, 8)) hZ dX5_copy_73 f1 (hup_self h q (mCopy (nCp S) (nI p) (adR S i) 0 none (-1) 0 0)) rfl hn (by decide) ?_
        have f2 : hup (hup h q (mCopy (nCp S) (nI p) (adR S i) 0 none (-1) 0 0)) (aCs S) (aR RX1 30 (va_up (rowf (nCp S) (adC S)) (nCp S) (some q))) (aH S) = some (oHall S) := by rw [hup_ne _ _ (ne_of h1 h2 (by simp [aR]))]; exact f0
        refine V_aload_n hZ 0 dX5_copy_74 rfl rfl (by first | rfl | exact isR_rf _) ?_
        refine V_iload hZ dX5_copy_75 rfl ?_
        refine V_iconst (v := 1) hZ dX5_copy_77 (by decide) ?_
        refine V_iadd hZ dX5_copy_78 ?_
        rw [nI_1]
        refine V_putfield hZ fl_X5_136 dX5_copy_79 (by first | assumption | exact hup_self _ _ _) (by first | rfl | exact nar_rf _ _) (by first | rfl | exact fits_rf _ _) (by simp) ?_
        have R2 := rep_addCp R W hq (newC i (nI p))
        have W2 : Wf (addCp S q (newC i (nI p))) := wf_addCp W hn hi (fun r hr => by cases hr) (fun z => by cases z)
        have f3 := R2.hall
        refine V_aload_n hZ 0 dX5_copy_82 rfl rfl (by first | rfl | exact isR_rf _) ?_
        refine V_aload hZ dX5_copy_83 rfl (by first | rfl | exact isR_rf _) ?_
        refine V.stc (st' := [.ref (adC (addCp S q (newC i (nI p))) (nCp S)), .ref (aH S)]) (by show [Value.ref q, .ref (aH S)] = [.ref (va_up (adC S) (nCp S) q (nCp S)), .ref (aH S)]; rw [up_eq]) ?_
        refine V_invV hZ me_X5_free mi_X5_free ml_X5_144 (c_free Z.1 R2 W2 (i := nCp S) (Nat.lt_succ_self _)) dX5_copy_85 rfl rfl (by assumption) rfl rfl ⟨by decide, by decide⟩ (by first | decide | (simp [cat_rf, cat_ref, cat_int, cat_null]; done) | (simp [cat_rf, cat_ref, cat_int, cat_null, Value.category]; done)) ⟨by decide, by decide⟩ (fun _ _ hq => hq.elim) ?_
        rintro _ g' ⟨rfl, R3⟩
        refine V_iload hZ dX5_copy_88 rfl ?_
        refine V_iret hZ hE rfl (by rfl) dX5_copy_90 (by decide) (by decide) ?_
        exact ⟨rfl, q, R3, W2⟩
      · have c3 : ¬ nI (nCp S) < nI 30 := c2
        exact absurd (nI_lt hn (by decide)) c3
theorem t_copy (R : Rep S h) (W : Wf S) {i p : Nat} (hi : i < nRc S) (hl : ¬ rcWe (rcs S i) = none ∨ nCp S = 30) (hp1 : 1 ≤ p) (hp2 : p ≤ 200) : Calls G yX5_copy cX5_copy 6 (.some .int) 7 112 1 6 [.ref (aH S), .int (nI i), .int (nI p)] h qF (qT eIS h) := by
  have h1 := R.hall
  have h2 := R.copies
  have h3 := R.rec hi
  have hb := W.2.2.1
  refine Calls_of1 (by decide +kernel) (by simp [cat_rf, cat_ref, cat_int, cat_null]) (by simp) (lv0 := [some (.ref (aH S)), some (.int (nI i)), some (.int (nI p)), none, none, none]) rfl ?_
  intro Z hG hZ hE hN
  subst hG
  refine V_aload_n hZ 0 dX5_copy_0 rfl rfl (by first | rfl | exact isR_rf _) ?_
  refine V_iload_n hZ 1 dX5_copy_1 rfl rfl ?_
  refine V_invVp hZ me_X5_knownRecord mi_X5_knownRecord ml_X5_83 (c_knownRecord Z.1 R W hi) dX5_copy_2 rfl rfl (by assumption) rfl rfl ⟨by decide, by decide⟩ (by first | decide | (simp [cat_rf, cat_ref, cat_int, cat_null]; done) | (simp [cat_rf, cat_ref, cat_int, cat_null, Value.category]; done)) ⟨by decide, by decide⟩ ?_
  refine V_astore_n hZ 3 rfl dX5_copy_5 (by first | rfl | exact isR_rf _) (by decide) (by first | rfl | simp [okp, cat_rf, cat_ref, cat_int, cat_null]) ?_
  refine V.lvc (by simp only [List.set_cons_zero, List.set_cons_succ, Nat.reduceAdd]; rfl) ?_
  refine V_iload_n hZ 2 dX5_copy_6 rfl rfl ?_
  refine V_iconst (v := 1) hZ dX5_copy_7 (by decide) ?_
  refine V_sipush (v := 200) hZ dX5_copy_8 (by decide) ?_
  refine V_invS hZ me_X5_requireBetween ms_X5_requireBetween ml_X5_71 (c_requireBetween Z.1 h (no_gt (m := p) (k := 1) (by omega) (by omega)) (no_gt (m := 200) (by omega) (by decide))) dX5_copy_11 rfl rfl ⟨by decide, by decide⟩ (by first | decide | (simp [cat_rf, cat_ref, cat_int, cat_null]; done) | (simp [cat_rf, cat_ref, cat_int, cat_null, Value.category]; done)) ⟨by decide, by decide⟩ (fun _ _ hq => hq.elim) ?_
  rintro _ h ⟨rfl, rfl⟩
  refine V_aload_n hZ 0 dX5_copy_14 rfl rfl (by first | rfl | exact isR_rf _) ?_
  refine V_getfield hZ fl_X5_136.r dX5_copy_15 (by assumption) (by rfl) ?_
  refine V_istore hZ dX5_copy_18 (by decide) (by first | rfl | simp [okp, cat_rf, cat_ref, cat_int, cat_null]) ?_
  refine V.lvc (by simp only [List.set_cons_zero, List.set_cons_succ, Nat.reduceAdd]; rfl) ?_
  refine V_aload_n hZ 3 dX5_copy_20 rfl rfl (by first | rfl | exact isR_rf _) ?_
  refine V_invVp hZ me_X0_isLive mi_X0_isLive ml_X5_99 (c_isLive Z.1 h h3) dX5_copy_21 rfl rfl (by assumption) rfl rfl ⟨by decide, by decide⟩ (by first | decide | (simp [cat_rf, cat_ref, cat_int, cat_null]; done) | (simp [cat_rf, cat_ref, cat_int, cat_null, Value.category]; done)) ⟨by decide, by decide⟩ ?_
  refine V_if_eq (tgt := 42) hZ dX5_copy_24 (by decide) (fun c0 => ?_) (fun c0 => ?_)
  · refine V_throw hZ hE hN tw_37_139_41 dX5_copy_42 dX5_copy_45 dX5_copy_46 dX5_copy_48 dX5_copy_51 (by decide) (by first | decide | (simp [cat_rf, cat_ref, cat_int, cat_null]; done) | (simp [cat_rf, cat_ref, cat_int, cat_null, Value.category]; done)) (by decide) (by decide) ?_
    exact ⟨rfl, rfl⟩
  · have c4 : nCp S = 30 := hl.resolve_left (fun z => c0 (by
      cases hz : rcWe (rcs S i) with
      | none => exact absurd hz z
      | some y => simp [b01]))
    refine V_iload hZ dX5_copy_27 rfl ?_
    refine V_if_lt (tgt := 42) hZ dX5_copy_29 (by decide) (fun c1 => ?_) (fun c1 => ?_)
    · exact absurd c1 (nI_pos (by omega))
    · refine V_iload hZ dX5_copy_32 rfl ?_
      refine V_aload_n hZ 0 dX5_copy_34 rfl rfl (by first | rfl | exact isR_rf _) ?_
      refine V_getfield hZ fl_X5_23.r dX5_copy_35 (by assumption) (by rfl) ?_
      refine V_alenR hZ dX5_copy_38 (by assumption) ?_
      refine V_icmp_lt (tgt := 52) hZ dX5_copy_39 (by decide) (fun c2 => ?_) (fun c2 => ?_)
      · have c3 : nI (nCp S) < nI 30 := c2
        exact absurd c3 (nI_nlt (by omega) (by omega))
      · refine V_throw hZ hE hN tw_37_139_41 dX5_copy_42 dX5_copy_45 dX5_copy_46 dX5_copy_48 dX5_copy_51 (by decide) (by first | decide | (simp [cat_rf, cat_ref, cat_int, cat_null]; done) | (simp [cat_rf, cat_ref, cat_int, cat_null, Value.category]; done)) (by decide) (by decide) ?_
        exact ⟨rfl, rfl⟩
theorem t_copyI (R : Rep S h) {p q : Int32} (hp : ∀ i, i < nRc S → p ≠ nI i) : Calls G yX5_copy cX5_copy 6 (.some .int) 7 112 1 6 [.ref (aH S), .int p, .int q] h qF (qT eIO h) := by
  have h4 := R.hall
  refine Calls_of1 (by decide +kernel) (by simp [cat_rf, cat_ref, cat_int, cat_null]) (by simp) (lv0 := [some (.ref (aH S)), some (.int p), some (.int q), none, none, none]) rfl ?_
  intro Z hG hZ hE hN
  subst hG
  refine V_aload_n hZ 0 dX5_copy_0 rfl rfl (by first | rfl | exact isR_rf _) ?_
  refine V_iload_n hZ 1 dX5_copy_1 rfl rfl ?_
  refine V_invV hZ me_X5_knownRecord mi_X5_knownRecord ml_X5_83 (t_knownRecord Z.1 R hp) dX5_copy_2 rfl rfl (by assumption) rfl rfl ⟨by decide, by decide⟩ (by first | decide | (simp [cat_rf, cat_ref, cat_int, cat_null]; done) | (simp [cat_rf, cat_ref, cat_int, cat_null, Value.category]; done)) ⟨by decide, by decide⟩ (fun _ _ hq => ?_) (fun _ _ hq => hq.elim)
  obtain ⟨rfl, rfl⟩ := hq
  exact VX_out hZ hE hN (by decide) (by decide) ⟨rfl, rfl⟩
/-- lay a into b -/
abbrev layB (S : St) (a b : Nat) : St := mvwS (mvcS S a b) a b
abbrev layC (S : St) (a b : Nat) : St := setRc (layB S a b) b (rcAu (rcs (layB S a b) b), rcTi (rcs (layB S a b) b), rcYe (rcs (layB S a b) b), rcWe (rcs (layB S a b) b), rcLe (rcs (layB S a b) b) + rcLe (rcs (layB S a b) a))
abbrev layD (S : St) (a b : Nat) : St := setRc (layC S a b) a (rcAu (rcs (layB S a b) a), rcTi (rcs (layB S a b) a), rcYe (rcs (layB S a b) a), some b, rcLe (rcs (layB S a b) a))
def layS (S : St) (a b : Nat) : St := inS (wrS (layD S a b))
theorem same5_mvw {S : St} {a b : Nat} : same5 S (mvwS S a b) := by
  have : ∀ (l : List Nat) (T : St), same5 T (l.foldl (mvwStep b) T) := by
    intro l
    induction l with
    | nil => intro T; exact same5.rf
    | cons x l ih => intro T; exact same5_mvwStep.tr (ih _)
  have h := this (lin S a) S
  exact ⟨h.1, h.2.1, h.2.2⟩
theorem c_lay (R : Rep S h) (W : Wf S) {a b : Nat} (ha : a < nRc S) (hb : b < nRc S) (hla : rcWe (rcs S a) = none) (hlb : rcWe (rcs S b) = none) (hab : a ≠ b) : Calls G yX5_lay cX5_lay 5 (.some .int) 7 119 0 0 [.ref (aH S), .int (nI a), .int (nI b)] h (fun v h' => v = some (.int (nI (cn (notLostB (layS S a b) b) 30))) ∧ Rep (layS S a b) h' ∧ Wf (layS S a b)) qX := by
  have h1 := R.hall
  have h2 := R.rec ha
  have h3 := R.rec hb
  refine Calls_of1 (by decide +kernel) (by simp [cat_rf, cat_ref, cat_int, cat_null]) (by simp) (lv0 := [some (.ref (aH S)), some (.int (nI a)), some (.int (nI b)), none, none]) rfl ?_
  intro Z hG hZ hE hN
  subst hG
  refine V_aload_n hZ 0 dX5_lay_0 rfl rfl (by first | rfl | exact isR_rf _) ?_
  refine V_iload_n hZ 1 dX5_lay_1 rfl rfl ?_
  refine V_invVp hZ me_X5_knownRecord mi_X5_knownRecord ml_X5_83 (c_knownRecord Z.1 R W ha) dX5_lay_2 rfl rfl (by assumption) rfl rfl ⟨by decide, by decide⟩ (by first | decide | (simp [cat_rf, cat_ref, cat_int, cat_null]; done) | (simp [cat_rf, cat_ref, cat_int, cat_null, Value.category]; done)) ⟨by decide, by decide⟩ ?_
  refine V_astore_n hZ 3 rfl dX5_lay_5 (by first | rfl | exact isR_rf _) (by decide) (by first | rfl | simp [okp, cat_rf, cat_ref, cat_int, cat_null]) ?_
  refine V.lvc (by simp only [List.set_cons_zero, List.set_cons_succ, Nat.reduceAdd]; rfl) ?_
  refine V_aload_n hZ 0 dX5_lay_6 rfl rfl (by first | rfl | exact isR_rf _) ?_
  refine V_iload_n hZ 2 dX5_lay_7 rfl rfl ?_
  refine V_invVp hZ me_X5_knownRecord mi_X5_knownRecord ml_X5_83 (c_knownRecord Z.1 R W hb) dX5_lay_8 rfl rfl (by assumption) rfl rfl ⟨by decide, by decide⟩ (by first | decide | (simp [cat_rf, cat_ref, cat_int, cat_null]; done) | (simp [cat_rf, cat_ref, cat_int, cat_null, Value.category]; done)) ⟨by decide, by decide⟩ ?_
  refine V_astore hZ dX5_lay_11 (by first | rfl | exact isR_rf _) (by decide) (by first | rfl | simp [okp, cat_rf, cat_ref, cat_int, cat_null]) ?_
  refine V.lvc (by simp only [List.set_cons_zero, List.set_cons_succ, Nat.reduceAdd]; rfl) ?_
  refine V_aload_n hZ 3 dX5_lay_13 rfl rfl (by first | rfl | exact isR_rf _) ?_
  refine V_invVp hZ me_X0_isLive mi_X0_isLive ml_X5_99 (c_isLive Z.1 h h2) dX5_lay_14 rfl rfl (by assumption) rfl rfl ⟨by decide, by decide⟩ (by first | decide | (simp [cat_rf, cat_ref, cat_int, cat_null]; done) | (simp [cat_rf, cat_ref, cat_int, cat_null, Value.category]; done)) ⟨by decide, by decide⟩ ?_
  refine V_if_eq (tgt := 34) hZ dX5_lay_17 (by decide) (fun c1 => ?_) (fun c1 => ?_)
  · exact absurd c1 (by simp [b01, hla])
  · refine V_aload hZ dX5_lay_20 rfl (by first | rfl | exact isR_rf _) ?_
    refine V_invVp hZ me_X0_isLive mi_X0_isLive ml_X5_99 (c_isLive Z.1 h h3) dX5_lay_22 rfl rfl (by assumption) rfl rfl ⟨by decide, by decide⟩ (by first | decide | (simp [cat_rf, cat_ref, cat_int, cat_null]; done) | (simp [cat_rf, cat_ref, cat_int, cat_null, Value.category]; done)) ⟨by decide, by decide⟩ ?_
    refine V_if_eq (tgt := 34) hZ dX5_lay_25 (by decide) (fun c2 => ?_) (fun c2 => ?_)
    · exact absurd c2 (by simp [b01, hlb])
    · refine V_aload_n hZ 3 dX5_lay_28 rfl rfl (by first | rfl | exact isR_rf _) ?_
      refine V_aload hZ dX5_lay_29 rfl (by first | rfl | exact isR_rf _) ?_
      refine V_acmp_ne (tgt := 44) hZ dX5_lay_31 (by decide) (by first | rfl | exact isR_rf _) (by first | rfl | exact isR_rf _) (fun c3 => ?_) (fun c3 => ?_)
      · refine V_aload_n hZ 0 dX5_lay_44 rfl rfl (by first | rfl | exact isR_rf _) ?_
        refine V_aload_n hZ 3 dX5_lay_45 rfl rfl (by first | rfl | exact isR_rf _) ?_
        refine V_aload hZ dX5_lay_46 rfl (by first | rfl | exact isR_rf _) ?_
        refine V_invV hZ me_X5_moveCopies mi_X5_moveCopies ml_X5_106 (c_moveCopies Z.1 R W ha hb) dX5_lay_48 rfl rfl (by assumption) rfl rfl ⟨by decide, by decide⟩ (by first | decide | (simp [cat_rf, cat_ref, cat_int, cat_null]; done) | (simp [cat_rf, cat_ref, cat_int, cat_null, Value.category]; done)) ⟨by decide, by decide⟩ (fun _ _ hq => hq.elim) ?_
        rintro _ g1 ⟨rfl, R1⟩
        have W1 := wf_mvc W (a := a) hb
        have s1 := same5_mvc (S := S) (a := a) (b := b)
        have e : layS S a b = inS (wrS (layD S a b)) := rfl
        unfold layD layC layB at e
        generalize mvcS S a b = T1 at R1 W1 s1 e
        have ha1 : a < nRc T1 := by rw [nRc_same s1]; exact ha
        have hb1 : b < nRc T1 := by rw [nRc_same s1]; exact hb
        rw [← aH_same s1, ← adR_same s1]
        have f1 := R1.hall
        refine V_aload_n hZ 0 dX5_lay_51 rfl rfl (by first | rfl | exact isR_rf _) ?_
        refine V_aload_n hZ 3 dX5_lay_52 rfl rfl (by first | rfl | exact isR_rf _) ?_
        refine V_aload hZ dX5_lay_53 rfl (by first | rfl | exact isR_rf _) ?_
        refine V_invV hZ me_X5_moveWaiters mi_X5_moveWaiters ml_X5_110 (c_moveWaiters Z.1 R1 W1 ha1 hb1 hab) dX5_lay_55 rfl rfl (by assumption) rfl rfl ⟨by decide, by decide⟩ (by first | decide | (simp [cat_rf, cat_ref, cat_int, cat_null]; done) | (simp [cat_rf, cat_ref, cat_int, cat_null, Value.category]; done)) ⟨by decide, by decide⟩ (fun _ _ hq => hq.elim) ?_
        rintro _ g2 ⟨rfl, R2, W2⟩
        have s2 := same5_mvw (S := T1) (a := a) (b := b)
        generalize mvwS T1 a b = T2 at R2 W2 s2 e
        have ha2 : a < nRc T2 := by rw [nRc_same s2]; exact ha1
        have hb2 : b < nRc T2 := by rw [nRc_same s2]; exact hb1
        rw [← aH_same s2, ← adR_same s2]
        have f2 := R2.rec ha2
        have f3 := R2.rec hb2
        have f4 := R2.hall
        refine V_aload hZ dX5_lay_58 rfl (by first | rfl | exact isR_rf _) ?_
        refine V_dup hZ dX5_lay_60 (by first | rfl | exact cat_rf _) ?_
        refine V_getfield hZ fl_X5_113.r dX5_lay_61 (by assumption) (by rfl) ?_
        refine V_aload_n hZ 3 dX5_lay_64 rfl rfl (by first | rfl | exact isR_rf _) ?_
        refine V_getfield hZ fl_X5_113.r dX5_lay_65 (by assumption) (by rfl) ?_
        refine V_iadd hZ dX5_lay_68 ?_
        refine V_putfield hZ fl_X5_113 dX5_lay_69 (by first | assumption | exact hup_self _ _ _) (by first | rfl | exact nar_rf _ _) (by first | rfl | exact fits_rf _ _) (by simp) ?_
        have R3 := rep_rc R2 W2 hb2 (rcAu (rcs T2 b), rcTi (rcs T2 b), rcYe (rcs T2 b), rcWe (rcs T2 b), rcLe (rcs T2 b) + rcLe (rcs T2 a))
        have W3 : Wf (setRc T2 b (rcAu (rcs T2 b), rcTi (rcs T2 b), rcYe (rcs T2 b), rcWe (rcs T2 b), rcLe (rcs T2 b) + rcLe (rcs T2 a))) := wf_rc W2 (W2.2.2.2.2.1 b hb2).1 (W2.2.2.2.2.1 b hb2).2
        have f5 : hup g2 (adR T2 b) (mRec b ((rcAu (rcs T2 b)).map (adN T2)) (rcTi (rcs T2 b)) (rcYe (rcs T2 b)) (adL T2 b) ((rcWe (rcs T2 b)).map (adR T2)) (rcLe (rcs T2 b) + rcLe (rcs T2 a))) (adR T2 a) = some (oRec T2 a) := by rw [hup_ne _ _ (fun z => hab (R2.recInj W2 ha2 hb2 z))]; exact f2
        refine V_aload_n hZ 3 dX5_lay_72 rfl rfl (by first | rfl | exact isR_rf _) ?_
        refine V_aload hZ dX5_lay_73 rfl (by first | rfl | exact isR_rf _) ?_
        refine V_putfield hZ fl_X5_116 dX5_lay_75 (by first | assumption | exact hup_self _ _ _) (by first | rfl | exact nar_rf _ _) (by first | rfl | exact fits_rf _ _) (by simp) ?_
        have R4 := rep_rc R3 W3 (i := a) ha2 (rcAu (rcs T2 a), rcTi (rcs T2 a), rcYe (rcs T2 a), some b, rcLe (rcs T2 a))
        have W4 : Wf (setRc (setRc T2 b (rcAu (rcs T2 b), rcTi (rcs T2 b), rcYe (rcs T2 b), rcWe (rcs T2 b), rcLe (rcs T2 b) + rcLe (rcs T2 a))) a (rcAu (rcs T2 a), rcTi (rcs T2 a), rcYe (rcs T2 a), some b, rcLe (rcs T2 a))) := wf_rc W3 (W2.2.2.2.2.1 a ha2).1 (fun j hj => by cases hj; exact hb2)
        have f6 := R4.hall
        refine V_aload_n hZ 0 dX5_lay_78 rfl rfl (by first | rfl | exact isR_rf _) ?_
        refine V_invV hZ me_X5_freeThoseWronglyAside mi_X5_freeThoseWronglyAside ml_X5_120 (c_freeThoseWronglyAside Z.1 R4 W4) dX5_lay_79 rfl rfl (by assumption) rfl rfl ⟨by decide, by decide⟩ (by first | decide | (simp [cat_rf, cat_ref, cat_int, cat_null]; done) | (simp [cat_rf, cat_ref, cat_int, cat_null, Value.category]; done)) ⟨by decide, by decide⟩ (fun _ _ hq => hq.elim) ?_
        rintro _ g5 ⟨rfl, R5⟩
        have W5 := wf_wr W4
        have s5 := same5_wr (S := setRc (setRc T2 b (rcAu (rcs T2 b), rcTi (rcs T2 b), rcYe (rcs T2 b), rcWe (rcs T2 b), rcLe (rcs T2 b) + rcLe (rcs T2 a))) a (rcAu (rcs T2 a), rcTi (rcs T2 a), rcYe (rcs T2 a), some b, rcLe (rcs T2 a)))
        generalize wrS (setRc (setRc T2 b (rcAu (rcs T2 b), rcTi (rcs T2 b), rcYe (rcs T2 b), rcWe (rcs T2 b), rcLe (rcs T2 b) + rcLe (rcs T2 a))) a (rcAu (rcs T2 a), rcTi (rcs T2 a), rcYe (rcs T2 a), some b, rcLe (rcs T2 a))) = T5 at R5 W5 s5 e
        have eH : aH T5 = aH T2 := by have z := aH_same s5; exact z
        have eR : adR T5 = adR T2 := by have z := adR_same s5; exact z
        have hb5 : b < nRc T5 := by rw [nRc_same s5]; exact hb2
        rw [← eH, ← eR]
        have f7 := R5.hall
        refine V_aload_n hZ 0 dX5_lay_82 rfl rfl (by first | rfl | exact isR_rf _) ?_
        refine V_invV hZ me_X5_freeThoseIn mi_X5_freeThoseIn ml_X5_123 (c_freeThoseIn Z.1 R5 W5) dX5_lay_83 rfl rfl (by assumption) rfl rfl ⟨by decide, by decide⟩ (by first | decide | (simp [cat_rf, cat_ref, cat_int, cat_null]; done) | (simp [cat_rf, cat_ref, cat_int, cat_null, Value.category]; done)) ⟨by decide, by decide⟩ (fun _ _ hq => hq.elim) ?_
        rintro _ g6 ⟨rfl, R6⟩
        have W6 := wf_in W5
        have s6 := same5_in (S := T5)
        generalize inS T5 = T6 at R6 W6 s6 e
        have hb6 : b < nRc T6 := by rw [nRc_same s6]; exact hb5
        rw [← aH_same s6, ← adR_same s6]
        have f8 := R6.hall
        refine V_aload_n hZ 0 dX5_lay_86 rfl rfl (by first | rfl | exact isR_rf _) ?_
        refine V_aload hZ dX5_lay_87 rfl (by first | rfl | exact isR_rf _) ?_
        refine V_invVp hZ me_X5_copiesNotLost mi_X5_copiesNotLost ml_X5_126 (c_copiesNotLost Z.1 R6 W6 hb6) dX5_lay_89 rfl rfl (by assumption) rfl rfl ⟨by decide, by decide⟩ (by first | decide | (simp [cat_rf, cat_ref, cat_int, cat_null]; done) | (simp [cat_rf, cat_ref, cat_int, cat_null, Value.category]; done)) ⟨by decide, by decide⟩ ?_
        refine V_iret hZ hE rfl (by rfl) dX5_lay_92 (by decide) (by decide) ?_
        rw [e]
        exact ⟨rfl, R6, W6⟩
      · exact absurd (R.recInj W ha hb (refIff.mp c3)) hab
theorem t_layX (R : Rep S h) (W : Wf S) {a b : Nat} (ha : a < nRc S) (hb : b < nRc S) (hz : ¬ rcWe (rcs S a) = none ∨ ¬ rcWe (rcs S b) = none ∨ a = b) : Calls G yX5_lay cX5_lay 5 (.some .int) 7 119 1 6 [.ref (aH S), .int (nI a), .int (nI b)] h qF (qT eIS h) := by
  have h1 := R.hall
  have h2 := R.rec ha
  have h3 := R.rec hb
  have kl : ∀ i, ¬ b01 (rcWe (rcs S i) = none) = 0 → rcWe (rcs S i) = none := fun i z => b01_nz z
  refine Calls_of1 (by decide +kernel) (by simp [cat_rf, cat_ref, cat_int, cat_null]) (by simp) (lv0 := [some (.ref (aH S)), some (.int (nI a)), some (.int (nI b)), none, none]) rfl ?_
  intro Z hG hZ hE hN
  subst hG
  refine V_aload_n hZ 0 dX5_lay_0 rfl rfl (by first | rfl | exact isR_rf _) ?_
  refine V_iload_n hZ 1 dX5_lay_1 rfl rfl ?_
  refine V_invVp hZ me_X5_knownRecord mi_X5_knownRecord ml_X5_83 (c_knownRecord Z.1 R W ha) dX5_lay_2 rfl rfl (by assumption) rfl rfl ⟨by decide, by decide⟩ (by first | decide | (simp [cat_rf, cat_ref, cat_int, cat_null]; done) | (simp [cat_rf, cat_ref, cat_int, cat_null, Value.category]; done)) ⟨by decide, by decide⟩ ?_
  refine V_astore_n hZ 3 rfl dX5_lay_5 (by first | rfl | exact isR_rf _) (by decide) (by first | rfl | simp [okp, cat_rf, cat_ref, cat_int, cat_null]) ?_
  refine V.lvc (by simp only [List.set_cons_zero, List.set_cons_succ, Nat.reduceAdd]; rfl) ?_
  refine V_aload_n hZ 0 dX5_lay_6 rfl rfl (by first | rfl | exact isR_rf _) ?_
  refine V_iload_n hZ 2 dX5_lay_7 rfl rfl ?_
  refine V_invVp hZ me_X5_knownRecord mi_X5_knownRecord ml_X5_83 (c_knownRecord Z.1 R W hb) dX5_lay_8 rfl rfl (by assumption) rfl rfl ⟨by decide, by decide⟩ (by first | decide | (simp [cat_rf, cat_ref, cat_int, cat_null]; done) | (simp [cat_rf, cat_ref, cat_int, cat_null, Value.category]; done)) ⟨by decide, by decide⟩ ?_
  refine V_astore hZ dX5_lay_11 (by first | rfl | exact isR_rf _) (by decide) (by first | rfl | simp [okp, cat_rf, cat_ref, cat_int, cat_null]) ?_
  refine V.lvc (by simp only [List.set_cons_zero, List.set_cons_succ, Nat.reduceAdd]; rfl) ?_
  refine V_aload_n hZ 3 dX5_lay_13 rfl rfl (by first | rfl | exact isR_rf _) ?_
  refine V_invVp hZ me_X0_isLive mi_X0_isLive ml_X5_99 (c_isLive Z.1 h h2) dX5_lay_14 rfl rfl (by assumption) rfl rfl ⟨by decide, by decide⟩ (by first | decide | (simp [cat_rf, cat_ref, cat_int, cat_null]; done) | (simp [cat_rf, cat_ref, cat_int, cat_null, Value.category]; done)) ⟨by decide, by decide⟩ ?_
  refine V_if_eq (tgt := 34) hZ dX5_lay_17 (by decide) (fun c1 => ?_) (fun c1 => ?_)
  · refine V_throw hZ hE hN tw_37_104_41 dX5_lay_34 dX5_lay_37 dX5_lay_38 dX5_lay_40 dX5_lay_43 (by decide) (by first | decide | (simp [cat_rf, cat_ref, cat_int, cat_null]; done) | (simp [cat_rf, cat_ref, cat_int, cat_null, Value.category]; done)) (by decide) (by decide) ?_
    exact ⟨rfl, rfl⟩
  · have k1 : rcWe (rcs S a) = none := by
      cases hz : rcWe (rcs S a) with
      | none => rfl
      | some y => exact absurd (by simp [b01, hz]) c1
    refine V_aload hZ dX5_lay_20 rfl (by first | rfl | exact isR_rf _) ?_
    refine V_invVp hZ me_X0_isLive mi_X0_isLive ml_X5_99 (c_isLive Z.1 h h3) dX5_lay_22 rfl rfl (by assumption) rfl rfl ⟨by decide, by decide⟩ (by first | decide | (simp [cat_rf, cat_ref, cat_int, cat_null]; done) | (simp [cat_rf, cat_ref, cat_int, cat_null, Value.category]; done)) ⟨by decide, by decide⟩ ?_
    refine V_if_eq (tgt := 34) hZ dX5_lay_25 (by decide) (fun c2 => ?_) (fun c2 => ?_)
    · refine V_throw hZ hE hN tw_37_104_41 dX5_lay_34 dX5_lay_37 dX5_lay_38 dX5_lay_40 dX5_lay_43 (by decide) (by first | decide | (simp [cat_rf, cat_ref, cat_int, cat_null]; done) | (simp [cat_rf, cat_ref, cat_int, cat_null, Value.category]; done)) (by decide) (by decide) ?_
      exact ⟨rfl, rfl⟩
    · have k2 : rcWe (rcs S b) = none := by
        cases hz : rcWe (rcs S b) with
        | none => rfl
        | some y => exact absurd (by simp [b01, hz]) c2
      have k3 : a = b := (hz.resolve_left (fun z => z k1)).resolve_left (fun z => z k2)
      refine V_aload_n hZ 3 dX5_lay_28 rfl rfl (by first | rfl | exact isR_rf _) ?_
      refine V_aload hZ dX5_lay_29 rfl (by first | rfl | exact isR_rf _) ?_
      refine V_acmp_ne (tgt := 44) hZ dX5_lay_31 (by decide) (by first | rfl | exact isR_rf _) (by first | rfl | exact isR_rf _) (fun c3 => ?_) (fun c3 => ?_)
      · exact absurd (by rw [k3]) c3
      · refine V_throw hZ hE hN tw_37_104_41 dX5_lay_34 dX5_lay_37 dX5_lay_38 dX5_lay_40 dX5_lay_43 (by decide) (by first | decide | (simp [cat_rf, cat_ref, cat_int, cat_null]; done) | (simp [cat_rf, cat_ref, cat_int, cat_null, Value.category]; done)) (by decide) (by decide) ?_
        exact ⟨rfl, rfl⟩
theorem t_layI (R : Rep S h) (W : Wf S) {p q : Int32} (hp : (∀ i, i < nRc S → p ≠ nI i) ∨ ∀ i, i < nRc S → q ≠ nI i) : Calls G yX5_lay cX5_lay 5 (.some .int) 7 119 1 6 [.ref (aH S), .int p, .int q] h qF (qT eIO h) := by
  have h4 := R.hall
  refine Calls_of1 (by decide +kernel) (by simp [cat_rf, cat_ref, cat_int, cat_null]) (by simp) (lv0 := [some (.ref (aH S)), some (.int p), some (.int q), none, none]) rfl ?_
  intro Z hG hZ hE hN
  subst hG
  refine V_aload_n hZ 0 dX5_lay_0 rfl rfl (by first | rfl | exact isR_rf _) ?_
  refine V_iload_n hZ 1 dX5_lay_1 rfl rfl ?_
  by_cases z : ∃ a, a < nRc S ∧ p = nI a
  · obtain ⟨a, ha, rfl⟩ := z
    have hq := hp.resolve_left (fun z => z a ha rfl)
    refine V_invVp hZ me_X5_knownRecord mi_X5_knownRecord ml_X5_83 (c_knownRecord Z.1 R W ha) dX5_lay_2 rfl rfl (by assumption) rfl rfl ⟨by decide, by decide⟩ (by first | decide | (simp [cat_rf, cat_ref, cat_int, cat_null]; done) | (simp [cat_rf, cat_ref, cat_int, cat_null, Value.category]; done)) ⟨by decide, by decide⟩ ?_
    refine V_astore_n hZ 3 rfl dX5_lay_5 (by first | rfl | exact isR_rf _) (by decide) (by first | rfl | simp [okp, cat_rf, cat_ref, cat_int, cat_null]) ?_
    refine V.lvc (by simp only [List.set_cons_zero, List.set_cons_succ, Nat.reduceAdd]; rfl) ?_
    refine V_aload_n hZ 0 dX5_lay_6 rfl rfl (by first | rfl | exact isR_rf _) ?_
    refine V_iload_n hZ 2 dX5_lay_7 rfl rfl ?_
    refine V_invV hZ me_X5_knownRecord mi_X5_knownRecord ml_X5_83 (t_knownRecord Z.1 R hq) dX5_lay_8 rfl rfl (by assumption) rfl rfl ⟨by decide, by decide⟩ (by first | decide | (simp [cat_rf, cat_ref, cat_int, cat_null]; done) | (simp [cat_rf, cat_ref, cat_int, cat_null, Value.category]; done)) ⟨by decide, by decide⟩ (fun _ _ hq => ?_) (fun _ _ hq => hq.elim)
    obtain ⟨rfl, rfl⟩ := hq
    exact VX_out hZ hE hN (by decide) (by decide) ⟨rfl, rfl⟩
  · have hp' : ∀ i, i < nRc S → p ≠ nI i := fun i hi e => z ⟨i, hi, e⟩
    refine V_invV hZ me_X5_knownRecord mi_X5_knownRecord ml_X5_83 (t_knownRecord Z.1 R hp') dX5_lay_2 rfl rfl (by assumption) rfl rfl ⟨by decide, by decide⟩ (by first | decide | (simp [cat_rf, cat_ref, cat_int, cat_null]; done) | (simp [cat_rf, cat_ref, cat_int, cat_null, Value.category]; done)) ⟨by decide, by decide⟩ (fun _ _ hq => ?_) (fun _ _ hq => hq.elim)
    obtain ⟨rfl, rfl⟩ := hq
    exact VX_out hZ hE hN (by decide) (by decide) ⟨rfl, rfl⟩
def waitF (S : St) (c : Nat) : Nat := if c < nRc S then (lin S c).length else 0
def smN (f : Nat → Nat) : Nat → Nat
  | 0 => 0
  | k + 1 => smN f k + f k
theorem c_meanWaits (R : Rep S h) (W : Wf S) (hn : 0 < nRd S) (hne : vf_n64 (FP.ddiv (FP.i2d (nI (smN (waitF S) 20))) (FP.i2d (nI (nRd S))))) : Calls G yX5_meanWaits cX5_meanWaits 6 (.some .double) 0 0 0 0 [.ref (aH S)] h (qV (.double (FP.ddiv (FP.i2d (nI (smN (waitF S) 20))) (FP.i2d (nI (nRd S))))) h) qX := by
  have h1 := R.hall
  have h2 := R.records
  have hb := W.2.2.2.1
  refine Calls_of1 (by decide +kernel) (by simp [cat_rf, cat_ref, cat_int, cat_null]) (by simp) (lv0 := [some (.ref (aH S)), none, none, none, none, none]) rfl ?_
  intro Z hG hZ hE hN
  subst hG
  refine V_aload_n hZ 0 dX5_meanWaits_0 rfl rfl (by first | rfl | exact isR_rf _) ?_
  refine V_getfield hZ fl_X5_156.r dX5_meanWaits_1 (by assumption) (by rfl) ?_
  refine V_if_gt (tgt := 9) hZ dX5_meanWaits_4 (by decide) (fun c1 => ?_) (fun c1 => ?_)
  · refine V_iconst (v := 0) hZ dX5_meanWaits_9 (by decide) ?_
    refine V_istore_n hZ 1 rfl dX5_meanWaits_10 (by decide) (by first | rfl | simp [okp, cat_rf, cat_ref, cat_int, cat_null]) ?_
    refine V.lvc (by simp only [List.set_cons_zero, List.set_cons_succ, Nat.reduceAdd]; rfl) ?_
    refine V_aload_n hZ 0 dX5_meanWaits_11 rfl rfl (by first | rfl | exact isR_rf _) ?_
    refine V_getfield hZ fl_X5_17.r dX5_meanWaits_12 (by assumption) (by rfl) ?_
    refine V_astore_n hZ 2 rfl dX5_meanWaits_15 (by first | rfl | exact isR_rf _) (by decide) (by first | rfl | simp [okp, cat_rf, cat_ref, cat_int, cat_null]) ?_
    refine V.lvc (by simp only [List.set_cons_zero, List.set_cons_succ, Nat.reduceAdd]; rfl) ?_
    refine V_aload_n hZ 2 dX5_meanWaits_16 rfl rfl (by first | rfl | exact isR_rf _) ?_
    refine V_alenR hZ dX5_meanWaits_17 (by assumption) ?_
    refine V_istore_n hZ 3 rfl dX5_meanWaits_18 (by decide) (by first | rfl | simp [okp, cat_rf, cat_ref, cat_int, cat_null]) ?_
    refine V.lvc (by simp only [List.set_cons_zero, List.set_cons_succ, Nat.reduceAdd]; rfl) ?_
    refine V_iconst (v := 0) hZ dX5_meanWaits_19 (by decide) ?_
    refine V_istore hZ dX5_meanWaits_20 (by decide) (by first | rfl | simp [okp, cat_rf, cat_ref, cat_int, cat_null]) ?_
    refine V.lvc (by simp only [List.set_cons_zero, List.set_cons_succ, Nat.reduceAdd]; rfl) ?_
    have key : ∀ m c, c + m = 20 → ∀ w, V Z 22 [some (.ref (aH S)), some (.int (nI (smN (waitF S) c))), some (.ref (aRs S)), some (.int (nI 20)), some (.int (nI c)), w] [] h 0 0 := by
      intro m
      induction m with
      | zero =>
        intro c hcm  w
        have hc : c = 20 := by omega
        subst hc
        refine V_iload hZ dX5_meanWaits_22 rfl ?_
        refine V_iload_n hZ 3 dX5_meanWaits_24 rfl rfl ?_
        refine V_icmp_ge (tgt := 56) hZ dX5_meanWaits_25 (by decide) (fun cE => ?_) (fun cE => ?_)
        · refine V_iload_n hZ 1 dX5_meanWaits_56 rfl rfl ?_
          refine V_i2d hZ dX5_meanWaits_57 ?_
          refine V_aload_n hZ 0 dX5_meanWaits_58 rfl rfl (by first | rfl | exact isR_rf _) ?_
          refine V_getfield hZ fl_X5_156.r dX5_meanWaits_59 (by assumption) (by rfl) ?_
          refine V_i2d hZ dX5_meanWaits_62 ?_
          refine V_ddiv hZ hne dX5_meanWaits_63 ?_
          refine V_dret hZ hE rfl dX5_meanWaits_64 (by decide) (by decide) ?_
          exact ⟨rfl, rfl⟩
        · exact absurd (by decide) cE
      | succ m ih =>
        intro c hcm  w
        have hcN : c < 20 := by omega
        refine V_iload hZ dX5_meanWaits_22 rfl ?_
        refine V_iload_n hZ 3 dX5_meanWaits_24 rfl rfl ?_
        refine V_icmp_ge (tgt := 56) hZ dX5_meanWaits_25 (by decide) (fun cE => ?_) (fun cE => ?_)
        · have cE2 : 20 ≤ c := (nI_leI (a := 20) (by decide) (by omega)).mp cE
          omega
        · refine V_aload_n hZ 2 dX5_meanWaits_28 rfl rfl (by first | rfl | exact isR_rf _) ?_
          refine V_iload hZ dX5_meanWaits_29 rfl ?_
          by_cases hi : c < nRc S
          · refine V_aaldn hZ dX5_meanWaits_31 (by assumption) hcN (by decide) (v := .ref (adR S c)) (rowf_lt hi) ?_
            refine V_astore hZ dX5_meanWaits_32 (by first | rfl | exact isR_rf _) (by decide) (by first | rfl | simp [okp, cat_rf, cat_ref, cat_int, cat_null]) ?_
            refine V.lvc (by simp only [List.set_cons_zero, List.set_cons_succ, Nat.reduceAdd]; rfl) ?_
            refine V_aload hZ dX5_meanWaits_34 rfl (by first | rfl | exact isR_rf _) ?_
            refine V_ifnullR hZ dX5_meanWaits_36 ?_
            have h3 := R.rec hi
            have h5 := R.line hi
            refine V_iload_n hZ 1 dX5_meanWaits_39 rfl rfl ?_
            refine V_aload hZ dX5_meanWaits_40 rfl (by first | rfl | exact isR_rf _) ?_
            refine V_getfield hZ fl_X5_235 dX5_meanWaits_42 (by assumption) (by rfl) ?_
            refine V_getfield hZ fl_X5_262.r dX5_meanWaits_45 (by assumption) (by rfl) ?_
            refine V_iadd hZ dX5_meanWaits_48 ?_
            rw [nI_add]
            refine V_istore_n hZ 1 rfl dX5_meanWaits_49 (by decide) (by first | rfl | simp [okp, cat_rf, cat_ref, cat_int, cat_null]) ?_
            refine V.lvc (by simp only [List.set_cons_zero, List.set_cons_succ, Nat.reduceAdd]; rfl) ?_
            refine V_iincv hZ dX5_meanWaits_50 rfl (by decide) (by first | rfl | simp [okp, cat_rf, cat_ref, cat_int, cat_null]) (by first | exact nI_inc _ | rfl) ?_
            refine V.lvc (by simp only [List.set_cons_zero, List.set_cons_succ, Nat.reduceAdd]; rfl) ?_
            refine V_goto (tgt := 22) hZ dX5_meanWaits_53 (by decide) ?_
            have e := ih (c + 1) (by omega) (some (.ref (adR S c)))
            have e2 : waitF S c = (lin S c).length := by simp [waitF, hi]
            simp only [smN, e2] at e
            exact e
          · refine V_aaldn hZ dX5_meanWaits_31 (by assumption) hcN (by decide) (v := .null) (rowf_ge hi) ?_
            refine V_astore hZ dX5_meanWaits_32 (by first | rfl | exact isR_rf _) (by decide) (by first | rfl | simp [okp, cat_rf, cat_ref, cat_int, cat_null]) ?_
            refine V.lvc (by simp only [List.set_cons_zero, List.set_cons_succ, Nat.reduceAdd]; rfl) ?_
            refine V_aload hZ dX5_meanWaits_34 rfl (by first | rfl | exact isR_rf _) ?_
            refine V_ifnullN (tgt := 50) hZ dX5_meanWaits_36 (by decide) ?_
            refine V_iincv hZ dX5_meanWaits_50 rfl (by decide) (by first | rfl | simp [okp, cat_rf, cat_ref, cat_int, cat_null]) (by first | exact nI_inc _ | rfl) ?_
            refine V.lvc (by simp only [List.set_cons_zero, List.set_cons_succ, Nat.reduceAdd]; rfl) ?_
            refine V_goto (tgt := 22) hZ dX5_meanWaits_53 (by decide) ?_
            have e := ih (c + 1) (by omega) (some .null)
            have e2 : waitF S c = 0 := by simp [waitF, hi]
            simp only [smN, e2] at e
            exact e
    exact key 20 0 rfl none
  · have c2 : ¬ nI 0 < nI (nRd S) := c1
    exact absurd (nI_lt hn (by omega)) c2
end

