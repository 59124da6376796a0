/-! the public methods that only tell, asked rightly -/
theorem no_lt0 {k : Nat} (hk : k < 2 ^ 31) : ¬ nI k < 0 := nI_pos hk
theorem no_gt {k m : Nat} (hk : k ≤ m) (hm : m < 2 ^ 31) : ¬ nI m < nI k := nI_nlt hk hm
section
variable (G : GC) {h : HP} {S : St}
theorem c_many (R : Rep S h) (W : Wf S) {k : Nat} (hk : k < 10) : Calls G yX5_many cX5_many 2 (.some .int) 7 112 0 0 [.ref (aH S), .int (nI k)] h (qV (.int (totN S k)) h) qX := by
  have h4 := R.hall
  refine Calls_of1 (by decide +kernel) (by simp [cat_rf, cat_ref, cat_int, cat_null]) (by simp) (lv0 := [some (.ref (aH S)), some (.int (nI k))]) rfl ?_
  intro Z hG hZ hE hN
  subst hG
  refine V_iload_n hZ 1 dX5_many_0 rfl rfl ?_
  refine V_iconst (v := 0) hZ dX5_many_1 (by decide) ?_
  refine V_bipush (v := 9) hZ dX5_many_2 (by decide) ?_
  refine V_invS hZ me_X5_requireBetween ms_X5_requireBetween ml_X5_71 (c_requireBetween Z.1 h (no_lt0 (by omega)) (no_gt (m := 9) (by omega) (by decide))) dX5_many_4 rfl rfl ⟨by decide, by decide⟩ (by first | decide | simp [cat_rf, cat_ref, cat_int, cat_null] | simp [cat_rf, cat_ref, cat_int, cat_null, Value.category]) ⟨by decide, by decide⟩ (fun _ _ hq => hq.elim) ?_
  rintro _ _ ⟨rfl, rfl⟩
  refine V_aload_n hZ 0 dX5_many_7 rfl rfl (by first | rfl | exact isR_rf _) ?_
  refine V_iload_n hZ 1 dX5_many_8 rfl rfl ?_
  refine V_invVp hZ me_X5_total mi_X5_total ml_X5_277 (c_total Z.1 R W hk) dX5_many_9 rfl rfl (by assumption) rfl rfl ⟨by decide, by decide⟩ (by first | decide | simp [cat_rf, cat_ref, cat_int, cat_null] | simp [cat_rf, cat_ref, cat_int, cat_null, Value.category]) ⟨by decide, by decide⟩ ?_
  refine V_iret hZ hE rfl (by rfl) dX5_many_12 (by decide) (by decide) ?_
  exact ⟨rfl, rfl⟩
theorem c_ofCopy (R : Rep S h) (W : Wf S) {i k : Nat} (hi : i < nCp S) (hk : k < 7) : Calls G yX5_ofCopy cX5_ofCopy 4 (.some .int) 7 112 0 0 [.ref (aH S), .int (nI i), .int (nI k)] h (qV (.int (factC S i k)) h) qX := by
  have h4 := R.hall
  refine Calls_of1 (by decide +kernel) (by simp [cat_rf, cat_ref, cat_int, cat_null]) (by simp) (lv0 := [some (.ref (aH S)), some (.int (nI i)), some (.int (nI k)), none]) rfl ?_
  intro Z hG hZ hE hN
  subst hG
  refine V_aload_n hZ 0 dX5_ofCopy_0 rfl rfl (by first | rfl | exact isR_rf _) ?_
  refine V_iload_n hZ 1 dX5_ofCopy_1 rfl rfl ?_
  refine V_invVp hZ me_X5_knownCopy mi_X5_knownCopy ml_X5_148 (c_knownCopy Z.1 R W hi) dX5_ofCopy_2 rfl rfl (by assumption) rfl rfl ⟨by decide, by decide⟩ (by first | decide | simp [cat_rf, cat_ref, cat_int, cat_null] | simp [cat_rf, cat_ref, cat_int, cat_null, Value.category]) ⟨by decide, by decide⟩ ?_
  refine V_astore_n hZ 3 rfl dX5_ofCopy_5 (by first | rfl | exact isR_rf _) (by decide) (by first | rfl | simp [okp, cat_rf, cat_ref, cat_int, cat_null]) ?_
  refine V.lvc (by simp only [List.set_cons_zero, List.set_cons_succ, Nat.reduceAdd]; rfl) ?_
  refine V_iload_n hZ 2 dX5_ofCopy_6 rfl rfl ?_
  refine V_iconst (v := 0) hZ dX5_ofCopy_7 (by decide) ?_
  refine V_bipush (v := 6) hZ dX5_ofCopy_8 (by decide) ?_
  refine V_invS hZ me_X5_requireBetween ms_X5_requireBetween ml_X5_71 (c_requireBetween Z.1 h (no_lt0 (by omega)) (no_gt (m := 6) (by omega) (by decide))) dX5_ofCopy_10 rfl rfl ⟨by decide, by decide⟩ (by first | decide | simp [cat_rf, cat_ref, cat_int, cat_null] | simp [cat_rf, cat_ref, cat_int, cat_null, Value.category]) ⟨by decide, by decide⟩ (fun _ _ hq => hq.elim) ?_
  rintro _ _ ⟨rfl, rfl⟩
  refine V_aload_n hZ 0 dX5_ofCopy_13 rfl rfl (by first | rfl | exact isR_rf _) ?_
  refine V_aload_n hZ 3 dX5_ofCopy_14 rfl rfl (by first | rfl | exact isR_rf _) ?_
  refine V_iload_n hZ 2 dX5_ofCopy_15 rfl rfl ?_
  refine V_invVp hZ me_X5_factOfCopy mi_X5_factOfCopy ml_X5_152 (c_factOfCopy Z.1 R W hi hk) dX5_ofCopy_16 rfl rfl (by assumption) rfl rfl ⟨by decide, by decide⟩ (by first | decide | simp [cat_rf, cat_ref, cat_int, cat_null] | simp [cat_rf, cat_ref, cat_int, cat_null, Value.category]) ⟨by decide, by decide⟩ ?_
  refine V_iret hZ hE rfl (by rfl) dX5_ofCopy_19 (by decide) (by decide) ?_
  exact ⟨rfl, rfl⟩
theorem t_ofCopy (R : Rep S h) {p q : Int32} (hp : ∀ i, i < nCp S → p ≠ nI i) : Calls G yX5_ofCopy cX5_ofCopy 4 (.some .int) 7 112 1 6 [.ref (aH S), .int p, .int q] h qF (qT eIO h) := by
  have h4 := R.hall
  refine Calls_of1 (by decide +kernel) (by simp [cat_rf, cat_ref, cat_int, cat_null]) (by simp) (lv0 := [some (.ref (aH S)), some (.int p), some (.int q), none]) rfl ?_
  intro Z hG hZ hE hN
  subst hG
  refine V_aload_n hZ 0 dX5_ofCopy_0 rfl rfl (by first | rfl | exact isR_rf _) ?_
  refine V_iload_n hZ 1 dX5_ofCopy_1 rfl rfl ?_
  refine V_invV hZ me_X5_knownCopy mi_X5_knownCopy ml_X5_148 (t_knownCopy Z.1 R hp) dX5_ofCopy_2 rfl rfl (by assumption) rfl rfl ⟨by decide, by decide⟩ (by first | decide | simp [cat_rf, cat_ref, cat_int, cat_null] | simp [cat_rf, cat_ref, cat_int, cat_null, Value.category]) ⟨by decide, by decide⟩ (fun _ _ hq => ?_) (fun _ _ hq => hq.elim)
  obtain ⟨rfl, rfl⟩ := hq
  exact VX_out hZ hE hN (by decide) (by decide) ⟨rfl, rfl⟩
theorem c_ofReader (R : Rep S h) (W : Wf S) {i k : Nat} (hi : i < nRd S) (hk : k < 7) : Calls G yX5_ofReader cX5_ofReader 4 (.some .int) 7 112 0 0 [.ref (aH S), .int (nI i), .int (nI k)] h (qV (.int (factD S i k)) h) qX := by
  have h4 := R.hall
  refine Calls_of1 (by decide +kernel) (by simp [cat_rf, cat_ref, cat_int, cat_null]) (by simp) (lv0 := [some (.ref (aH S)), some (.int (nI i)), some (.int (nI k)), none]) rfl ?_
  intro Z hG hZ hE hN
  subst hG
  refine V_aload_n hZ 0 dX5_ofReader_0 rfl rfl (by first | rfl | exact isR_rf _) ?_
  refine V_iload_n hZ 1 dX5_ofReader_1 rfl rfl ?_
  refine V_invVp hZ me_X5_knownReader mi_X5_knownReader ml_X5_164 (c_knownReader Z.1 R W hi) dX5_ofReader_2 rfl rfl (by assumption) rfl rfl ⟨by decide, by decide⟩ (by first | decide | simp [cat_rf, cat_ref, cat_int, cat_null] | simp [cat_rf, cat_ref, cat_int, cat_null, Value.category]) ⟨by decide, by decide⟩ ?_
  refine V_astore_n hZ 3 rfl dX5_ofReader_5 (by first | rfl | exact isR_rf _) (by decide) (by first | rfl | simp [okp, cat_rf, cat_ref, cat_int, cat_null]) ?_
  refine V.lvc (by simp only [List.set_cons_zero, List.set_cons_succ, Nat.reduceAdd]; rfl) ?_
  refine V_iload_n hZ 2 dX5_ofReader_6 rfl rfl ?_
  refine V_iconst (v := 0) hZ dX5_ofReader_7 (by decide) ?_
  refine V_bipush (v := 6) hZ dX5_ofReader_8 (by decide) ?_
  refine V_invS hZ me_X5_requireBetween ms_X5_requireBetween ml_X5_71 (c_requireBetween Z.1 h (no_lt0 (by omega)) (no_gt (m := 6) (by omega) (by decide))) dX5_ofReader_10 rfl rfl ⟨by decide, by decide⟩ (by first | decide | simp [cat_rf, cat_ref, cat_int, cat_null] | simp [cat_rf, cat_ref, cat_int, cat_null, Value.category]) ⟨by decide, by decide⟩ (fun _ _ hq => hq.elim) ?_
  rintro _ _ ⟨rfl, rfl⟩
  refine V_aload_n hZ 0 dX5_ofReader_13 rfl rfl (by first | rfl | exact isR_rf _) ?_
  refine V_aload_n hZ 3 dX5_ofReader_14 rfl rfl (by first | rfl | exact isR_rf _) ?_
  refine V_iload_n hZ 2 dX5_ofReader_15 rfl rfl ?_
  refine V_invVp hZ me_X5_factOfReader mi_X5_factOfReader ml_X5_168 (c_factOfReader Z.1 R W hi hk) dX5_ofReader_16 rfl rfl (by assumption) rfl rfl ⟨by decide, by decide⟩ (by first | decide | simp [cat_rf, cat_ref, cat_int, cat_null] | simp [cat_rf, cat_ref, cat_int, cat_null, Value.category]) ⟨by decide, by decide⟩ ?_
  refine V_iret hZ hE rfl (by rfl) dX5_ofReader_19 (by decide) (by decide) ?_
  exact ⟨rfl, rfl⟩
theorem t_ofReader (R : Rep S h) {p q : Int32} (hp : ∀ i, i < nRd S → p ≠ nI i) : Calls G yX5_ofReader cX5_ofReader 4 (.some .int) 7 112 1 6 [.ref (aH S), .int p, .int q] h qF (qT eIO h) := by
  have h4 := R.hall
  refine Calls_of1 (by decide +kernel) (by simp [cat_rf, cat_ref, cat_int, cat_null]) (by simp) (lv0 := [some (.ref (aH S)), some (.int p), some (.int q), none]) rfl ?_
  intro Z hG hZ hE hN
  subst hG
  refine V_aload_n hZ 0 dX5_ofReader_0 rfl rfl (by first | rfl | exact isR_rf _) ?_
  refine V_iload_n hZ 1 dX5_ofReader_1 rfl rfl ?_
  refine V_invV hZ me_X5_knownReader mi_X5_knownReader ml_X5_164 (t_knownReader Z.1 R hp) dX5_ofReader_2 rfl rfl (by assumption) rfl rfl ⟨by decide, by decide⟩ (by first | decide | simp [cat_rf, cat_ref, cat_int, cat_null] | simp [cat_rf, cat_ref, cat_int, cat_null, Value.category]) ⟨by decide, by decide⟩ (fun _ _ hq => ?_) (fun _ _ hq => hq.elim)
  obtain ⟨rfl, rfl⟩ := hq
  exact VX_out hZ hE hN (by decide) (by decide) ⟨rfl, rfl⟩
theorem c_ofRecord (R : Rep S h) (W : Wf S) {i k : Nat} (hi : i < nRc S) (hk : k < 7) : Calls G yX5_ofRecord cX5_ofRecord 4 (.some .int) 7 112 0 0 [.ref (aH S), .int (nI i), .int (nI k)] h (qV (.int (factR S i k)) h) qX := by
  have h4 := R.hall
  refine Calls_of1 (by decide +kernel) (by simp [cat_rf, cat_ref, cat_int, cat_null]) (by simp) (lv0 := [some (.ref (aH S)), some (.int (nI i)), some (.int (nI k)), none]) rfl ?_
  intro Z hG hZ hE hN
  subst hG
  refine V_aload_n hZ 0 dX5_ofRecord_0 rfl rfl (by first | rfl | exact isR_rf _) ?_
  refine V_iload_n hZ 1 dX5_ofRecord_1 rfl rfl ?_
  refine V_invVp hZ me_X5_knownRecord mi_X5_knownRecord ml_X5_83 (c_knownRecord Z.1 R W hi) dX5_ofRecord_2 rfl rfl (by assumption) rfl rfl ⟨by decide, by decide⟩ (by first | decide | simp [cat_rf, cat_ref, cat_int, cat_null] | simp [cat_rf, cat_ref, cat_int, cat_null, Value.category]) ⟨by decide, by decide⟩ ?_
  refine V_astore_n hZ 3 rfl dX5_ofRecord_5 (by first | rfl | exact isR_rf _) (by decide) (by first | rfl | simp [okp, cat_rf, cat_ref, cat_int, cat_null]) ?_
  refine V.lvc (by simp only [List.set_cons_zero, List.set_cons_succ, Nat.reduceAdd]; rfl) ?_
  refine V_iload_n hZ 2 dX5_ofRecord_6 rfl rfl ?_
  refine V_iconst (v := 0) hZ dX5_ofRecord_7 (by decide) ?_
  refine V_bipush (v := 6) hZ dX5_ofRecord_8 (by decide) ?_
  refine V_invS hZ me_X5_requireBetween ms_X5_requireBetween ml_X5_71 (c_requireBetween Z.1 h (no_lt0 (by omega)) (no_gt (m := 6) (by omega) (by decide))) dX5_ofRecord_10 rfl rfl ⟨by decide, by decide⟩ (by first | decide | simp [cat_rf, cat_ref, cat_int, cat_null] | simp [cat_rf, cat_ref, cat_int, cat_null, Value.category]) ⟨by decide, by decide⟩ (fun _ _ hq => hq.elim) ?_
  rintro _ _ ⟨rfl, rfl⟩
  refine V_aload_n hZ 0 dX5_ofRecord_13 rfl rfl (by first | rfl | exact isR_rf _) ?_
  refine V_aload_n hZ 3 dX5_ofRecord_14 rfl rfl (by first | rfl | exact isR_rf _) ?_
  refine V_iload_n hZ 2 dX5_ofRecord_15 rfl rfl ?_
  refine V_invVp hZ me_X5_factOfRecord mi_X5_factOfRecord ml_X5_87 (c_factOfRecord Z.1 R W hi hk) dX5_ofRecord_16 rfl rfl (by assumption) rfl rfl ⟨by decide, by decide⟩ (by first | decide | simp [cat_rf, cat_ref, cat_int, cat_null] | simp [cat_rf, cat_ref, cat_int, cat_null, Value.category]) ⟨by decide, by decide⟩ ?_
  refine V_iret hZ hE rfl (by rfl) dX5_ofRecord_19 (by decide) (by decide) ?_
  exact ⟨rfl, rfl⟩
theorem t_ofRecord (R : Rep S h) {p q : Int32} (hp : ∀ i, i < nRc S → p ≠ nI i) : Calls G yX5_ofRecord cX5_ofRecord 4 (.some .int) 7 112 1 6 [.ref (aH S), .int p, .int q] h qF (qT eIO h) := by
  have h4 := R.hall
  refine Calls_of1 (by decide +kernel) (by simp [cat_rf, cat_ref, cat_int, cat_null]) (by simp) (lv0 := [some (.ref (aH S)), some (.int p), some (.int q), none]) rfl ?_
  intro Z hG hZ hE hN
  subst hG
  refine V_aload_n hZ 0 dX5_ofRecord_0 rfl rfl (by first | rfl | exact isR_rf _) ?_
  refine V_iload_n hZ 1 dX5_ofRecord_1 rfl rfl ?_
  refine V_invV hZ me_X5_knownRecord mi_X5_knownRecord ml_X5_83 (t_knownRecord Z.1 R hp) dX5_ofRecord_2 rfl rfl (by assumption) rfl rfl ⟨by decide, by decide⟩ (by first | decide | simp [cat_rf, cat_ref, cat_int, cat_null] | simp [cat_rf, cat_ref, cat_int, cat_null, Value.category]) ⟨by decide, by decide⟩ (fun _ _ hq => ?_) (fun _ _ hq => hq.elim)
  obtain ⟨rfl, rfl⟩ := hq
  exact VX_out hZ hE hN (by decide) (by decide) ⟨rfl, rfl⟩
theorem auMap (R : Rep S h) (W : Wf S) {i j : Nat} (hi : i < nRc S) (hj : j < nRc S) : (rcAu (rcs S i)).map (adN S) = (rcAu (rcs S j)).map (adN S) ↔ rcAu (rcs S i) = rcAu (rcs S j) := by
  have h1 := (W.2.2.2.2.1 i hi).1
  have h2 := (W.2.2.2.2.1 j hj).1
  cases ha : rcAu (rcs S i) <;> cases hb : rcAu (rcs S j) <;> simp
  rename_i x y
  exact ⟨fun e => R.nameInj W (h1 x ha) (h2 y hb) e, fun e => by rw [e]⟩
abbrev likeS (S : St) (i j : Nat) : Int32 := likeN (rcAu (rcs S i)) (rcTi (rcs S i)) (rcYe (rcs S i)) (rcAu (rcs S j)) (rcTi (rcs S j)) (rcYe (rcs S j))
theorem c_likeS (R : Rep S h) (W : Wf S) {i j : Nat} (hi : i < nRc S) (hj : j < nRc S) : Calls G yX0_likenessTo cX0_likenessTo 2 (.some .int) 3 65 0 0 [.ref (adR S i), .ref (adR S j)] h (qV (.int (likeS S i j)) h) qX := by
  have hn : ∀ i, i < nRc S → ∀ x, (rcAu (rcs S i)).map (adN S) = some x → ∃ j, h x = some (mName j) := by
    intro i hi x hx
    cases ha : rcAu (rcs S i) with
    | none => rw [ha] at hx; cases hx
    | some a =>
      rw [ha] at hx
      cases hx
      exact ⟨a, R.name ((W.2.2.2.2.1 i hi).1 a ha)⟩
  have e := c_likenessTo G h (R.rec hi) (R.rec hj) (hn i hi) (hn j hj)
  have e2 : likeA ((rcAu (rcs S i)).map (adN S)) ((rcAu (rcs S j)).map (adN S)) = likeA (rcAu (rcs S i)) (rcAu (rcs S j)) := by simp only [likeA, auMap R W hi hj]
  simp only [likeN, e2] at e
  exact e
theorem c_likeness (R : Rep S h) (W : Wf S) {i j : Nat} (hi : i < nRc S) (hj : j < nRc S) : Calls G yX5_likeness cX5_likeness 3 (.some .int) 7 112 0 0 [.ref (aH S), .int (nI i), .int (nI j)] h (qV (.int (likeS S i j)) h) qX := by
  have h4 := R.hall
  have h5 := R.rec hi
  refine Calls_of1 (by decide +kernel) (by simp [cat_rf, cat_ref, cat_int, cat_null]) (by simp) (lv0 := [some (.ref (aH S)), some (.int (nI i)), some (.int (nI j))]) rfl ?_
  intro Z hG hZ hE hN
  subst hG
  refine V_aload_n hZ 0 dX5_likeness_0 rfl rfl (by first | rfl | exact isR_rf _) ?_
  refine V_iload_n hZ 1 dX5_likeness_1 rfl rfl ?_
  refine V_invVp hZ me_X5_knownRecord mi_X5_knownRecord ml_X5_83 (c_knownRecord Z.1 R W hi) dX5_likeness_2 rfl rfl (by assumption) rfl rfl ⟨by decide, by decide⟩ (by first | decide | simp [cat_rf, cat_ref, cat_int, cat_null] | simp [cat_rf, cat_ref, cat_int, cat_null, Value.category]) ⟨by decide, by decide⟩ ?_
  refine V_aload_n hZ 0 dX5_likeness_5 rfl rfl (by first | rfl | exact isR_rf _) ?_
  refine V_iload_n hZ 2 dX5_likeness_6 rfl rfl ?_
  refine V_invVp hZ me_X5_knownRecord mi_X5_knownRecord ml_X5_83 (c_knownRecord Z.1 R W hj) dX5_likeness_7 rfl rfl (by assumption) rfl rfl ⟨by decide, by decide⟩ (by first | decide | simp [cat_rf, cat_ref, cat_int, cat_null] | simp [cat_rf, cat_ref, cat_int, cat_null, Value.category]) ⟨by decide, by decide⟩ ?_
  refine V_invVp hZ me_X0_likenessTo mi_X0_likenessTo ml_X5_91 (c_likeS Z.1 R W hi hj) dX5_likeness_10 rfl rfl (by assumption) rfl rfl ⟨by decide, by decide⟩ (by first | decide | simp [cat_rf, cat_ref, cat_int, cat_null] | simp [cat_rf, cat_ref, cat_int, cat_null, Value.category]) ⟨by decide, by decide⟩ ?_
  refine V_iret hZ hE rfl (by rfl) dX5_likeness_13 (by decide) (by decide) ?_
  exact ⟨rfl, rfl⟩
theorem c_mayBorrow (R : Rep S h) (W : Wf S) {x : Nat} (hx : x < nRd S) : Calls G yX5_mayBorrow cX5_mayBorrow 2 (.some .int) 7 112 0 0 [.ref (aH S), .int (nI x)] h (qV (.int (nI (cn (mayB S x) 30))) h) qX := by
  have h4 := R.hall
  refine Calls_of1 (by decide +kernel) (by simp [cat_rf, cat_ref, cat_int, cat_null]) (by simp) (lv0 := [some (.ref (aH S)), some (.int (nI x))]) rfl ?_
  intro Z hG hZ hE hN
  subst hG
  refine V_aload_n hZ 0 dX5_mayBorrow_0 rfl rfl (by first | rfl | exact isR_rf _) ?_
  refine V_aload_n hZ 0 dX5_mayBorrow_1 rfl rfl (by first | rfl | exact isR_rf _) ?_
  refine V_iload_n hZ 1 dX5_mayBorrow_2 rfl rfl ?_
  refine V_invVp hZ me_X5_knownReader mi_X5_knownReader ml_X5_164 (c_knownReader Z.1 R W hx) dX5_mayBorrow_3 rfl rfl (by assumption) rfl rfl ⟨by decide, by decide⟩ (by first | decide | simp [cat_rf, cat_ref, cat_int, cat_null] | simp [cat_rf, cat_ref, cat_int, cat_null, Value.category]) ⟨by decide, by decide⟩ ?_
  refine V_invVp hZ me_X5_borrowable mi_X5_borrowable ml_X5_294 (c_borrowable Z.1 R W hx) dX5_mayBorrow_6 rfl rfl (by assumption) rfl rfl ⟨by decide, by decide⟩ (by first | decide | simp [cat_rf, cat_ref, cat_int, cat_null] | simp [cat_rf, cat_ref, cat_int, cat_null, Value.category]) ⟨by decide, by decide⟩ ?_
  refine V_iret hZ hE rfl (by rfl) dX5_mayBorrow_9 (by decide) (by decide) ?_
  exact ⟨rfl, rfl⟩
theorem c_lostIn (R : Rep S h) {d : Nat} (h1 : 1 ≤ d) (h2 : d ≤ 40) : Calls G yX5_lostIn cX5_lostIn 2 (.some .int) 7 112 0 0 [.ref (aH S), .int (nI d)] h (qV (.int (nI (cn (lostB S (nI d)) 30))) h) qX := by
  have h4 := R.hall
  refine Calls_of1 (by decide +kernel) (by simp [cat_rf, cat_ref, cat_int, cat_null]) (by simp) (lv0 := [some (.ref (aH S)), some (.int (nI d))]) rfl ?_
  intro Z hG hZ hE hN
  subst hG
  refine V_iload_n hZ 1 dX5_lostIn_0 rfl rfl ?_
  refine V_iconst (v := 1) hZ dX5_lostIn_1 (by decide) ?_
  refine V_bipush (v := 40) hZ dX5_lostIn_2 (by decide) ?_
  refine V_invS hZ me_X5_requireBetween ms_X5_requireBetween ml_X5_71 (c_requireBetween Z.1 h (no_gt (m := d) (k := 1) (by omega) (by omega)) (no_gt (m := 40) (by omega) (by decide))) dX5_lostIn_4 rfl rfl ⟨by decide, by decide⟩ (by first | decide | simp [cat_rf, cat_ref, cat_int, cat_null] | simp [cat_rf, cat_ref, cat_int, cat_null, Value.category]) ⟨by decide, by decide⟩ (fun _ _ hq => hq.elim) ?_
  rintro _ _ ⟨rfl, rfl⟩
  refine V_aload_n hZ 0 dX5_lostIn_7 rfl rfl (by first | rfl | exact isR_rf _) ?_
  refine V_iload_n hZ 1 dX5_lostIn_8 rfl rfl ?_
  refine V_invVp hZ me_X5_lostWithin mi_X5_lostWithin ml_X5_298 (c_lostWithin Z.1 R (nI d)) dX5_lostIn_9 rfl rfl (by assumption) rfl rfl ⟨by decide, by decide⟩ (by first | decide | simp [cat_rf, cat_ref, cat_int, cat_null] | simp [cat_rf, cat_ref, cat_int, cat_null, Value.category]) ⟨by decide, by decide⟩ ?_
  refine V_iret hZ hE rfl (by rfl) dX5_lostIn_12 (by decide) (by decide) ?_
  exact ⟨rfl, rfl⟩
/-- what a copy would cost in d days -/
def fineInN (S : St) (c : Nat) (d : Int32) : Int32 := if lostP (cpPl (cps S c)) (cpDy (cps S c)) (tdy S + d) then cpPr (cps S c) + 40 else fineN (cpPl (cps S c)) (cpDy (cps S c)) (tdy S + d)
theorem c_fineIn (R : Rep S h) (W : Wf S) {c d : Nat} (hi : c < nCp S) (hd : d ≤ 60) (hp : cpPl (cps S c) = 1) : Calls G yX5_fineIn cX5_fineIn 4 (.some .int) 7 112 0 0 [.ref (aH S), .int (nI c), .int (nI d)] h (qV (.int (fineInN S c (nI d))) h) qX := by
  have h4 := R.hall
  have h5 := R.copy hi
  refine Calls_of1 (by decide +kernel) (by simp [cat_rf, cat_ref, cat_int, cat_null]) (by simp) (lv0 := [some (.ref (aH S)), some (.int (nI c)), some (.int (nI d)), none]) rfl ?_
  intro Z hG hZ hE hN
  subst hG
  refine V_aload_n hZ 0 dX5_fineIn_0 rfl rfl (by first | rfl | exact isR_rf _) ?_
  refine V_iload_n hZ 1 dX5_fineIn_1 rfl rfl ?_
  refine V_invVp hZ me_X5_knownCopy mi_X5_knownCopy ml_X5_148 (c_knownCopy Z.1 R W hi) dX5_fineIn_2 rfl rfl (by assumption) rfl rfl ⟨by decide, by decide⟩ (by first | decide | simp [cat_rf, cat_ref, cat_int, cat_null] | simp [cat_rf, cat_ref, cat_int, cat_null, Value.category]) ⟨by decide, by decide⟩ ?_
  refine V_astore_n hZ 3 rfl dX5_fineIn_5 (by first | rfl | exact isR_rf _) (by decide) (by first | rfl | simp [okp, cat_rf, cat_ref, cat_int, cat_null]) ?_
  refine V.lvc (by simp only [List.set_cons_zero, List.set_cons_succ, Nat.reduceAdd]; rfl) ?_
  refine V_iload_n hZ 2 dX5_fineIn_6 rfl rfl ?_
  refine V_iconst (v := 0) hZ dX5_fineIn_7 (by decide) ?_
  refine V_bipush (v := 60) hZ dX5_fineIn_8 (by decide) ?_
  refine V_invS hZ me_X5_requireBetween ms_X5_requireBetween ml_X5_71 (c_requireBetween Z.1 h (no_lt0 (by omega)) (no_gt (m := 60) (by omega) (by decide))) dX5_fineIn_10 rfl rfl ⟨by decide, by decide⟩ (by first | decide | simp [cat_rf, cat_ref, cat_int, cat_null] | simp [cat_rf, cat_ref, cat_int, cat_null, Value.category]) ⟨by decide, by decide⟩ (fun _ _ hq => hq.elim) ?_
  rintro _ _ ⟨rfl, rfl⟩
  refine V_aload_n hZ 3 dX5_fineIn_13 rfl rfl (by first | rfl | exact isR_rf _) ?_
  refine V_getfield hZ fl_X5_215.r dX5_fineIn_14 (by assumption) (by rfl) ?_
  refine V_iconst (v := 1) hZ dX5_fineIn_17 (by decide) ?_
  refine V_icmp_eq (tgt := 31) hZ dX5_fineIn_18 (by decide) (fun c1 => ?_) (fun c1 => ?_)
  · refine V_aload_n hZ 3 dX5_fineIn_31 rfl rfl (by first | rfl | exact isR_rf _) ?_
    refine V_aload_n hZ 0 dX5_fineIn_32 rfl rfl (by first | rfl | exact isR_rf _) ?_
    refine V_getfield hZ fl_X5_181.r dX5_fineIn_33 (by assumption) (by rfl) ?_
    refine V_iload_n hZ 2 dX5_fineIn_36 rfl rfl ?_
    refine V_iadd hZ dX5_fineIn_37 ?_
    refine V_invVp hZ me_X1_isLostOn mi_X1_isLostOn ml_X5_280 (c_isLostOn Z.1 _ h5 (tdy S + nI d)) dX5_fineIn_38 rfl rfl (by assumption) rfl rfl ⟨by decide, by decide⟩ (by first | decide | simp [cat_rf, cat_ref, cat_int, cat_null] | simp [cat_rf, cat_ref, cat_int, cat_null, Value.category]) ⟨by decide, by decide⟩ ?_
    refine V_if_eq (tgt := 51) hZ dX5_fineIn_41 (by decide) (fun c2 => ?_) (fun c2 => ?_)
    · refine V_aload_n hZ 3 dX5_fineIn_51 rfl rfl (by first | rfl | exact isR_rf _) ?_
      refine V_aload_n hZ 0 dX5_fineIn_52 rfl rfl (by first | rfl | exact isR_rf _) ?_
      refine V_getfield hZ fl_X5_181.r dX5_fineIn_53 (by assumption) (by rfl) ?_
      refine V_iload_n hZ 2 dX5_fineIn_56 rfl rfl ?_
      refine V_iadd hZ dX5_fineIn_57 ?_
      refine V_invVp hZ me_X1_fineOn mi_X1_fineOn ml_X5_220 (c_fineOn Z.1 _ h5 (tdy S + nI d)) dX5_fineIn_58 rfl rfl (by assumption) rfl rfl ⟨by decide, by decide⟩ (by first | decide | simp [cat_rf, cat_ref, cat_int, cat_null] | simp [cat_rf, cat_ref, cat_int, cat_null, Value.category]) ⟨by decide, by decide⟩ ?_
      refine V_iret hZ hE rfl (by rfl) dX5_fineIn_61 (by decide) (by decide) ?_
      exact ⟨by rw [fineInN, if_neg (b01_z c2)], rfl⟩
    · refine V_aload_n hZ 3 dX5_fineIn_44 rfl rfl (by first | rfl | exact isR_rf _) ?_
      refine V_invVp hZ me_X1_feeWhenLost mi_X1_feeWhenLost ml_X5_283 (c_feeWhenLost Z.1 _ h5) dX5_fineIn_45 rfl rfl (by assumption) rfl rfl ⟨by decide, by decide⟩ (by first | decide | simp [cat_rf, cat_ref, cat_int, cat_null] | simp [cat_rf, cat_ref, cat_int, cat_null, Value.category]) ⟨by decide, by decide⟩ ?_
      refine V_goto (tgt := 61) hZ dX5_fineIn_48 (by decide) ?_
      refine V_iret hZ hE rfl (by rfl) dX5_fineIn_61 (by decide) (by decide) ?_
      exact ⟨by rw [fineInN, if_pos (b01_nz c2)], rfl⟩
  · exact absurd hp c1
/-- soon: the answer, and the state behind it (only when copies are there was reckoned) -/
def soonN (S : St) (x r : Nat) : Int32 := if noneA S r x = true then (servN x r (lin S r) (rkS S r)).1 else 0
def soonS (S : St) (x r : Nat) : St := if noneA S r x = true then (servN x r (lin S r) (rkS S r)).2 else S
theorem c_soon (R : Rep S h) (W : Wf S) {x i : Nat} (hx : x < nRd S) (hi : i < nRc S) (hw : x ∈ lin S (live S i)) : Calls G yX5_soon cX5_soon 5 (.some .int) 7 112 0 0 [.ref (aH S), .int (nI x), .int (nI i)] h (fun v h' => v = some (.int (soonN S x (live S i))) ∧ Rep (soonS S x (live S i)) h') qX := by
  have h4 := R.hall
  have hl := live_lt W hi
  have h5 := R.rec hi
  have h6 := R.rec hl
  have h7 := R.line hl
  refine Calls_of1 (by decide +kernel) (by simp [cat_rf, cat_ref, cat_int, cat_null]) (by simp) (lv0 := [some (.ref (aH S)), some (.int (nI x)), some (.int (nI i)), none, none]) rfl ?_
  intro Z hG hZ hE hN
  subst hG
  refine V_aload_n hZ 0 dX5_soon_0 rfl rfl (by first | rfl | exact isR_rf _) ?_
  refine V_iload_n hZ 1 dX5_soon_1 rfl rfl ?_
  refine V_invVp hZ me_X5_knownReader mi_X5_knownReader ml_X5_164 (c_knownReader Z.1 R W hx) dX5_soon_2 rfl rfl (by assumption) rfl rfl ⟨by decide, by decide⟩ (by first | decide | simp [cat_rf, cat_ref, cat_int, cat_null] | simp [cat_rf, cat_ref, cat_int, cat_null, Value.category]) ⟨by decide, by decide⟩ ?_
  refine V_astore_n hZ 3 rfl dX5_soon_5 (by first | rfl | exact isR_rf _) (by decide) (by first | rfl | simp [okp, cat_rf, cat_ref, cat_int, cat_null]) ?_
  refine V.lvc (by simp only [List.set_cons_zero, List.set_cons_succ, Nat.reduceAdd]; rfl) ?_
  refine V_aload_n hZ 0 dX5_soon_6 rfl rfl (by first | rfl | exact isR_rf _) ?_
  refine V_iload_n hZ 2 dX5_soon_7 rfl rfl ?_
  refine V_invVp hZ me_X5_knownRecord mi_X5_knownRecord ml_X5_83 (c_knownRecord Z.1 R W hi) dX5_soon_8 rfl rfl (by assumption) rfl rfl ⟨by decide, by decide⟩ (by first | decide | simp [cat_rf, cat_ref, cat_int, cat_null] | simp [cat_rf, cat_ref, cat_int, cat_null, Value.category]) ⟨by decide, by decide⟩ ?_
  refine V_invVp hZ me_X0_liveOne mi_X0_liveOne ml_X5_95 (c_liveOne Z.1 R W hi) dX5_soon_11 rfl rfl (by assumption) rfl rfl ⟨by decide, by decide⟩ (by first | decide | simp [cat_rf, cat_ref, cat_int, cat_null] | simp [cat_rf, cat_ref, cat_int, cat_null, Value.category]) ⟨by decide, by decide⟩ ?_
  refine V_astore hZ dX5_soon_14 (by first | rfl | exact isR_rf _) (by decide) (by first | rfl | simp [okp, cat_rf, cat_ref, cat_int, cat_null]) ?_
  refine V.lvc (by simp only [List.set_cons_zero, List.set_cons_succ, Nat.reduceAdd]; rfl) ?_
  refine V_aload hZ dX5_soon_16 rfl (by first | rfl | exact isR_rf _) ?_
  refine V_getfield hZ fl_X5_235 dX5_soon_18 (by assumption) (by rfl) ?_
  refine V_aload_n hZ 3 dX5_soon_21 rfl rfl (by first | rfl | exact isR_rf _) ?_
  refine V_invVp hZ me_X4_holds mi_X4_holds ml_X5_239 (c_holdsS Z.1 R W hl (o := some x) (fun y hy => by cases hy; exact hx)) dX5_soon_22 rfl rfl (by assumption) rfl rfl ⟨by decide, by decide⟩ (by first | decide | simp [cat_rf, cat_ref, cat_int, cat_null] | simp [cat_rf, cat_ref, cat_int, cat_null, Value.category]) ⟨by decide, by decide⟩ ?_
  refine V_if_ne (tgt := 39) hZ dX5_soon_25 (by decide) (fun c1 => ?_) (fun c1 => ?_)
  · refine V_aload_n hZ 0 dX5_soon_39 rfl rfl (by first | rfl | exact isR_rf _) ?_
    refine V_aload_n hZ 3 dX5_soon_40 rfl rfl (by first | rfl | exact isR_rf _) ?_
    refine V_aload hZ dX5_soon_41 rfl (by first | rfl | exact isR_rf _) ?_
    refine V_invVp hZ me_X5_firstAside mi_X5_firstAside ml_X5_286 (c_firstAside Z.1 R W (o := some x) hl (fun y hy => by cases hy; exact hx)) dX5_soon_43 rfl rfl (by assumption) rfl rfl ⟨by decide, by decide⟩ (by first | decide | simp [cat_rf, cat_ref, cat_int, cat_null] | simp [cat_rf, cat_ref, cat_int, cat_null, Value.category]) ⟨by decide, by decide⟩ ?_
    cases hz : fN (asideB S (some x) (live S i)) 30 0 with
    | none =>
      have hn : noneA S (live S i) x = true := by simp [noneA, hz]
      refine V_ifnullN (tgt := 51) hZ dX5_soon_46 (by decide) ?_
      refine V_aload_n hZ 0 dX5_soon_51 rfl rfl (by first | rfl | exact isR_rf _) ?_
      refine V_aload_n hZ 3 dX5_soon_52 rfl rfl (by first | rfl | exact isR_rf _) ?_
      refine V_aload hZ dX5_soon_53 rfl (by first | rfl | exact isR_rf _) ?_
      refine V_invV hZ me_X5_daysUntilServed mi_X5_daysUntilServed ml_X5_290 (c_daysUntilServed Z.1 R W hx hl) dX5_soon_55 rfl rfl (by assumption) rfl rfl ⟨by decide, by decide⟩ (by first | decide | simp [cat_rf, cat_ref, cat_int, cat_null] | simp [cat_rf, cat_ref, cat_int, cat_null, Value.category]) ⟨by decide, by decide⟩ (fun _ _ hq => hq.elim) ?_
      rintro _ h' ⟨rfl, R'⟩
      refine V_iret hZ hE rfl (by rfl) dX5_soon_58 (by decide) (by decide) ?_
      rw [soonN, soonS, if_pos hn, if_pos hn]
      exact ⟨rfl, R'⟩
    | some d =>
      have hn : ¬ noneA S (live S i) x = true := by simp [noneA, hz]
      refine V_ifnullR hZ dX5_soon_46 ?_
      refine V_iconst (v := 0) hZ dX5_soon_49 (by decide) ?_
      refine V_iret hZ hE rfl (by rfl) dX5_soon_50 (by decide) (by decide) ?_
      rw [soonN, soonS, if_neg hn, if_neg hn]
      exact ⟨rfl, R⟩
  · have c2 := b01_z c1
    exact absurd (by simp [holdsB]; exact hw) c2
theorem c_waiter (R : Rep S h) (W : Wf S) {i j x : Nat} (hi : i < nRc S) (hj : (lin S (live S i))[j]? = some x) : Calls G yX5_waiter cX5_waiter 4 (.some .int) 7 112 0 0 [.ref (aH S), .int (nI i), .int (nI j)] h (qV (.int (nI x)) h) qX := by
  have h4 := R.hall
  have hl := live_lt W hi
  have h5 := R.rec hi
  have h6 := R.rec hl
  have h7 := R.line hl
  have hxb : x < nRd S := (W_lin W hl).2 x (List.mem_of_getElem? hj)
  have h8 := R.rdr hxb
  have hj8 : j < 8 := Nat.lt_of_lt_of_le (List.getElem?_eq_some_iff.mp hj).1 (W_lin W hl).1
  refine Calls_of1 (by decide +kernel) (by simp [cat_rf, cat_ref, cat_int, cat_null]) (by simp) (lv0 := [some (.ref (aH S)), some (.int (nI i)), some (.int (nI j)), none]) rfl ?_
  intro Z hG hZ hE hN
  subst hG
  refine V_aload_n hZ 0 dX5_waiter_0 rfl rfl (by first | rfl | exact isR_rf _) ?_
  refine V_iload_n hZ 1 dX5_waiter_1 rfl rfl ?_
  refine V_invVp hZ me_X5_knownRecord mi_X5_knownRecord ml_X5_83 (c_knownRecord Z.1 R W hi) dX5_waiter_2 rfl rfl (by assumption) rfl rfl ⟨by decide, by decide⟩ (by first | decide | simp [cat_rf, cat_ref, cat_int, cat_null] | simp [cat_rf, cat_ref, cat_int, cat_null, Value.category]) ⟨by decide, by decide⟩ ?_
  refine V_invVp hZ me_X0_liveOne mi_X0_liveOne ml_X5_95 (c_liveOne Z.1 R W hi) dX5_waiter_5 rfl rfl (by assumption) rfl rfl ⟨by decide, by decide⟩ (by first | decide | simp [cat_rf, cat_ref, cat_int, cat_null] | simp [cat_rf, cat_ref, cat_int, cat_null, Value.category]) ⟨by decide, by decide⟩ ?_
  refine V_getfield hZ fl_X5_235 dX5_waiter_8 (by assumption) (by rfl) ?_
  refine V_iload_n hZ 2 dX5_waiter_11 rfl rfl ?_
  refine V_invVp hZ me_X4_at mi_X4_at ml_X5_265 (c_at Z.1 h h7 (R.row hl) (nI j)) dX5_waiter_12 rfl rfl (by assumption) rfl rfl ⟨by decide, by decide⟩ (by first | decide | simp [cat_rf, cat_ref, cat_int, cat_null] | simp [cat_rf, cat_ref, cat_int, cat_null, Value.category]) ⟨by decide, by decide⟩ ?_
  rw [if_pos ⟨nI_pos' (by omega), (nI_ltI (b := 8) (by omega) (by decide)).mpr hj8⟩, nI_clamp (by omega), lnf_some hj]
  refine V_astore_n hZ 3 rfl dX5_waiter_15 (by first | rfl | exact isR_rf _) (by decide) (by first | rfl | simp [okp, cat_rf, cat_ref, cat_int, cat_null]) ?_
  refine V.lvc (by simp only [List.set_cons_zero, List.set_cons_succ, Nat.reduceAdd]; rfl) ?_
  refine V_aload_n hZ 3 dX5_waiter_16 rfl rfl (by first | rfl | exact isR_rf _) ?_
  refine V_ifnonnullR (tgt := 31) hZ dX5_waiter_17 (by decide) ?_
  refine V_aload_n hZ 3 dX5_waiter_31 rfl rfl (by first | rfl | exact isR_rf _) ?_
  refine V_getfield hZ fl_X5_273 dX5_waiter_32 (by assumption) (by rfl) ?_
  refine V_iret hZ hE rfl (by rfl) dX5_waiter_35 (by decide) (by decide) ?_
  exact ⟨rfl, rfl⟩
/-- the live record most like i -/
def twB (S : St) (i : Nat) (o : Option Nat) (c : Nat) : Bool := liveB S c && decide (¬ c = live S i) && (match o with
  | none => true
  | some d => decide (likeS S i d < likeS S i c))
def twN (S : St) (i : Nat) : Nat → Option Nat
  | 0 => none
  | k + 1 => if twB S i (twN S i k) k = true then some k else twN S i k
theorem twN_t {i k : Nat} (h : twB S i (twN S i k) k = true) : twN S i (k + 1) = some k := by simp [twN, h]
theorem twN_f {i k : Nat} (h : twB S i (twN S i k) k = false) : twN S i (k + 1) = twN S i k := by simp [twN, h]
theorem tw_prop {i : Nat} : ∀ {k d : Nat}, twN S i k = some d → d < nRc S ∧ rcWe (rcs S d) = none ∧ ¬ d = live S i := by
  intro k
  induction k with
  | zero => intro d h; cases h
  | succ k ih =>
    intro d h
    cases hb : twB S i (twN S i k) k with
    | true =>
      rw [twN_t hb] at h
      cases h
      simp only [twB, liveB, Bool.and_eq_true, decide_eq_true_eq] at hb
      exact ⟨hb.1.1.1, hb.1.1.2, hb.1.2⟩
    | false =>
      rw [twN_f hb] at h
      exact ih h
def twinN (S : St) (i : Nat) (m : Int32) : Int32 := match twN S i 20 with
  | none => -1
  | some d => if likeS S i d < m then -1 else nI d
theorem c_twin (R : Rep S h) (W : Wf S) {i : Nat} (hi : i < nRc S) (lm : Int32) : Calls G yX5_twin cX5_twin 10 (.some .int) 7 112 0 0 [.ref (aH S), .int (nI i), .int lm] h (qV (.int (twinN S i lm)) h) qX := by
  have h4 := R.hall
  have h2 := R.records
  have hl := live_lt W hi
  have h5 := R.rec hi
  refine Calls_of1 (by decide +kernel) (by simp [cat_rf, cat_ref, cat_int, cat_null]) (by simp) (lv0 := [some (.ref (aH S)), some (.int (nI i)), some (.int lm), none, none, none, none, none, none, none]) rfl ?_
  intro Z hG hZ hE hN
  subst hG
  refine V_aload_n hZ 0 dX5_twin_0 rfl rfl (by first | rfl | exact isR_rf _) ?_
  refine V_iload_n hZ 1 dX5_twin_1 rfl rfl ?_
  refine V_invVp hZ me_X5_knownRecord mi_X5_knownRecord ml_X5_83 (c_knownRecord Z.1 R W hi) dX5_twin_2 rfl rfl (by assumption) rfl rfl ⟨by decide, by decide⟩ (by first | decide | simp [cat_rf, cat_ref, cat_int, cat_null] | simp [cat_rf, cat_ref, cat_int, cat_null, Value.category]) ⟨by decide, by decide⟩ ?_
  refine V_astore_n hZ 3 rfl dX5_twin_5 (by first | rfl | exact isR_rf _) (by decide) (by first | rfl | simp [okp, cat_rf, cat_ref, cat_int, cat_null]) ?_
  refine V.lvc (by simp only [List.set_cons_zero, List.set_cons_succ, Nat.reduceAdd]; rfl) ?_
  refine V_aload_n hZ 3 dX5_twin_6 rfl rfl (by first | rfl | exact isR_rf _) ?_
  refine V_invVp hZ me_X0_liveOne mi_X0_liveOne ml_X5_95 (c_liveOne Z.1 R W hi) dX5_twin_7 rfl rfl (by assumption) rfl rfl ⟨by decide, by decide⟩ (by first | decide | simp [cat_rf, cat_ref, cat_int, cat_null] | simp [cat_rf, cat_ref, cat_int, cat_null, Value.category]) ⟨by decide, by decide⟩ ?_
  refine V_astore hZ dX5_twin_10 (by first | rfl | exact isR_rf _) (by decide) (by first | rfl | simp [okp, cat_rf, cat_ref, cat_int, cat_null]) ?_
  refine V.lvc (by simp only [List.set_cons_zero, List.set_cons_succ, Nat.reduceAdd]; rfl) ?_
  refine V_null hZ dX5_twin_12 ?_
  refine V_astore hZ dX5_twin_13 (by first | rfl | exact isR_rf _) (by decide) (by first | rfl | simp [okp, cat_rf, cat_ref, cat_int, cat_null]) ?_
  refine V.lvc (by simp only [List.set_cons_zero, List.set_cons_succ, Nat.reduceAdd]; rfl) ?_
  refine V_aload_n hZ 0 dX5_twin_15 rfl rfl (by first | rfl | exact isR_rf _) ?_
  refine V_getfield hZ fl_X5_17.r dX5_twin_16 (by assumption) (by rfl) ?_
  refine V_astore hZ dX5_twin_19 (by first | rfl | exact isR_rf _) (by decide) (by first | rfl | simp [okp, cat_rf, cat_ref, cat_int, cat_null]) ?_
  refine V.lvc (by simp only [List.set_cons_zero, List.set_cons_succ, Nat.reduceAdd]; rfl) ?_
  refine V_aload hZ dX5_twin_21 rfl (by first | rfl | exact isR_rf _) ?_
  refine V_alenR hZ dX5_twin_23 (by assumption) ?_
  refine V_istore hZ dX5_twin_24 (by decide) (by first | rfl | simp [okp, cat_rf, cat_ref, cat_int, cat_null]) ?_
  refine V.lvc (by simp only [List.set_cons_zero, List.set_cons_succ, Nat.reduceAdd]; rfl) ?_
  refine V_iconst (v := 0) hZ dX5_twin_26 (by decide) ?_
  refine V_istore hZ dX5_twin_27 (by decide) (by first | rfl | simp [okp, cat_rf, cat_ref, cat_int, cat_null]) ?_
  refine V.lvc (by simp only [List.set_cons_zero, List.set_cons_succ, Nat.reduceAdd]; rfl) ?_
  have key : ∀ m c, c + m = 20 → ∀ w, V Z 29 [some (.ref (aH S)), some (.int (nI i)), some (.int lm), some (.ref (adR S i)), some (.ref (adR S (live S i))), some (va_rf ((twN S i c).map (adR S))), some (.ref (aRs S)), some (.int (nI 20)), some (.int (nI c)), w] [] h 0 0 := by
    intro m
    induction m with
    | zero =>
      intro c hcm  w
      have hc : c = 20 := by omega
      subst hc
      refine V_iload hZ dX5_twin_29 rfl ?_
      refine V_iload hZ dX5_twin_31 rfl ?_
      refine V_icmp_ge (tgt := 93) hZ dX5_twin_33 (by decide) (fun cE => ?_) (fun cE => ?_)
      · refine V_aload hZ dX5_twin_93 rfl (by first | rfl | exact isR_rf _) ?_
        cases hz : twN S i 20 with
        | none =>
          refine V_ifnullN (tgt := 108) hZ dX5_twin_95 (by decide) ?_
          refine V_iconst (v := -1) hZ dX5_twin_108 (by decide) ?_
          refine V_goto (tgt := 117) hZ dX5_twin_109 (by decide) ?_
          refine V_iret hZ hE rfl (by rfl) dX5_twin_117 (by decide) (by decide) ?_
          exact ⟨by simp only [twinN, hz], rfl⟩
        | some d =>
          have hd := tw_prop hz
          have h6 := R.rec hd.1
          refine V_ifnullR hZ dX5_twin_95 ?_
          refine V_aload_n hZ 3 dX5_twin_98 rfl rfl (by first | rfl | exact isR_rf _) ?_
          refine V_aload hZ dX5_twin_99 rfl (by first | rfl | exact isR_rf _) ?_
          refine V_invVp hZ me_X0_likenessTo mi_X0_likenessTo ml_X5_91 (c_likeS Z.1 R W hi hd.1) dX5_twin_101 rfl rfl (by assumption) rfl rfl ⟨by decide, by decide⟩ (by first | decide | simp [cat_rf, cat_ref, cat_int, cat_null] | simp [cat_rf, cat_ref, cat_int, cat_null, Value.category]) ⟨by decide, by decide⟩ ?_
          refine V_iload_n hZ 2 dX5_twin_104 rfl rfl ?_
          refine V_icmp_ge (tgt := 112) hZ dX5_twin_105 (by decide) (fun c1 => ?_) (fun c1 => ?_)
          · refine V_aload hZ dX5_twin_112 rfl (by first | rfl | exact isR_rf _) ?_
            refine V_getfield hZ fl_X5_103 dX5_twin_114 (by assumption) (by rfl) ?_
            refine V_iret hZ hE rfl (by rfl) dX5_twin_117 (by decide) (by decide) ?_
            have c2 : ¬ likeS S i d < lm := Int32.not_lt.mpr c1
            exact ⟨by simp only [twinN, hz, if_neg c2], rfl⟩
          · refine V_iconst (v := -1) hZ dX5_twin_108 (by decide) ?_
            refine V_goto (tgt := 117) hZ dX5_twin_109 (by decide) ?_
            refine V_iret hZ hE rfl (by rfl) dX5_twin_117 (by decide) (by decide) ?_
            have c2 : likeS S i d < lm := Int32.not_le.mp c1
            exact ⟨by simp only [twinN, hz, if_pos c2], rfl⟩
      · exact absurd (by decide) cE
    | succ m ih =>
      intro c hcm  w
      have hcN : c < 20 := by omega
      refine V_iload hZ dX5_twin_29 rfl ?_
      refine V_iload hZ dX5_twin_31 rfl ?_
      refine V_icmp_ge (tgt := 93) hZ dX5_twin_33 (by decide) (fun cE => ?_) (fun cE => ?_)
      · have cE2 : 20 ≤ c := (nI_leI (a := 20) (by decide) (by omega)).mp cE
        omega
      · refine V_aload hZ dX5_twin_36 rfl (by first | rfl | exact isR_rf _) ?_
        refine V_iload hZ dX5_twin_38 rfl ?_
        by_cases hi' : c < nRc S
        · refine V_aaldn hZ dX5_twin_40 (by assumption) hcN (by decide) (v := .ref (adR S c)) (rowf_lt hi') ?_
          refine V_astore hZ dX5_twin_41 (by first | rfl | exact isR_rf _) (by decide) (by first | rfl | simp [okp, cat_rf, cat_ref, cat_int, cat_null]) ?_
          refine V.lvc (by simp only [List.set_cons_zero, List.set_cons_succ, Nat.reduceAdd]; rfl) ?_
          refine V_aload hZ dX5_twin_43 rfl (by first | rfl | exact isR_rf _) ?_
          refine V_ifnullR hZ dX5_twin_45 ?_
          have h3 := R.rec hi'
          refine V_aload hZ dX5_twin_48 rfl (by first | rfl | exact isR_rf _) ?_
          refine V_invVp hZ me_X0_isLive mi_X0_isLive ml_X5_99 (c_isLive Z.1 h h3) dX5_twin_50 rfl rfl (by assumption) rfl rfl ⟨by decide, by decide⟩ (by first | decide | simp [cat_rf, cat_ref, cat_int, cat_null] | simp [cat_rf, cat_ref, cat_int, cat_null, Value.category]) ⟨by decide, by decide⟩ ?_
          refine V_if_eq (tgt := 87) hZ dX5_twin_53 (by decide) (fun c1 => ?_) (fun c1 => ?_)
          · refine V_iincv hZ dX5_twin_87 rfl (by decide) (by first | rfl | simp [okp, cat_rf, cat_ref, cat_int, cat_null]) (by first | exact nI_inc _ | rfl) ?_
            refine V.lvc (by simp only [List.set_cons_zero, List.set_cons_succ, Nat.reduceAdd]; rfl) ?_
            refine V_goto (tgt := 29) hZ dX5_twin_90 (by decide) ?_
            have e := ih (c + 1) (by omega) (some (.ref (adR S c)))
            have c2 : ¬ rcWe (rcs S c) = none := fun z => absurd c1 (by simp [b01, z])
            rw [twN_f (by simp [twB, liveB, c2])] at e
            exact e
          · have c2 : rcWe (rcs S c) = none := by
              cases hz : rcWe (rcs S c) with
              | none => rfl
              | some x => exact absurd (by simp [b01, hz]) c1
            refine V_aload hZ dX5_twin_56 rfl (by first | rfl | exact isR_rf _) ?_
            refine V_aload hZ dX5_twin_58 rfl (by first | rfl | exact isR_rf _) ?_
            refine V_acmp_eq (tgt := 87) hZ dX5_twin_60 (by decide) (by first | rfl | exact isR_rf _) (by first | rfl | exact isR_rf _) (fun c3 => ?_) (fun c3 => ?_)
            · refine V_iincv hZ dX5_twin_87 rfl (by decide) (by first | rfl | simp [okp, cat_rf, cat_ref, cat_int, cat_null]) (by first | exact nI_inc _ | rfl) ?_
              refine V.lvc (by simp only [List.set_cons_zero, List.set_cons_succ, Nat.reduceAdd]; rfl) ?_
              refine V_goto (tgt := 29) hZ dX5_twin_90 (by decide) ?_
              have e := ih (c + 1) (by omega) (some (.ref (adR S c)))
              have c4 : c = live S i := (recIff R W hi' hl).mp (refIff.mp c3)
              rw [twN_f (by simp [twB, c4])] at e
              exact e
            · have c4 : ¬ c = live S i := fun z => c3 (by rw [z])
              refine V_aload hZ dX5_twin_63 rfl (by first | rfl | exact isR_rf _) ?_
              cases hz : twN S i c with
              | none =>
                refine V_ifnullN (tgt := 83) hZ dX5_twin_65 (by decide) ?_
                refine V_aload hZ dX5_twin_83 rfl (by first | rfl | exact isR_rf _) ?_
                refine V_astore hZ dX5_twin_85 (by first | rfl | exact isR_rf _) (by decide) (by first | rfl | simp [okp, cat_rf, cat_ref, cat_int, cat_null]) ?_
                refine V.lvc (by simp only [List.set_cons_zero, List.set_cons_succ, Nat.reduceAdd]; rfl) ?_
                refine V_iincv hZ dX5_twin_87 rfl (by decide) (by first | rfl | simp [okp, cat_rf, cat_ref, cat_int, cat_null]) (by first | exact nI_inc _ | rfl) ?_
                refine V.lvc (by simp only [List.set_cons_zero, List.set_cons_succ, Nat.reduceAdd]; rfl) ?_
                refine V_goto (tgt := 29) hZ dX5_twin_90 (by decide) ?_
                have e := ih (c + 1) (by omega) (some (.ref (adR S c)))
                rw [twN_t (by simp [twB, liveB, hz, hi', c2, c4])] at e
                exact e
              | some d =>
                have hd := tw_prop hz
                refine V_ifnullR hZ dX5_twin_65 ?_
                refine V_aload_n hZ 3 dX5_twin_68 rfl rfl (by first | rfl | exact isR_rf _) ?_
                refine V_aload hZ dX5_twin_69 rfl (by first | rfl | exact isR_rf _) ?_
                refine V_invVp hZ me_X0_likenessTo mi_X0_likenessTo ml_X5_91 (c_likeS Z.1 R W hi hi') dX5_twin_71 rfl rfl (by assumption) rfl rfl ⟨by decide, by decide⟩ (by first | decide | simp [cat_rf, cat_ref, cat_int, cat_null] | simp [cat_rf, cat_ref, cat_int, cat_null, Value.category]) ⟨by decide, by decide⟩ ?_
                refine V_aload_n hZ 3 dX5_twin_74 rfl rfl (by first | rfl | exact isR_rf _) ?_
                refine V_aload hZ dX5_twin_75 rfl (by first | rfl | exact isR_rf _) ?_
                refine V_invVp hZ me_X0_likenessTo mi_X0_likenessTo ml_X5_91 (c_likeS Z.1 R W hi hd.1) dX5_twin_77 rfl rfl (by assumption) rfl rfl ⟨by decide, by decide⟩ (by first | decide | simp [cat_rf, cat_ref, cat_int, cat_null] | simp [cat_rf, cat_ref, cat_int, cat_null, Value.category]) ⟨by decide, by decide⟩ ?_
                refine V_icmp_le (tgt := 87) hZ dX5_twin_80 (by decide) (fun c5 => ?_) (fun c5 => ?_)
                · refine V_iincv hZ dX5_twin_87 rfl (by decide) (by first | rfl | simp [okp, cat_rf, cat_ref, cat_int, cat_null]) (by first | exact nI_inc _ | rfl) ?_
                  refine V.lvc (by simp only [List.set_cons_zero, List.set_cons_succ, Nat.reduceAdd]; rfl) ?_
                  refine V_goto (tgt := 29) hZ dX5_twin_90 (by decide) ?_
                  have e := ih (c + 1) (by omega) (some (.ref (adR S c)))
                  have c6 : ¬ likeS S i d < likeS S i c := Int32.not_lt.mpr c5
                  rw [twN_f (by simp only [twB, hz, decide_eq_false c6, Bool.and_false]), hz] at e
                  exact e
                · refine V_aload hZ dX5_twin_83 rfl (by first | rfl | exact isR_rf _) ?_
                  refine V_astore hZ dX5_twin_85 (by first | rfl | exact isR_rf _) (by decide) (by first | rfl | simp [okp, cat_rf, cat_ref, cat_int, cat_null]) ?_
                  refine V.lvc (by simp only [List.set_cons_zero, List.set_cons_succ, Nat.reduceAdd]; rfl) ?_
                  refine V_iincv hZ dX5_twin_87 rfl (by decide) (by first | rfl | simp [okp, cat_rf, cat_ref, cat_int, cat_null]) (by first | exact nI_inc _ | rfl) ?_
                  refine V.lvc (by simp only [List.set_cons_zero, List.set_cons_succ, Nat.reduceAdd]; rfl) ?_
                  refine V_goto (tgt := 29) hZ dX5_twin_90 (by decide) ?_
                  have e := ih (c + 1) (by omega) (some (.ref (adR S c)))
                  have c6 : likeS S i d < likeS S i c := Int32.not_le.mp c5
                  rw [twN_t (by simp only [twB, liveB, hz, decide_eq_true c6, decide_eq_true c4, decide_eq_true (show c < nRc S ∧ rcWe (rcs S c) = none from ⟨hi', c2⟩), Bool.and_self])] at e
                  exact e
        · refine V_aaldn hZ dX5_twin_40 (by assumption) hcN (by decide) (v := .null) (rowf_ge hi') ?_
          refine V_astore hZ dX5_twin_41 (by first | rfl | exact isR_rf _) (by decide) (by first | rfl | simp [okp, cat_rf, cat_ref, cat_int, cat_null]) ?_
          refine V.lvc (by simp only [List.set_cons_zero, List.set_cons_succ, Nat.reduceAdd]; rfl) ?_
          refine V_aload hZ dX5_twin_43 rfl (by first | rfl | exact isR_rf _) ?_
          refine V_ifnullN (tgt := 87) hZ dX5_twin_45 (by decide) ?_
          refine V_iincv hZ dX5_twin_87 rfl (by decide) (by first | rfl | simp [okp, cat_rf, cat_ref, cat_int, cat_null]) (by first | exact nI_inc _ | rfl) ?_
          refine V.lvc (by simp only [List.set_cons_zero, List.set_cons_succ, Nat.reduceAdd]; rfl) ?_
          refine V_goto (tgt := 29) hZ dX5_twin_90 (by decide) ?_
          have e := ih (c + 1) (by omega) (some .null)
          rw [twN_f (by simp [twB, liveB, hi'])] at e
          exact e
  exact key 20 0 rfl none
end

