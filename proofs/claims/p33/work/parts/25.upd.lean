/-! the heap with other copies, readers, lines, records, another day -/
theorem ne_of {h : HP} {a b : Nat} {x y : ME} (ha : h a = some x) (hb : h b = some y) (hxy : x ≠ y) : a ≠ b := fun z => by
  subst z
  exact hxy (Option.some.inj (ha.symm.trans hb))
section
variable {h : HP} {S : St}
theorem rep_cp (R : Rep S h) (W : Wf S) {i : Nat} (hi : i < nCp S) (c : Cp) : Rep (setCp S i c) (hup h (adC S i) (mCopy i (cpPr c) (adR S (cpRc c)) (cpPl c) ((cpRd c).map (adD S)) (cpDy c) (cpRn c) (cpTh c))) := by
  have hc := R.copy hi
  refine ⟨?_, ?_, ?_, ?_, ?_, fun j hj => ?_, fun j hj => ?_, fun j hj => ?_, fun j hj => ?_, fun j hj => ?_, fun j hj => ?_, fun a b ha hb => R.rowInj ha hb, fun a ha => R.rowNe ha⟩
  · rw [hup_ne _ _ (ne_of R.hall hc (by simp))]; exact R.hall
  · rw [hup_ne _ _ (ne_of R.names hc (by simp [aR]))]; exact R.names
  · rw [hup_ne _ _ (ne_of R.records hc (by simp [aR]))]; exact R.records
  · rw [hup_ne _ _ (ne_of R.copies hc (by simp [aR]))]; exact R.copies
  · rw [hup_ne _ _ (ne_of R.readers hc (by simp [aR]))]; exact R.readers
  · rw [hup_ne _ _ (ne_of (R.name hj) hc (by simp))]; exact R.name hj
  · rw [hup_ne _ _ (ne_of (R.rec hj) hc (by simp))]; exact R.rec hj
  · rw [hup_ne _ _ (ne_of (R.line hj) hc (by simp))]; exact R.line hj
  · rw [hup_ne _ _ (ne_of (R.row hj) hc (by simp [aR]))]; exact R.row hj
  · by_cases hji : j = i
    · have e : va_up (cps S) i c j = c := by simp [va_up, hji]
      show hup h (adC S i) _ (adC S j) = some (mCopy j (cpPr (va_up (cps S) i c j)) (adR S (cpRc (va_up (cps S) i c j))) (cpPl (va_up (cps S) i c j)) ((cpRd (va_up (cps S) i c j)).map (adD S)) (cpDy (va_up (cps S) i c j)) (cpRn (va_up (cps S) i c j)) (cpTh (va_up (cps S) i c j)))
      rw [e, hji]
      exact hup_self _ _ _
    · rw [hup_ne _ _ (fun z => hji (R.copyInj W hj hi z))]
      have e : va_up (cps S) i c j = cps S j := by simp [va_up, hji]
      show h (adC S j) = some (mCopy j (cpPr (va_up (cps S) i c j)) (adR S (cpRc (va_up (cps S) i c j))) (cpPl (va_up (cps S) i c j)) ((cpRd (va_up (cps S) i c j)).map (adD S)) (cpDy (va_up (cps S) i c j)) (cpRn (va_up (cps S) i c j)) (cpTh (va_up (cps S) i c j)))
      rw [e]; exact R.copy hj
  · rw [hup_ne _ _ (ne_of (R.rdr hj) hc (by simp))]; exact R.rdr hj
theorem rep_rd (R : Rep S h) (W : Wf S) {i : Nat} (hi : i < nRd S) (d : Rd) : Rep (setRd S i d) (hup h (adD S i) (mRdr i (rdKi d) (rdOw d))) := by
  have hc := R.rdr hi
  refine ⟨?_, ?_, ?_, ?_, ?_, fun j hj => ?_, fun j hj => ?_, fun j hj => ?_, fun j hj => ?_, fun j hj => ?_, fun j hj => ?_, fun a b ha hb => R.rowInj ha hb, fun a ha => R.rowNe ha⟩
  · rw [hup_ne _ _ (ne_of R.hall hc (by simp))]; exact R.hall
  · rw [hup_ne _ _ (ne_of R.names hc (by simp [aR]))]; exact R.names
  · rw [hup_ne _ _ (ne_of R.records hc (by simp [aR]))]; exact R.records
  · rw [hup_ne _ _ (ne_of R.copies hc (by simp [aR]))]; exact R.copies
  · rw [hup_ne _ _ (ne_of R.readers hc (by simp [aR]))]; exact R.readers
  · rw [hup_ne _ _ (ne_of (R.name hj) hc (by simp))]; exact R.name hj
  · rw [hup_ne _ _ (ne_of (R.rec hj) hc (by simp))]; exact R.rec hj
  · rw [hup_ne _ _ (ne_of (R.line hj) hc (by simp))]; exact R.line hj
  · rw [hup_ne _ _ (ne_of (R.row hj) hc (by simp [aR]))]; exact R.row hj
  · rw [hup_ne _ _ (ne_of (R.copy hj) hc (by simp))]; exact R.copy hj
  · by_cases hji : j = i
    · have e : va_up (rds S) i d j = d := by simp [va_up, hji]
      show hup h (adD S i) _ (adD S j) = some (mRdr j (rdKi (va_up (rds S) i d j)) (rdOw (va_up (rds S) i d j)))
      rw [e, hji]
      exact hup_self _ _ _
    · rw [hup_ne _ _ (fun z => hji (R.rdrInj W hj hi z))]
      have e : va_up (rds S) i d j = rds S j := by simp [va_up, hji]
      show h (adD S j) = some (mRdr j (rdKi (va_up (rds S) i d j)) (rdOw (va_up (rds S) i d j)))
      rw [e]; exact R.rdr hj
theorem rep_rc (R : Rep S h) (W : Wf S) {i : Nat} (hi : i < nRc S) (r : Rc) : Rep (setRc S i r) (hup h (adR S i) (mRec i ((rcAu r).map (adN S)) (rcTi r) (rcYe r) (adL S i) ((rcWe r).map (adR S)) (rcLe r))) := by
  have hc := R.rec hi
  refine ⟨?_, ?_, ?_, ?_, ?_, fun j hj => ?_, fun j hj => ?_, fun j hj => ?_, fun j hj => ?_, fun j hj => ?_, fun j hj => ?_, fun a b ha hb => R.rowInj ha hb, fun a ha => R.rowNe ha⟩
  · rw [hup_ne _ _ (ne_of R.hall hc (by simp))]; exact R.hall
  · rw [hup_ne _ _ (ne_of R.names hc (by simp [aR]))]; exact R.names
  · rw [hup_ne _ _ (ne_of R.records hc (by simp [aR]))]; exact R.records
  · rw [hup_ne _ _ (ne_of R.copies hc (by simp [aR]))]; exact R.copies
  · rw [hup_ne _ _ (ne_of R.readers hc (by simp [aR]))]; exact R.readers
  · rw [hup_ne _ _ (ne_of (R.name hj) hc (by simp))]; exact R.name hj
  · by_cases hji : j = i
    · have e : va_up (rcs S) i r j = r := by simp [va_up, hji]
      show hup h (adR S i) _ (adR S j) = some (mRec j ((rcAu (va_up (rcs S) i r j)).map (adN S)) (rcTi (va_up (rcs S) i r j)) (rcYe (va_up (rcs S) i r j)) (adL S j) ((rcWe (va_up (rcs S) i r j)).map (adR S)) (rcLe (va_up (rcs S) i r j)))
      rw [e, hji]
      exact hup_self _ _ _
    · rw [hup_ne _ _ (fun z => hji (R.recInj W hj hi z))]
      have e : va_up (rcs S) i r j = rcs S j := by simp [va_up, hji]
      show h (adR S j) = some (mRec j ((rcAu (va_up (rcs S) i r j)).map (adN S)) (rcTi (va_up (rcs S) i r j)) (rcYe (va_up (rcs S) i r j)) (adL S j) ((rcWe (va_up (rcs S) i r j)).map (adR S)) (rcLe (va_up (rcs S) i r j)))
      rw [e]; exact R.rec hj
  · rw [hup_ne _ _ (ne_of (R.line hj) hc (by simp))]; exact R.line hj
  · rw [hup_ne _ _ (ne_of (R.row hj) hc (by simp [aR]))]; exact R.row hj
  · rw [hup_ne _ _ (ne_of (R.copy hj) hc (by simp))]; exact R.copy hj
  · rw [hup_ne _ _ (ne_of (R.rdr hj) hc (by simp))]; exact R.rdr hj
theorem rep_ln (R : Rep S h) {i : Nat} (hi : i < nRc S) (l : List Nat) : Rep (setLn S i l) (hup (hup h (adQ S i) (aR RX3 8 (lnf l (adD S)))) (adL S i) (mLine (adQ S i) l.length)) := by
  have hc := R.line hi
  have hq := R.row hi
  refine ⟨?_, ?_, ?_, ?_, ?_, fun j hj => ?_, fun j hj => ?_, fun j hj => ?_, fun j hj => ?_, fun j hj => ?_, fun j hj => ?_, fun a b ha hb => R.rowInj ha hb, fun a ha => R.rowNe ha⟩
  · rw [hup_ne _ _ (ne_of R.hall hc (by simp)), hup_ne _ _ (ne_of R.hall hq (by simp [aR]))]; exact R.hall
  · rw [hup_ne _ _ (ne_of R.names hc (by simp [aR])), hup_ne _ _ (ne_of R.names hq (by simp [aR]))]; exact R.names
  · rw [hup_ne _ _ (ne_of R.records hc (by simp [aR])), hup_ne _ _ (ne_of R.records hq (by simp [aR]))]; exact R.records
  · rw [hup_ne _ _ (ne_of R.copies hc (by simp [aR])), hup_ne _ _ (ne_of R.copies hq (by simp [aR]))]; exact R.copies
  · rw [hup_ne _ _ (ne_of R.readers hc (by simp [aR])), hup_ne _ _ (fun z => R.rowNe hi z.symm)]; exact R.readers
  · rw [hup_ne _ _ (ne_of (R.name hj) hc (by simp)), hup_ne _ _ (ne_of (R.name hj) hq (by simp [aR]))]; exact R.name hj
  · rw [hup_ne _ _ (ne_of (R.rec hj) hc (by simp)), hup_ne _ _ (ne_of (R.rec hj) hq (by simp [aR]))]; exact R.rec hj
  · by_cases hji : j = i
    · have e : va_up (lin S) i l j = l := by simp [va_up, hji]
      show hup _ (adL S i) _ (adL S j) = some (mLine (adQ S j) (va_up (lin S) i l j).length)
      rw [e, hji]
      exact hup_self _ _ _
    · rw [hup_ne _ _ (fun z => hji (R.lineInj hj hi z)), hup_ne _ _ (ne_of (R.line hj) hq (by simp [aR]))]
      have e : va_up (lin S) i l j = lin S j := by simp [va_up, hji]
      show h (adL S j) = some (mLine (adQ S j) (va_up (lin S) i l j).length)
      rw [e]; exact R.line hj
  · rw [hup_ne _ _ (ne_of (R.row hj) hc (by simp [aR]))]
    by_cases hji : j = i
    · have e : va_up (lin S) i l j = l := by simp [va_up, hji]
      show hup h (adQ S i) _ (adQ S j) = some (aR RX3 8 (lnf (va_up (lin S) i l j) (adD S)))
      rw [e, hji]
      exact hup_self _ _ _
    · rw [hup_ne _ _ (fun z => hji (R.rowInj hj hi z))]
      have e : va_up (lin S) i l j = lin S j := by simp [va_up, hji]
      show h (adQ S j) = some (aR RX3 8 (lnf (va_up (lin S) i l j) (adD S)))
      rw [e]; exact R.row hj
  · rw [hup_ne _ _ (ne_of (R.copy hj) hc (by simp)), hup_ne _ _ (ne_of (R.copy hj) hq (by simp [aR]))]; exact R.copy hj
  · rw [hup_ne _ _ (ne_of (R.rdr hj) hc (by simp)), hup_ne _ _ (ne_of (R.rdr hj) hq (by simp [aR]))]; exact R.rdr hj
theorem rep_td (R : Rep S h) (t : Int32) : Rep (sTdy S t) (hup h (aH S) (oHall (sTdy S t))) := by
  have hc := R.hall
  refine ⟨hup_self _ _ _, ?_, ?_, ?_, ?_, fun j hj => ?_, fun j hj => ?_, fun j hj => ?_, fun j hj => ?_, fun j hj => ?_, fun j hj => ?_, fun a b ha hb => R.rowInj ha hb, fun a ha => R.rowNe ha⟩
  · rw [hup_ne _ _ (ne_of R.names hc (by simp [aR]))]; exact R.names
  · rw [hup_ne _ _ (ne_of R.records hc (by simp [aR]))]; exact R.records
  · rw [hup_ne _ _ (ne_of R.copies hc (by simp [aR]))]; exact R.copies
  · rw [hup_ne _ _ (ne_of R.readers hc (by simp [aR]))]; exact R.readers
  · rw [hup_ne _ _ (ne_of (R.name hj) hc (by simp))]; exact R.name hj
  · rw [hup_ne _ _ (ne_of (R.rec hj) hc (by simp))]; exact R.rec hj
  · rw [hup_ne _ _ (ne_of (R.line hj) hc (by simp))]; exact R.line hj
  · rw [hup_ne _ _ (ne_of (R.row hj) hc (by simp [aR]))]; exact R.row hj
  · rw [hup_ne _ _ (ne_of (R.copy hj) hc (by simp))]; exact R.copy hj
  · rw [hup_ne _ _ (ne_of (R.rdr hj) hc (by simp))]; exact R.rdr hj
/-- what keeps the bounds -/
theorem wf_cp (W : Wf S) {i : Nat} {c : Cp} (h1 : cpRc c < nRc S) (h2 : ∀ r, cpRd c = some r → r < nRd S) (h3 : cpPl c = 2 → cpRd c ≠ none) : Wf (setCp S i c) := by
  refine ⟨W.1, W.2.1, W.2.2.1, W.2.2.2.1, W.2.2.2.2.1, W.2.2.2.2.2.1, fun j hj => ?_⟩
  by_cases hji : j = i
  · have e : va_up (cps S) i c j = c := by simp [va_up, hji]
    show cpRc (va_up (cps S) i c j) < _ ∧ (∀ r, cpRd (va_up (cps S) i c j) = some r → _) ∧ (cpPl (va_up (cps S) i c j) = 2 → cpRd (va_up (cps S) i c j) ≠ none)
    rw [e]; exact ⟨h1, h2, h3⟩
  · have e : va_up (cps S) i c j = cps S j := by simp [va_up, hji]
    show cpRc (va_up (cps S) i c j) < _ ∧ (∀ r, cpRd (va_up (cps S) i c j) = some r → _) ∧ (cpPl (va_up (cps S) i c j) = 2 → cpRd (va_up (cps S) i c j) ≠ none)
    rw [e]; exact W.2.2.2.2.2.2 j hj
theorem wf_rd (W : Wf S) {i : Nat} {d : Rd} : Wf (setRd S i d) := W
theorem wf_td (W : Wf S) {t : Int32} : Wf (sTdy S t) := W
theorem wf_ln (W : Wf S) {i : Nat} {l : List Nat} (h1 : l.length ≤ 8) (h2 : ∀ x ∈ l, x < nRd S) (h3 : l.Nodup) : Wf (setLn S i l) := by
  refine ⟨W.1, W.2.1, W.2.2.1, W.2.2.2.1, W.2.2.2.2.1, fun j hj => ?_, W.2.2.2.2.2.2⟩
  by_cases hji : j = i
  · have e : va_up (lin S) i l j = l := by simp [va_up, hji]
    show (va_up (lin S) i l j).length ≤ 8 ∧ (∀ x ∈ va_up (lin S) i l j, _) ∧ (va_up (lin S) i l j).Nodup
    rw [e]; exact ⟨h1, h2, h3⟩
  · have e : va_up (lin S) i l j = lin S j := by simp [va_up, hji]
    show (va_up (lin S) i l j).length ≤ 8 ∧ (∀ x ∈ va_up (lin S) i l j, _) ∧ (va_up (lin S) i l j).Nodup
    rw [e]; exact W.2.2.2.2.2.1 j hj
theorem wf_rc (W : Wf S) {i : Nat} {r : Rc} (h1 : ∀ j, rcAu r = some j → j < nNm S) (h2 : ∀ j, rcWe r = some j → j < nRc S) : Wf (setRc S i r) := by
  refine ⟨W.1, W.2.1, W.2.2.1, W.2.2.2.1, fun j hj => ?_, W.2.2.2.2.2.1, W.2.2.2.2.2.2⟩
  by_cases hji : j = i
  · have e : va_up (rcs S) i r j = r := by simp [va_up, hji]
    show (∀ k, rcAu (va_up (rcs S) i r j) = some k → _) ∧ (∀ k, rcWe (va_up (rcs S) i r j) = some k → _)
    rw [e]; exact ⟨h1, h2⟩
  · have e : va_up (rcs S) i r j = rcs S j := by simp [va_up, hji]
    show (∀ k, rcAu (va_up (rcs S) i r j) = some k → _) ∧ (∀ k, rcWe (va_up (rcs S) i r j) = some k → _)
    rw [e]; exact W.2.2.2.2.1 j hj
end
theorem c_put (G : GC) (h : HP) {q i rc : Nat} {pr pl dy rn th : Int32} {rd : Option Nat} (hc : h q = some (mCopy i pr rc pl rd dy rn th)) (pl' dy' : Int32) (o : Option Nat) : Calls G yX1_put cX1_put 4 (.none : Option Jvm.ClassFile.FieldType) 0 0 0 0 [.ref q, .int pl', va_rf o, .int dy'] h (fun v h' => v = none ∧ h' = hup h q (mCopy i pr rc pl' o dy' 0 th)) qX := by
  refine Calls_of1 (by decide +kernel) (by simp [cat_rf, cat_ref, cat_int, cat_null]) (by simp) (lv0 := [some (.ref q), some (.int pl'), some (va_rf o), some (.int dy')]) rfl ?_
  intro Z hG hZ hE hN
  subst hG
  refine V_aload_n hZ 0 dX1_put_0 rfl rfl (by first | rfl | exact isR_rf _) ?_
  refine V_iload_n hZ 1 dX1_put_1 rfl rfl ?_
  refine V_putfield hZ fl_X1_9 dX1_put_2 (by first | assumption | exact hup_self _ _ _) (by first | rfl | exact nar_rf _ _) (by first | rfl | exact fits_rf _ _) (by simp) ?_
  refine V_aload_n hZ 0 dX1_put_5 rfl rfl (by first | rfl | exact isR_rf _) ?_
  refine V_aload_n hZ 2 dX1_put_6 rfl rfl (by first | rfl | exact isR_rf _) ?_
  refine V_putfield hZ fl_X1_28 dX1_put_7 (by first | assumption | exact hup_self _ _ _) (by first | rfl | exact nar_rf _ _) (by first | rfl | exact fits_rf _ _) (by simp) ?_
  rw [hup_hup]
  refine V_aload_n hZ 0 dX1_put_10 rfl rfl (by first | rfl | exact isR_rf _) ?_
  refine V_iload_n hZ 3 dX1_put_11 rfl rfl ?_
  refine V_putfield hZ fl_X1_15 dX1_put_12 (by first | assumption | exact hup_self _ _ _) (by first | rfl | exact nar_rf _ _) (by first | rfl | exact fits_rf _ _) (by simp) ?_
  rw [hup_hup]
  refine V_aload_n hZ 0 dX1_put_15 rfl rfl (by first | rfl | exact isR_rf _) ?_
  refine V_iconst (v := 0) hZ dX1_put_16 (by decide) ?_
  refine V_putfield hZ fl_X1_32 dX1_put_17 (by first | assumption | exact hup_self _ _ _) (by first | rfl | exact nar_rf _ _) (by first | rfl | exact fits_rf _ _) (by simp) ?_
  rw [hup_hup]
  refine V_vret hZ hE rfl dX1_put_20 (by decide) (by decide) ?_
  exact ⟨rfl, rfl⟩
/-- a copy that is free for now; one that is aside for x -/
def freed (c : Cp) : Cp := (cpPr c, cpRc c, 0, none, -1, 0, cpTh c)
def asided (c : Cp) (x : Nat) (t : Int32) : Cp := (cpPr c, cpRc c, 2, some x, t + 6, 0, cpTh c)
def freeC (S : St) (i : Nat) : Nat → Cp := match nextW (setCp S i (freed (cps S i))) (cpRc (cps S i)) with
  | none => va_up (cps S) i (freed (cps S i))
  | some x => va_up (cps S) i (asided (cps S i) x (tdy S))
abbrev freeS (S : St) (i : Nat) : St := sCps S (freeC S i)
theorem va_up_up {α : Type} (f : Nat → α) (i : Nat) (a b : α) : va_up (va_up f i a) i b = va_up f i b := by
  funext j
  by_cases hj : j = i <;> simp [va_up, hj]
theorem nextW_lt {S : St} (W : Wf S) {r x : Nat} (hr : r < nRc S) (hx : nextW S r = some x) : x < nRd S := (W_lin W hr).2 x (List.mem_of_find?_eq_some hx)
theorem wf_free {S : St} (W : Wf S) {i : Nat} (hi : i < nCp S) : Wf (freeS S i) := by
  have hr := W_rec W hi
  have W1 : Wf (setCp S i (freed (cps S i))) := wf_cp W hr (fun r h => by cases h) (fun h => by cases h)
  show Wf (sCps S (freeC S i))
  unfold freeC
  cases hn : nextW (setCp S i (freed (cps S i))) (cpRc (cps S i)) with
  | none => exact W1
  | some x => exact wf_cp W hr (fun r h => by cases h; exact nextW_lt W1 hr hn) (fun _ h => by cases h)
theorem c_free (G : GC) {h : HP} {S : St} (R : Rep S h) (W : Wf S) {i : Nat} (hi : i < nCp S) : Calls G yX5_free cX5_free 3 (.none : Option Jvm.ClassFile.FieldType) 3 73 0 0 [.ref (aH S), .ref (adC S i)] h (fun v h' => v = none ∧ Rep (freeS S i) h') qX := by
  have hc := R.copy hi
  have hr := W_rec W hi
  have R1 := rep_cp R W hi (freed (cps S i))
  have W1 : Wf (setCp S i (freed (cps S i))) := wf_cp W hr (fun r h => by cases h) (fun h => by cases h)
  refine Calls_of1 (by decide +kernel) (by simp [cat_rf, cat_ref, cat_int, cat_null]) (by simp) (lv0 := [some (.ref (aH S)), some (.ref (adC S i)), none]) rfl ?_
  intro Z hG hZ hE hN
  subst hG
  refine V_aload_n hZ 1 dX5_free_0 rfl rfl (by first | rfl | exact isR_rf _) ?_
  refine V_iconst (v := 0) hZ dX5_free_1 (by decide) ?_
  refine V_null hZ dX5_free_2 ?_
  refine V_iconst (v := -1) hZ dX5_free_3 (by decide) ?_
  refine V_invV hZ me_X1_put mi_X1_put ml_X5_188 (c_put Z.1 h hc 0 (-1) none) dX5_free_4 rfl rfl (by assumption) rfl rfl ⟨by decide, by decide⟩ (by first | decide | simp [cat_rf, cat_ref, cat_int, cat_null]) ⟨by decide, by decide⟩ (fun _ _ hq => hq.elim) ?_
  rintro _ _ ⟨rfl, rfl⟩
  have h1 := R1.hall
  have hc1 : hup h (adC S i) (mCopy i (cpPr (cps S i)) (adR S (cpRc (cps S i))) 0 none (-1) 0 (cpTh (cps S i))) (adC S i) = some (mCopy i (cpPr (cps S i)) (adR S (cpRc (cps S i))) 0 none (-1) 0 (cpTh (cps S i))) := hup_self _ _ _
  have hr1 := R1.rec hr
  refine V_aload_n hZ 0 dX5_free_7 rfl rfl (by first | rfl | exact isR_rf _) ?_
  refine V_aload_n hZ 1 dX5_free_8 rfl rfl (by first | rfl | exact isR_rf _) ?_
  refine V_getfield hZ fl_X5_192.r dX5_free_9 (by assumption) (by rfl) ?_
  refine V_invVp hZ me_X5_firstWithNoneAside mi_X5_firstWithNoneAside ml_X5_374 (c_firstWithNoneAside Z.1 R1 W1 hr) dX5_free_12 rfl rfl (by assumption) rfl rfl ⟨by decide, by decide⟩ (by first | decide | simp [cat_rf, cat_ref, cat_int, cat_null]) ⟨by decide, by decide⟩ ?_
  refine V_astore_n hZ 2 rfl dX5_free_15 (by first | rfl | exact isR_rf _) (by decide) (by first | rfl | simp [okp, cat_rf, cat_ref, cat_int, cat_null]) ?_
  refine V.lvc (by simp only [List.set_cons_zero, List.set_cons_succ, Nat.reduceAdd]; rfl) ?_
  refine V_aload_n hZ 2 dX5_free_16 rfl rfl (by first | rfl | exact isR_rf _) ?_
  cases hn : nextW (setCp S i (freed (cps S i))) (cpRc (cps S i)) with
  | none =>
    refine V_ifnullN (tgt := 33) hZ dX5_free_17 (by decide) ?_
    refine V_vret hZ hE rfl dX5_free_33 (by decide) (by decide) ?_
    refine ⟨rfl, ?_⟩
    show Rep (sCps S (freeC S i)) _
    unfold freeC
    rw [hn]
    exact R1
  | some x =>
    refine V_ifnullR hZ dX5_free_17 ?_
    refine V_aload_n hZ 1 dX5_free_20 rfl rfl (by first | rfl | exact isR_rf _) ?_
    refine V_iconst (v := 2) hZ dX5_free_21 (by decide) ?_
    refine V_aload_n hZ 2 dX5_free_22 rfl rfl (by first | rfl | exact isR_rf _) ?_
    refine V_aload_n hZ 0 dX5_free_23 rfl rfl (by first | rfl | exact isR_rf _) ?_
    refine V_getfield hZ fl_X5_181.r dX5_free_24 (by assumption) (by rfl) ?_
    refine V_bipush (v := 6) hZ dX5_free_27 (by decide) ?_
    refine V_iadd hZ dX5_free_29 ?_
    refine V_invV hZ me_X1_put mi_X1_put ml_X5_188 (c_put Z.1 _ hc1 2 (tdy S + 6) (some (adD S x))) dX5_free_30 rfl rfl (by assumption) rfl rfl ⟨by decide, by decide⟩ (by first | decide | simp [cat_rf, cat_ref, cat_int, cat_null]) ⟨by decide, by decide⟩ (fun _ _ hq => hq.elim) ?_
    rintro _ _ ⟨rfl, rfl⟩
    refine V_vret hZ hE rfl dX5_free_33 (by decide) (by decide) ?_
    refine ⟨rfl, ?_⟩
    have R2 := rep_cp R1 W1 (i := i) hi (asided (cps S i) x (tdy S))
    show Rep (sCps S (freeC S i)) _
    unfold freeC
    rw [hn]
    show Rep (sCps S (va_up (cps S) i (asided (cps S i) x (tdy S)))) _
    rw [← va_up_up (cps S) i (freed (cps S i)) (asided (cps S i) x (tdy S))]
    exact R2

