/-! are the copies right -/
theorem rep_new {S : St} {h : HP} (R : Rep S h) {q : Nat} (hq : h q = none) (x : ME) : Rep S (hup h q x) := by
  have k : ∀ {a : Nat} {y : ME}, h a = some y → hup h q x a = some y := fun ha => by rw [hup_ne _ _ (nq_of ha hq)]; exact ha
  exact ⟨k R.hall, k R.names, k R.records, k R.copies, k R.readers, fun i hi => k (R.name hi), fun i hi => k (R.rec hi), fun i hi => k (R.line hi), fun i hi => k (R.row hi), fun i hi => k (R.copy hi), fun i hi => k (R.rdr hi), fun i j hi hj => R.rowInj hi hj, fun i hi => R.rowNe hi⟩
/-- what is asked of one copy -/
def CpOK (S : St) (c : Nat) : Prop :=
  live S (cpRc (cps S c)) = cpRc (cps S c) ∧ (
  (cpPl (cps S c) = 0 ∧ cpRd (cps S c) = none ∧ cpDy (cps S c) = -1 ∧ cpRn (cps S c) = 0) ∨
  (cpPl (cps S c) = 1 ∧ (∃ x, x < 8 ∧ cpRd (cps S c) = some x) ∧ ¬ cpDy (cps S c) = -1 ∧ lateC S c (tdy S) = maxI 0 (tdy S - cpDy (cps S c)) ∧ lateC S c (tdy S) ≤ 29) ∨
  (cpPl (cps S c) = 2 ∧ (∃ x, x < 8 ∧ cpRd (cps S c) = some x) ∧ ¬ cpDy (cps S c) = -1 ∧ cpRn (cps S c) = 0 ∧ ¬ cpDy (cps S c) < tdy S ∧ ¬ tdy S + 6 < cpDy (cps S c)) ∨
  (cpPl (cps S c) = 3 ∧ (∃ x, x < 8 ∧ cpRd (cps S c) = some x) ∧ cpDy (cps S c) = -1 ∧ cpRn (cps S c) = 0))
def whN (S : St) (c : Nat) : Nat → Int32 := fun i => if i < 4 then nI (cn (atB S (nI i)) c) else 0
theorem wh_0 {S : St} : whN S 0 = fun _ => 0 := by
  funext i
  by_cases hi : i < 4
  · simp only [whN, hi, if_true, cn]; decide
  · simp only [whN, hi, if_false]
theorem wh_next {S : St} {c p : Nat} (hp : p < 4) (hc : c < nCp S) (hpl : cpPl (cps S c) = nI p) : upd (whN S c) p (whN S c p + 1) = whN S (c + 1) := by
  funext i
  by_cases hip : i = p
  · subst hip
    have e1 : upd (whN S c) i (whN S c i + 1) i = whN S c i + 1 := by simp [upd]
    rw [e1]
    simp only [whN, hp, if_true]
    rw [nI_1, cn_t (by simp [atB, hc, hpl])]
  · have e1 : upd (whN S c) p (whN S c p + 1) i = whN S c i := by simp [upd, hip]
    rw [e1]
    by_cases hi : i < 4
    · simp only [whN, hi, if_true]
      rw [cn_f (by
        simp only [atB, hc, hpl, true_and, decide_eq_false_iff_not]
        intro z
        exact hip (nI_inj (by omega) (by omega) z).symm)]
    · simp only [whN, hi, if_false]
theorem late_no {S : St} {c : Nat} {d : Int32} (h : ¬ cpPl (cps S c) = 1) : lateC S c d = 0 := by simp [lateN, h]
theorem tot_at (S : St) {k : Nat} (hk : k < 4) : totN S (5 + k) = whN S 30 k := by
  rcases (by omega : k = 0 ∨ k = 1 ∨ k = 2 ∨ k = 3) with rfl | rfl | rfl | rfl <;> rfl
theorem wh_all {S : St} (hn : nCp S ≤ 30) : whN S (nCp S) = whN S 30 := by
  have key : ∀ m c, c + m = 30 → nCp S ≤ c → whN S c = whN S 30 := by
    intro m
    induction m with
    | zero => intro c hc _; rw [show c = 30 by omega]
    | succ m ih =>
      intro c hc hle
      rw [← ih (c + 1) (by omega) (by omega)]
      funext i
      by_cases hi : i < 4
      · simp only [whN, hi, if_true]
        rw [cn_f (by simp [atB]; omega)]
      · simp only [whN, hi, if_false]
  exact key (30 - nCp S) (nCp S) (by omega) (Nat.le_refl _)
theorem c_areCopiesRight (G : GC) {h : HP} {S : St} (R : Rep S h) (W : Wf S) (hok : ∀ c, c < nCp S → CpOK S c) : Calls G yL_areCopiesRight cL_areCopiesRight 7 (.some .boolean) 8 135 1 4 [.ref (aH S)] h (fun v h' => v = some (.int 1) ∧ Rep S h') qX := by
  have hb := W.2.2.1
  refine Calls_of1 (by decide +kernel) (by simp [cat_rf, cat_ref, cat_int, cat_null]) (by simp) (lv0 := [some (.ref (aH S)), none, none, none, none, none, none]) rfl ?_
  intro Z hG hZ hE hN
  subst hG
  refine V_iconst (v := 4) hZ dL_areCopiesRight_0 (by decide) ?_
  refine V_inew (N := 4) hZ ac_int dL_areCopiesRight_1 (by decide) (by decide) (by decide) (by decide) (by decide) (fun q hq => ?_)
  refine V_astore_n hZ 1 rfl dL_areCopiesRight_3 (by first | rfl | exact isR_rf _) (by decide) (by first | rfl | simp [okp, cat_rf, cat_ref, cat_int, cat_null]) ?_
  refine V.lvc (by simp only [List.set_cons_zero, List.set_cons_succ, Nat.reduceAdd]; rfl) ?_
  refine V_iconst (v := 0) hZ dL_areCopiesRight_4 (by decide) ?_
  refine V_istore_n hZ 2 rfl dL_areCopiesRight_5 (by decide) (by first | rfl | simp [okp, cat_rf, cat_ref, cat_int, cat_null]) ?_
  refine V.lvc (by simp only [List.set_cons_zero, List.set_cons_succ, Nat.reduceAdd]; rfl) ?_
  have R0 : ∀ f, Rep S (hup h q (aI 4 f)) := fun f => rep_new R hq _
  refine V.stc rfl ?_
  rw [← wh_0 (S := S)]
  have key : ∀ m c, c + m = nCp S → ∀ w3 w4 w5 w6, V Z 6 [some (.ref (aH S)), some (.ref q), some (.int (nI c)), w3, w4, w5, w6] [] (hup h q (aI 4 (whN S c))) (0 + 1) (0 + 4) := by
    intro m
    induction m with
    | zero =>
      intro c hc w3 w4 w5 w6
      have hc2 : c = nCp S := by omega
      subst hc2
      have R1 := R0 (whN S (nCp S))
      have g1 := R1.hall
      have f0 : hup h q (aI 4 (whN S (nCp S))) q = some (aI 4 (whN S (nCp S))) := hup_self _ _ _
      refine V_iload_n hZ 2 dL_areCopiesRight_6 rfl rfl ?_
      refine V_aload_n hZ 0 dL_areCopiesRight_7 rfl rfl (by first | rfl | exact isR_rf _) ?_
      refine V_iconst (v := 3) hZ dL_areCopiesRight_8 (by decide) ?_
      refine V_invVp hZ me_X5_many mi_X5_many ml_L_34 (c_many Z.1 R1 W (k := 3) (by decide)) dL_areCopiesRight_9 rfl rfl (by assumption) rfl rfl ⟨by decide, by decide⟩ (by first | decide | (simp [cat_rf, cat_ref, cat_int, cat_null]; done) | (simp [cat_rf, cat_ref, cat_int, cat_null, Value.category]; done)) ⟨by decide, by decide⟩ ?_
      refine V_icmp_ge (tgt := 221) hZ dL_areCopiesRight_12 (by decide) (fun _ => ?_) (fun z => absurd (Int32.le_refl _) z)
      refine V_iconst (v := 0) hZ dL_areCopiesRight_221 (by decide) ?_
      refine V_istore_n hZ 2 rfl dL_areCopiesRight_222 (by decide) (by first | rfl | simp [okp, cat_rf, cat_ref, cat_int, cat_null]) ?_
      refine V.lvc (by simp only [List.set_cons_zero, List.set_cons_succ, Nat.reduceAdd]; rfl) ?_
      have key2 : ∀ j i, i + j = 4 → V Z 223 [some (.ref (aH S)), some (.ref q), some (.int (nI i)), w3, w4, w5, w6] [] (hup h q (aI 4 (whN S (nCp S)))) (0 + 1) (0 + 4) := by
        intro j
        induction j with
        | zero =>
          intro i hi
          have hi2 : i = 4 := by omega
          subst hi2
          refine V_iload_n hZ 2 dL_areCopiesRight_223 rfl rfl ?_
          refine V_iconst (v := 4) hZ dL_areCopiesRight_224 (by decide) ?_
          refine V_icmp_ge (tgt := 249) hZ dL_areCopiesRight_225 (by decide) (fun _ => ?_) (fun z => absurd ((by decide)) z)
          refine V_iconst (v := 1) hZ dL_areCopiesRight_249 (by decide) ?_
          refine V_iret hZ hE rfl (by rfl) dL_areCopiesRight_250 (by decide) (by decide) ?_
          exact ⟨rfl, R1⟩
        | succ j ih =>
          intro i hi
          have hi4 : i < 4 := by omega
          refine V_iload_n hZ 2 dL_areCopiesRight_223 rfl rfl ?_
          refine V_iconst (v := 4) hZ dL_areCopiesRight_224 (by decide) ?_
          refine V_icmp_ge (tgt := 249) hZ dL_areCopiesRight_225 (by decide) (fun z => absurd z (nI_ge (a := i) (b := 4) hi4 (by decide))) (fun _ => ?_)
          refine V_aload_n hZ 0 dL_areCopiesRight_228 rfl rfl (by first | rfl | exact isR_rf _) ?_
          refine V_iconst (v := 5) hZ dL_areCopiesRight_229 (by decide) ?_
          refine V_iload_n hZ 2 dL_areCopiesRight_230 rfl rfl ?_
          refine V_iadd hZ dL_areCopiesRight_231 ?_
          refine V.stc (st' := [.int (nI (5 + i)), .ref (aH S)]) (by rw [← nI_add]; rfl) ?_
          refine V_invVp hZ me_X5_many mi_X5_many ml_L_34 (c_many Z.1 R1 W (k := 5 + i) (by omega)) dL_areCopiesRight_232 rfl rfl (by assumption) rfl rfl ⟨by decide, by decide⟩ (by first | decide | (simp [cat_rf, cat_ref, cat_int, cat_null]; done) | (simp [cat_rf, cat_ref, cat_int, cat_null, Value.category]; done)) ⟨by decide, by decide⟩ ?_
          refine V_aload_n hZ 1 dL_areCopiesRight_235 rfl rfl (by first | rfl | exact isR_rf _) ?_
          refine V_iload_n hZ 2 dL_areCopiesRight_236 rfl rfl ?_
          refine V_ialdn (i := i) hZ dL_areCopiesRight_237 f0 hi4 (by decide) ?_
          refine V_icmp_eq (tgt := 243) hZ dL_areCopiesRight_238 (by decide) (fun _ => ?_) (fun z => absurd ((by rw [wh_all hb]; exact tot_at S hi4)) z)
          refine V_iincv hZ dL_areCopiesRight_243 rfl (by decide) (by first | rfl | simp [okp, cat_rf, cat_ref, cat_int, cat_null]) (by first | exact nI_inc _ | rfl) ?_
          refine V.lvc (by simp only [List.set_cons_zero, List.set_cons_succ, Nat.reduceAdd]; rfl) ?_
          refine V_goto (tgt := 223) hZ dL_areCopiesRight_246 (by decide) ?_
          exact ih (i + 1) (by omega)
      exact key2 4 0 rfl
    | succ m ih =>
      intro c hc w3 w4 w5 w6
      have hi : c < nCp S := by omega
      have R1 := R0 (whN S c)
      have g1 := R1.hall
      have f0 : hup h q (aI 4 (whN S c)) q = some (aI 4 (whN S c)) := hup_self _ _ _
      refine V_iload_n hZ 2 dL_areCopiesRight_6 rfl rfl ?_
      refine V_aload_n hZ 0 dL_areCopiesRight_7 rfl rfl (by first | rfl | exact isR_rf _) ?_
      refine V_iconst (v := 3) hZ dL_areCopiesRight_8 (by decide) ?_
      refine V_invVp hZ me_X5_many mi_X5_many ml_L_34 (c_many Z.1 R1 W (k := 3) (by decide)) dL_areCopiesRight_9 rfl rfl (by assumption) rfl rfl ⟨by decide, by decide⟩ (by first | decide | (simp [cat_rf, cat_ref, cat_int, cat_null]; done) | (simp [cat_rf, cat_ref, cat_int, cat_null, Value.category]; done)) ⟨by decide, by decide⟩ ?_
      refine V_icmp_ge (tgt := 221) hZ dL_areCopiesRight_12 (by decide) (fun z => absurd z (nI_ge hi (by omega))) (fun _ => ?_)
      refine V_aload_n hZ 0 dL_areCopiesRight_15 rfl rfl (by first | rfl | exact isR_rf _) ?_
      refine V_iload_n hZ 2 dL_areCopiesRight_16 rfl rfl ?_
      refine V_iconst (v := 1) hZ dL_areCopiesRight_17 (by decide) ?_
      refine V_invVp hZ me_X5_ofCopy mi_X5_ofCopy ml_L_66 (c_ofCopy Z.1 R1 W (i := c) (k := 1) hi (by decide)) dL_areCopiesRight_18 rfl rfl (by assumption) rfl rfl ⟨by decide, by decide⟩ (by first | decide | (simp [cat_rf, cat_ref, cat_int, cat_null]; done) | (simp [cat_rf, cat_ref, cat_int, cat_null, Value.category]; done)) ⟨by decide, by decide⟩ ?_
      obtain ⟨hlv, hpl⟩ := hok c hi
      have J : ∀ (p : Nat) (w4 w5 w6 : Option Value), p < 4 → cpPl (cps S c) = nI p → V Z 193 [some (.ref (aH S)), some (.ref q), some (.int (nI c)), some (.int (nI p)), w4, w5, w6] [] (hup h q (aI 4 (whN S (c + 1)))) (0 + 1) (0 + 4) := by
        intro p w4 w5 w6 hp hpp
        have R2 := R0 (whN S (c + 1))
        have g2 := R2.hall
        have hrl := (W.2.2.2.2.2.2 c hi).1
        refine V_aload_n hZ 0 dL_areCopiesRight_193 rfl rfl (by first | rfl | exact isR_rf _) ?_
        refine V_aload_n hZ 0 dL_areCopiesRight_194 rfl rfl (by first | rfl | exact isR_rf _) ?_
        refine V_iload_n hZ 2 dL_areCopiesRight_195 rfl rfl ?_
        refine V_iconst (v := 0) hZ dL_areCopiesRight_196 (by decide) ?_
        refine V_invVp hZ me_X5_ofCopy mi_X5_ofCopy ml_L_66 (c_ofCopy Z.1 R2 W (i := c) (k := 0) hi (by decide)) dL_areCopiesRight_197 rfl rfl (by assumption) rfl rfl ⟨by decide, by decide⟩ (by first | decide | (simp [cat_rf, cat_ref, cat_int, cat_null]; done) | (simp [cat_rf, cat_ref, cat_int, cat_null, Value.category]; done)) ⟨by decide, by decide⟩ ?_
        refine V_iconst (v := 3) hZ dL_areCopiesRight_200 (by decide) ?_
        refine V_invVp hZ me_X5_ofRecord mi_X5_ofRecord ml_L_87 (c_ofRecord Z.1 R2 W (i := cpRc (cps S c)) (k := 3) hrl (by decide)) dL_areCopiesRight_201 rfl rfl (by assumption) rfl rfl ⟨by decide, by decide⟩ (by first | decide | (simp [cat_rf, cat_ref, cat_int, cat_null]; done) | (simp [cat_rf, cat_ref, cat_int, cat_null, Value.category]; done)) ⟨by decide, by decide⟩ ?_
        refine V_aload_n hZ 0 dL_areCopiesRight_204 rfl rfl (by first | rfl | exact isR_rf _) ?_
        refine V_iload_n hZ 2 dL_areCopiesRight_205 rfl rfl ?_
        refine V_iconst (v := 0) hZ dL_areCopiesRight_206 (by decide) ?_
        refine V_invVp hZ me_X5_ofCopy mi_X5_ofCopy ml_L_66 (c_ofCopy Z.1 R2 W (i := c) (k := 0) hi (by decide)) dL_areCopiesRight_207 rfl rfl (by assumption) rfl rfl ⟨by decide, by decide⟩ (by first | decide | (simp [cat_rf, cat_ref, cat_int, cat_null]; done) | (simp [cat_rf, cat_ref, cat_int, cat_null, Value.category]; done)) ⟨by decide, by decide⟩ ?_
        refine V_icmp_eq (tgt := 215) hZ dL_areCopiesRight_210 (by decide) (fun _ => ?_) (fun z => absurd (congrArg nI hlv) z)
        refine V_iincv hZ dL_areCopiesRight_215 rfl (by decide) (by first | rfl | simp [okp, cat_rf, cat_ref, cat_int, cat_null]) (by first | exact nI_inc _ | rfl) ?_
        refine V.lvc (by simp only [List.set_cons_zero, List.set_cons_succ, Nat.reduceAdd]; rfl) ?_
        refine V_goto (tgt := 6) hZ dL_areCopiesRight_218 (by decide) ?_
        exact ih (c + 1) (by omega) _ _ _ _
      rcases hpl with ⟨p0, rd0, dy0, rn0⟩ | ⟨p0, ⟨x, hx, rd0⟩, dy0, l0, l1⟩ | ⟨p0, ⟨x, hx, rd0⟩, dy0, rn0, d0, d1⟩ | ⟨p0, ⟨x, hx, rd0⟩, dy0, rn0⟩
      · refine V.stc (st' := [.int (nI 0)]) (by rw [show factC S c 1 = nI 0 from p0]) ?_
        refine V_istore_n hZ 3 rfl dL_areCopiesRight_21 (by decide) (by first | rfl | simp [okp, cat_rf, cat_ref, cat_int, cat_null]) ?_
        refine V.lvc (by simp only [List.set_cons_zero, List.set_cons_succ, Nat.reduceAdd]; rfl) ?_
        refine V_iload_n hZ 3 dL_areCopiesRight_22 rfl rfl ?_
        refine V_if_lt (tgt := 31) hZ dL_areCopiesRight_23 (by decide) (fun z => absurd z ((by decide))) (fun _ => ?_)
        refine V_iload_n hZ 3 dL_areCopiesRight_26 rfl rfl ?_
        refine V_iconst (v := 3) hZ dL_areCopiesRight_27 (by decide) ?_
        refine V_icmp_le (tgt := 33) hZ dL_areCopiesRight_28 (by decide) (fun _ => ?_) (fun z => absurd ((by decide)) z)
        refine V_aload_n hZ 1 dL_areCopiesRight_33 rfl rfl (by first | rfl | exact isR_rf _) ?_
        refine V_iload_n hZ 3 dL_areCopiesRight_34 rfl rfl ?_
        refine V_dup2 hZ dL_areCopiesRight_35 rfl rfl ?_
        refine V_ialdn (i := 0) hZ dL_areCopiesRight_36 f0 (by decide) (by decide) ?_
        refine V_iconst (v := 1) hZ dL_areCopiesRight_37 (by decide) ?_
        refine V_iadd hZ dL_areCopiesRight_38 ?_
        refine V_iastn (i := 0) hZ dL_areCopiesRight_39 f0 (by decide) (by decide) ?_
        rw [hup_hup, wh_next (p := 0) (by decide) hi p0]
        have R2 := R0 (whN S (c + 1))
        have g2 := R2.hall
        refine V_aload_n hZ 0 dL_areCopiesRight_40 rfl rfl (by first | rfl | exact isR_rf _) ?_
        refine V_iload_n hZ 2 dL_areCopiesRight_41 rfl rfl ?_
        refine V_iconst (v := 2) hZ dL_areCopiesRight_42 (by decide) ?_
        refine V_invVp hZ me_X5_ofCopy mi_X5_ofCopy ml_L_66 (c_ofCopy Z.1 R2 W (i := c) (k := 2) hi (by decide)) dL_areCopiesRight_43 rfl rfl (by assumption) rfl rfl ⟨by decide, by decide⟩ (by first | decide | (simp [cat_rf, cat_ref, cat_int, cat_null]; done) | (simp [cat_rf, cat_ref, cat_int, cat_null, Value.category]; done)) ⟨by decide, by decide⟩ ?_
        refine V.stc (st' := [.int (-1)]) (by rw [show factC S c 2 = -1 by show orN (cpRd (cps S c)) = -1; rw [rd0]; rfl]) ?_
        refine V_istore hZ dL_areCopiesRight_46 (by decide) (by first | rfl | simp [okp, cat_rf, cat_ref, cat_int, cat_null]) ?_
        refine V.lvc (by simp only [List.set_cons_zero, List.set_cons_succ, Nat.reduceAdd]; rfl) ?_
        refine V_aload_n hZ 0 dL_areCopiesRight_48 rfl rfl (by first | rfl | exact isR_rf _) ?_
        refine V_iload_n hZ 2 dL_areCopiesRight_49 rfl rfl ?_
        refine V_iconst (v := 3) hZ dL_areCopiesRight_50 (by decide) ?_
        refine V_invVp hZ me_X5_ofCopy mi_X5_ofCopy ml_L_66 (c_ofCopy Z.1 R2 W (i := c) (k := 3) hi (by decide)) dL_areCopiesRight_51 rfl rfl (by assumption) rfl rfl ⟨by decide, by decide⟩ (by first | decide | (simp [cat_rf, cat_ref, cat_int, cat_null]; done) | (simp [cat_rf, cat_ref, cat_int, cat_null, Value.category]; done)) ⟨by decide, by decide⟩ ?_
        refine V.stc (st' := [.int (-1)]) (by rw [show factC S c 3 = -1 from dy0]) ?_
        refine V_istore hZ dL_areCopiesRight_54 (by decide) (by first | rfl | simp [okp, cat_rf, cat_ref, cat_int, cat_null]) ?_
        refine V.lvc (by simp only [List.set_cons_zero, List.set_cons_succ, Nat.reduceAdd]; rfl) ?_
        refine V_aload_n hZ 0 dL_areCopiesRight_56 rfl rfl (by first | rfl | exact isR_rf _) ?_
        refine V_iload_n hZ 2 dL_areCopiesRight_57 rfl rfl ?_
        refine V_iconst (v := 4) hZ dL_areCopiesRight_58 (by decide) ?_
        refine V_invVp hZ me_X5_ofCopy mi_X5_ofCopy ml_L_66 (c_ofCopy Z.1 R2 W (i := c) (k := 4) hi (by decide)) dL_areCopiesRight_59 rfl rfl (by assumption) rfl rfl ⟨by decide, by decide⟩ (by first | decide | (simp [cat_rf, cat_ref, cat_int, cat_null]; done) | (simp [cat_rf, cat_ref, cat_int, cat_null, Value.category]; done)) ⟨by decide, by decide⟩ ?_
        refine V.stc (st' := [.int 0]) (by rw [show factC S c 4 = 0 from late_no (by rw [p0]; decide)]) ?_
        refine V_istore hZ dL_areCopiesRight_62 (by decide) (by first | rfl | simp [okp, cat_rf, cat_ref, cat_int, cat_null]) ?_
        refine V.lvc (by simp only [List.set_cons_zero, List.set_cons_succ, Nat.reduceAdd]; rfl) ?_
        refine V_iload_n hZ 3 dL_areCopiesRight_64 rfl rfl ?_
        refine V_if_ne (tgt := 72) hZ dL_areCopiesRight_65 (by decide) (fun z => absurd ((by decide)) z) (fun _ => ?_)
        refine V_iconst (v := 1) hZ dL_areCopiesRight_68 (by decide) ?_
        refine V_goto (tgt := 73) hZ dL_areCopiesRight_69 (by decide) ?_
        refine V_iload hZ dL_areCopiesRight_73 rfl ?_
        refine V_iconst (v := -1) hZ dL_areCopiesRight_75 (by decide) ?_
        refine V_icmp_ne (tgt := 83) hZ dL_areCopiesRight_76 (by decide) (fun z => absurd (rfl) z) (fun _ => ?_)
        refine V_iconst (v := 1) hZ dL_areCopiesRight_79 (by decide) ?_
        refine V_goto (tgt := 84) hZ dL_areCopiesRight_80 (by decide) ?_
        refine V_icmp_ne (tgt := 191) hZ dL_areCopiesRight_84 (by decide) (fun z => absurd (rfl) z) (fun _ => ?_)
        refine V_iload_n hZ 3 dL_areCopiesRight_87 rfl rfl ?_
        refine V_if_eq (tgt := 96) hZ dL_areCopiesRight_88 (by decide) (fun _ => ?_) (fun z => absurd ((by decide)) z)
        refine V_iconst (v := 1) hZ dL_areCopiesRight_96 (by decide) ?_
        refine V_goto (tgt := 101) hZ dL_areCopiesRight_97 (by decide) ?_
        refine V_iload hZ dL_areCopiesRight_101 rfl ?_
        refine V_iconst (v := -1) hZ dL_areCopiesRight_103 (by decide) ?_
        refine V_icmp_ne (tgt := 111) hZ dL_areCopiesRight_104 (by decide) (fun z => absurd (rfl) z) (fun _ => ?_)
        refine V_iconst (v := 1) hZ dL_areCopiesRight_107 (by decide) ?_
        refine V_goto (tgt := 112) hZ dL_areCopiesRight_108 (by decide) ?_
        refine V_icmp_ne (tgt := 191) hZ dL_areCopiesRight_112 (by decide) (fun z => absurd (rfl) z) (fun _ => ?_)
        refine V_iload_n hZ 3 dL_areCopiesRight_115 rfl rfl ?_
        refine V_iconst (v := 1) hZ dL_areCopiesRight_116 (by decide) ?_
        refine V_icmp_eq (tgt := 134) hZ dL_areCopiesRight_117 (by decide) (fun z => absurd z ((by decide))) (fun _ => ?_)
        refine V_iload hZ dL_areCopiesRight_120 rfl ?_
        refine V_if_ne (tgt := 191) hZ dL_areCopiesRight_122 (by decide) (fun z => absurd (rfl) z) (fun _ => ?_)
        refine V_aload_n hZ 0 dL_areCopiesRight_125 rfl rfl (by first | rfl | exact isR_rf _) ?_
        refine V_iload_n hZ 2 dL_areCopiesRight_126 rfl rfl ?_
        refine V_iconst (v := 5) hZ dL_areCopiesRight_127 (by decide) ?_
        refine V_invVp hZ me_X5_ofCopy mi_X5_ofCopy ml_L_66 (c_ofCopy Z.1 R2 W (i := c) (k := 5) hi (by decide)) dL_areCopiesRight_128 rfl rfl (by assumption) rfl rfl ⟨by decide, by decide⟩ (by first | decide | (simp [cat_rf, cat_ref, cat_int, cat_null]; done) | (simp [cat_rf, cat_ref, cat_int, cat_null, Value.category]; done)) ⟨by decide, by decide⟩ ?_
        refine V_if_ne (tgt := 191) hZ dL_areCopiesRight_131 (by decide) (fun z => absurd (rn0) z) (fun _ => ?_)
        refine V_iload_n hZ 3 dL_areCopiesRight_134 rfl rfl ?_
        refine V_iconst (v := 2) hZ dL_areCopiesRight_135 (by decide) ?_
        refine V_icmp_ne (tgt := 162) hZ dL_areCopiesRight_136 (by decide) (fun _ => ?_) (fun z => absurd z ((by decide)))
        refine V_iload_n hZ 3 dL_areCopiesRight_162 rfl rfl ?_
        refine V_iconst (v := 1) hZ dL_areCopiesRight_163 (by decide) ?_
        refine V_icmp_ne (tgt := 184) hZ dL_areCopiesRight_164 (by decide) (fun _ => ?_) (fun z => absurd z ((by decide)))
        refine V_iload hZ dL_areCopiesRight_184 rfl ?_
        refine V_bipush (v := 29) hZ dL_areCopiesRight_186 (by decide) ?_
        refine V_icmp_le (tgt := 193) hZ dL_areCopiesRight_188 (by decide) (fun _ => ?_) (fun z => absurd ((by decide)) z)
        exact J 0 _ _ _ (by decide) p0
      · refine V.stc (st' := [.int (nI 1)]) (by rw [show factC S c 1 = nI 1 from p0]) ?_
        refine V_istore_n hZ 3 rfl dL_areCopiesRight_21 (by decide) (by first | rfl | simp [okp, cat_rf, cat_ref, cat_int, cat_null]) ?_
        refine V.lvc (by simp only [List.set_cons_zero, List.set_cons_succ, Nat.reduceAdd]; rfl) ?_
        refine V_iload_n hZ 3 dL_areCopiesRight_22 rfl rfl ?_
        refine V_if_lt (tgt := 31) hZ dL_areCopiesRight_23 (by decide) (fun z => absurd z ((by decide))) (fun _ => ?_)
        refine V_iload_n hZ 3 dL_areCopiesRight_26 rfl rfl ?_
        refine V_iconst (v := 3) hZ dL_areCopiesRight_27 (by decide) ?_
        refine V_icmp_le (tgt := 33) hZ dL_areCopiesRight_28 (by decide) (fun _ => ?_) (fun z => absurd ((by decide)) z)
        refine V_aload_n hZ 1 dL_areCopiesRight_33 rfl rfl (by first | rfl | exact isR_rf _) ?_
        refine V_iload_n hZ 3 dL_areCopiesRight_34 rfl rfl ?_
        refine V_dup2 hZ dL_areCopiesRight_35 rfl rfl ?_
        refine V_ialdn (i := 1) hZ dL_areCopiesRight_36 f0 (by decide) (by decide) ?_
        refine V_iconst (v := 1) hZ dL_areCopiesRight_37 (by decide) ?_
        refine V_iadd hZ dL_areCopiesRight_38 ?_
        refine V_iastn (i := 1) hZ dL_areCopiesRight_39 f0 (by decide) (by decide) ?_
        rw [hup_hup, wh_next (p := 1) (by decide) hi p0]
        have R2 := R0 (whN S (c + 1))
        have g2 := R2.hall
        refine V_aload_n hZ 0 dL_areCopiesRight_40 rfl rfl (by first | rfl | exact isR_rf _) ?_
        refine V_iload_n hZ 2 dL_areCopiesRight_41 rfl rfl ?_
        refine V_iconst (v := 2) hZ dL_areCopiesRight_42 (by decide) ?_
        refine V_invVp hZ me_X5_ofCopy mi_X5_ofCopy ml_L_66 (c_ofCopy Z.1 R2 W (i := c) (k := 2) hi (by decide)) dL_areCopiesRight_43 rfl rfl (by assumption) rfl rfl ⟨by decide, by decide⟩ (by first | decide | (simp [cat_rf, cat_ref, cat_int, cat_null]; done) | (simp [cat_rf, cat_ref, cat_int, cat_null, Value.category]; done)) ⟨by decide, by decide⟩ ?_
        refine V.stc (st' := [.int (nI x)]) (by rw [show factC S c 2 = nI x by show orN (cpRd (cps S c)) = nI x; rw [rd0]; rfl]) ?_
        refine V_istore hZ dL_areCopiesRight_46 (by decide) (by first | rfl | simp [okp, cat_rf, cat_ref, cat_int, cat_null]) ?_
        refine V.lvc (by simp only [List.set_cons_zero, List.set_cons_succ, Nat.reduceAdd]; rfl) ?_
        refine V_aload_n hZ 0 dL_areCopiesRight_48 rfl rfl (by first | rfl | exact isR_rf _) ?_
        refine V_iload_n hZ 2 dL_areCopiesRight_49 rfl rfl ?_
        refine V_iconst (v := 3) hZ dL_areCopiesRight_50 (by decide) ?_
        refine V_invVp hZ me_X5_ofCopy mi_X5_ofCopy ml_L_66 (c_ofCopy Z.1 R2 W (i := c) (k := 3) hi (by decide)) dL_areCopiesRight_51 rfl rfl (by assumption) rfl rfl ⟨by decide, by decide⟩ (by first | decide | (simp [cat_rf, cat_ref, cat_int, cat_null]; done) | (simp [cat_rf, cat_ref, cat_int, cat_null, Value.category]; done)) ⟨by decide, by decide⟩ ?_
        refine V.stc (st' := [.int (cpDy (cps S c))]) rfl ?_
        refine V_istore hZ dL_areCopiesRight_54 (by decide) (by first | rfl | simp [okp, cat_rf, cat_ref, cat_int, cat_null]) ?_
        refine V.lvc (by simp only [List.set_cons_zero, List.set_cons_succ, Nat.reduceAdd]; rfl) ?_
        refine V_aload_n hZ 0 dL_areCopiesRight_56 rfl rfl (by first | rfl | exact isR_rf _) ?_
        refine V_iload_n hZ 2 dL_areCopiesRight_57 rfl rfl ?_
        refine V_iconst (v := 4) hZ dL_areCopiesRight_58 (by decide) ?_
        refine V_invVp hZ me_X5_ofCopy mi_X5_ofCopy ml_L_66 (c_ofCopy Z.1 R2 W (i := c) (k := 4) hi (by decide)) dL_areCopiesRight_59 rfl rfl (by assumption) rfl rfl ⟨by decide, by decide⟩ (by first | decide | (simp [cat_rf, cat_ref, cat_int, cat_null]; done) | (simp [cat_rf, cat_ref, cat_int, cat_null, Value.category]; done)) ⟨by decide, by decide⟩ ?_
        refine V.stc (st' := [.int (lateC S c (tdy S))]) rfl ?_
        refine V_istore hZ dL_areCopiesRight_62 (by decide) (by first | rfl | simp [okp, cat_rf, cat_ref, cat_int, cat_null]) ?_
        refine V.lvc (by simp only [List.set_cons_zero, List.set_cons_succ, Nat.reduceAdd]; rfl) ?_
        refine V_iload_n hZ 3 dL_areCopiesRight_64 rfl rfl ?_
        refine V_if_ne (tgt := 72) hZ dL_areCopiesRight_65 (by decide) (fun _ => ?_) (fun z => absurd z ((by decide)))
        refine V_iconst (v := 0) hZ dL_areCopiesRight_72 (by decide) ?_
        refine V_iload hZ dL_areCopiesRight_73 rfl ?_
        refine V_iconst (v := -1) hZ dL_areCopiesRight_75 (by decide) ?_
        refine V_icmp_ne (tgt := 83) hZ dL_areCopiesRight_76 (by decide) (fun _ => ?_) (fun z => absurd z ((fun z => nI_pos (n := x) (by omega) (by rw [z]; decide))))
        refine V_iconst (v := 0) hZ dL_areCopiesRight_83 (by decide) ?_
        refine V_icmp_ne (tgt := 191) hZ dL_areCopiesRight_84 (by decide) (fun z => absurd (rfl) z) (fun _ => ?_)
        refine V_iload_n hZ 3 dL_areCopiesRight_87 rfl rfl ?_
        refine V_if_eq (tgt := 96) hZ dL_areCopiesRight_88 (by decide) (fun z => absurd z ((by decide))) (fun _ => ?_)
        refine V_iload_n hZ 3 dL_areCopiesRight_91 rfl rfl ?_
        refine V_iconst (v := 3) hZ dL_areCopiesRight_92 (by decide) ?_
        refine V_icmp_ne (tgt := 100) hZ dL_areCopiesRight_93 (by decide) (fun _ => ?_) (fun z => absurd z ((by decide)))
        refine V_iconst (v := 0) hZ dL_areCopiesRight_100 (by decide) ?_
        refine V_iload hZ dL_areCopiesRight_101 rfl ?_
        refine V_iconst (v := -1) hZ dL_areCopiesRight_103 (by decide) ?_
        refine V_icmp_ne (tgt := 111) hZ dL_areCopiesRight_104 (by decide) (fun _ => ?_) (fun z => absurd z (dy0))
        refine V_iconst (v := 0) hZ dL_areCopiesRight_111 (by decide) ?_
        refine V_icmp_ne (tgt := 191) hZ dL_areCopiesRight_112 (by decide) (fun z => absurd (rfl) z) (fun _ => ?_)
        refine V_iload_n hZ 3 dL_areCopiesRight_115 rfl rfl ?_
        refine V_iconst (v := 1) hZ dL_areCopiesRight_116 (by decide) ?_
        refine V_icmp_eq (tgt := 134) hZ dL_areCopiesRight_117 (by decide) (fun _ => ?_) (fun z => absurd ((by decide)) z)
        refine V_iload_n hZ 3 dL_areCopiesRight_134 rfl rfl ?_
        refine V_iconst (v := 2) hZ dL_areCopiesRight_135 (by decide) ?_
        refine V_icmp_ne (tgt := 162) hZ dL_areCopiesRight_136 (by decide) (fun _ => ?_) (fun z => absurd z ((by decide)))
        refine V_iload_n hZ 3 dL_areCopiesRight_162 rfl rfl ?_
        refine V_iconst (v := 1) hZ dL_areCopiesRight_163 (by decide) ?_
        refine V_icmp_ne (tgt := 184) hZ dL_areCopiesRight_164 (by decide) (fun z => absurd ((by decide)) z) (fun _ => ?_)
        refine V_iload hZ dL_areCopiesRight_167 rfl ?_
        refine V_iconst (v := 0) hZ dL_areCopiesRight_169 (by decide) ?_
        refine V_aload_n hZ 0 dL_areCopiesRight_170 rfl rfl (by first | rfl | exact isR_rf _) ?_
        refine V_iconst (v := 0) hZ dL_areCopiesRight_171 (by decide) ?_
        refine V_invVp hZ me_X5_many mi_X5_many ml_L_34 (c_many Z.1 R2 W (k := 0) (by decide)) dL_areCopiesRight_172 rfl rfl (by assumption) rfl rfl ⟨by decide, by decide⟩ (by first | decide | (simp [cat_rf, cat_ref, cat_int, cat_null]; done) | (simp [cat_rf, cat_ref, cat_int, cat_null, Value.category]; done)) ⟨by decide, by decide⟩ ?_
        refine V_iload hZ dL_areCopiesRight_175 rfl ?_
        refine V_isub hZ dL_areCopiesRight_177 ?_
        refine V_mmax hZ ml_L_55 dL_areCopiesRight_178 (by decide) (by first | decide | (simp [cat_rf, cat_ref, cat_int, cat_null]; done) | (simp [cat_rf, cat_ref, cat_int, cat_null, Value.category]; done)) ⟨by decide, by decide⟩ ?_
        refine V_icmp_ne (tgt := 191) hZ dL_areCopiesRight_181 (by decide) (fun z => absurd (l0) z) (fun _ => ?_)
        refine V_iload hZ dL_areCopiesRight_184 rfl ?_
        refine V_bipush (v := 29) hZ dL_areCopiesRight_186 (by decide) ?_
        refine V_icmp_le (tgt := 193) hZ dL_areCopiesRight_188 (by decide) (fun _ => ?_) (fun z => absurd (l1) z)
        exact J 1 _ _ _ (by decide) p0
      · refine V.stc (st' := [.int (nI 2)]) (by rw [show factC S c 1 = nI 2 from p0]) ?_
        refine V_istore_n hZ 3 rfl dL_areCopiesRight_21 (by decide) (by first | rfl | simp [okp, cat_rf, cat_ref, cat_int, cat_null]) ?_
        refine V.lvc (by simp only [List.set_cons_zero, List.set_cons_succ, Nat.reduceAdd]; rfl) ?_
        refine V_iload_n hZ 3 dL_areCopiesRight_22 rfl rfl ?_
        refine V_if_lt (tgt := 31) hZ dL_areCopiesRight_23 (by decide) (fun z => absurd z ((by decide))) (fun _ => ?_)
        refine V_iload_n hZ 3 dL_areCopiesRight_26 rfl rfl ?_
        refine V_iconst (v := 3) hZ dL_areCopiesRight_27 (by decide) ?_
        refine V_icmp_le (tgt := 33) hZ dL_areCopiesRight_28 (by decide) (fun _ => ?_) (fun z => absurd ((by decide)) z)
        refine V_aload_n hZ 1 dL_areCopiesRight_33 rfl rfl (by first | rfl | exact isR_rf _) ?_
        refine V_iload_n hZ 3 dL_areCopiesRight_34 rfl rfl ?_
        refine V_dup2 hZ dL_areCopiesRight_35 rfl rfl ?_
        refine V_ialdn (i := 2) hZ dL_areCopiesRight_36 f0 (by decide) (by decide) ?_
        refine V_iconst (v := 1) hZ dL_areCopiesRight_37 (by decide) ?_
        refine V_iadd hZ dL_areCopiesRight_38 ?_
        refine V_iastn (i := 2) hZ dL_areCopiesRight_39 f0 (by decide) (by decide) ?_
        rw [hup_hup, wh_next (p := 2) (by decide) hi p0]
        have R2 := R0 (whN S (c + 1))
        have g2 := R2.hall
        refine V_aload_n hZ 0 dL_areCopiesRight_40 rfl rfl (by first | rfl | exact isR_rf _) ?_
        refine V_iload_n hZ 2 dL_areCopiesRight_41 rfl rfl ?_
        refine V_iconst (v := 2) hZ dL_areCopiesRight_42 (by decide) ?_
        refine V_invVp hZ me_X5_ofCopy mi_X5_ofCopy ml_L_66 (c_ofCopy Z.1 R2 W (i := c) (k := 2) hi (by decide)) dL_areCopiesRight_43 rfl rfl (by assumption) rfl rfl ⟨by decide, by decide⟩ (by first | decide | (simp [cat_rf, cat_ref, cat_int, cat_null]; done) | (simp [cat_rf, cat_ref, cat_int, cat_null, Value.category]; done)) ⟨by decide, by decide⟩ ?_
        refine V.stc (st' := [.int (nI x)]) (by rw [show factC S c 2 = nI x by show orN (cpRd (cps S c)) = nI x; rw [rd0]; rfl]) ?_
        refine V_istore hZ dL_areCopiesRight_46 (by decide) (by first | rfl | simp [okp, cat_rf, cat_ref, cat_int, cat_null]) ?_
        refine V.lvc (by simp only [List.set_cons_zero, List.set_cons_succ, Nat.reduceAdd]; rfl) ?_
        refine V_aload_n hZ 0 dL_areCopiesRight_48 rfl rfl (by first | rfl | exact isR_rf _) ?_
        refine V_iload_n hZ 2 dL_areCopiesRight_49 rfl rfl ?_
        refine V_iconst (v := 3) hZ dL_areCopiesRight_50 (by decide) ?_
        refine V_invVp hZ me_X5_ofCopy mi_X5_ofCopy ml_L_66 (c_ofCopy Z.1 R2 W (i := c) (k := 3) hi (by decide)) dL_areCopiesRight_51 rfl rfl (by assumption) rfl rfl ⟨by decide, by decide⟩ (by first | decide | (simp [cat_rf, cat_ref, cat_int, cat_null]; done) | (simp [cat_rf, cat_ref, cat_int, cat_null, Value.category]; done)) ⟨by decide, by decide⟩ ?_
        refine V.stc (st' := [.int (cpDy (cps S c))]) rfl ?_
        refine V_istore hZ dL_areCopiesRight_54 (by decide) (by first | rfl | simp [okp, cat_rf, cat_ref, cat_int, cat_null]) ?_
        refine V.lvc (by simp only [List.set_cons_zero, List.set_cons_succ, Nat.reduceAdd]; rfl) ?_
        refine V_aload_n hZ 0 dL_areCopiesRight_56 rfl rfl (by first | rfl | exact isR_rf _) ?_
        refine V_iload_n hZ 2 dL_areCopiesRight_57 rfl rfl ?_
        refine V_iconst (v := 4) hZ dL_areCopiesRight_58 (by decide) ?_
        refine V_invVp hZ me_X5_ofCopy mi_X5_ofCopy ml_L_66 (c_ofCopy Z.1 R2 W (i := c) (k := 4) hi (by decide)) dL_areCopiesRight_59 rfl rfl (by assumption) rfl rfl ⟨by decide, by decide⟩ (by first | decide | (simp [cat_rf, cat_ref, cat_int, cat_null]; done) | (simp [cat_rf, cat_ref, cat_int, cat_null, Value.category]; done)) ⟨by decide, by decide⟩ ?_
        refine V.stc (st' := [.int 0]) (by rw [show factC S c 4 = 0 from late_no (by rw [p0]; decide)]) ?_
        refine V_istore hZ dL_areCopiesRight_62 (by decide) (by first | rfl | simp [okp, cat_rf, cat_ref, cat_int, cat_null]) ?_
        refine V.lvc (by simp only [List.set_cons_zero, List.set_cons_succ, Nat.reduceAdd]; rfl) ?_
        refine V_iload_n hZ 3 dL_areCopiesRight_64 rfl rfl ?_
        refine V_if_ne (tgt := 72) hZ dL_areCopiesRight_65 (by decide) (fun _ => ?_) (fun z => absurd z ((by decide)))
        refine V_iconst (v := 0) hZ dL_areCopiesRight_72 (by decide) ?_
        refine V_iload hZ dL_areCopiesRight_73 rfl ?_
        refine V_iconst (v := -1) hZ dL_areCopiesRight_75 (by decide) ?_
        refine V_icmp_ne (tgt := 83) hZ dL_areCopiesRight_76 (by decide) (fun _ => ?_) (fun z => absurd z ((fun z => nI_pos (n := x) (by omega) (by rw [z]; decide))))
        refine V_iconst (v := 0) hZ dL_areCopiesRight_83 (by decide) ?_
        refine V_icmp_ne (tgt := 191) hZ dL_areCopiesRight_84 (by decide) (fun z => absurd (rfl) z) (fun _ => ?_)
        refine V_iload_n hZ 3 dL_areCopiesRight_87 rfl rfl ?_
        refine V_if_eq (tgt := 96) hZ dL_areCopiesRight_88 (by decide) (fun z => absurd z ((by decide))) (fun _ => ?_)
        refine V_iload_n hZ 3 dL_areCopiesRight_91 rfl rfl ?_
        refine V_iconst (v := 3) hZ dL_areCopiesRight_92 (by decide) ?_
        refine V_icmp_ne (tgt := 100) hZ dL_areCopiesRight_93 (by decide) (fun _ => ?_) (fun z => absurd z ((by decide)))
        refine V_iconst (v := 0) hZ dL_areCopiesRight_100 (by decide) ?_
        refine V_iload hZ dL_areCopiesRight_101 rfl ?_
        refine V_iconst (v := -1) hZ dL_areCopiesRight_103 (by decide) ?_
        refine V_icmp_ne (tgt := 111) hZ dL_areCopiesRight_104 (by decide) (fun _ => ?_) (fun z => absurd z (dy0))
        refine V_iconst (v := 0) hZ dL_areCopiesRight_111 (by decide) ?_
        refine V_icmp_ne (tgt := 191) hZ dL_areCopiesRight_112 (by decide) (fun z => absurd (rfl) z) (fun _ => ?_)
        refine V_iload_n hZ 3 dL_areCopiesRight_115 rfl rfl ?_
        refine V_iconst (v := 1) hZ dL_areCopiesRight_116 (by decide) ?_
        refine V_icmp_eq (tgt := 134) hZ dL_areCopiesRight_117 (by decide) (fun z => absurd z ((by decide))) (fun _ => ?_)
        refine V_iload hZ dL_areCopiesRight_120 rfl ?_
        refine V_if_ne (tgt := 191) hZ dL_areCopiesRight_122 (by decide) (fun z => absurd (rfl) z) (fun _ => ?_)
        refine V_aload_n hZ 0 dL_areCopiesRight_125 rfl rfl (by first | rfl | exact isR_rf _) ?_
        refine V_iload_n hZ 2 dL_areCopiesRight_126 rfl rfl ?_
        refine V_iconst (v := 5) hZ dL_areCopiesRight_127 (by decide) ?_
        refine V_invVp hZ me_X5_ofCopy mi_X5_ofCopy ml_L_66 (c_ofCopy Z.1 R2 W (i := c) (k := 5) hi (by decide)) dL_areCopiesRight_128 rfl rfl (by assumption) rfl rfl ⟨by decide, by decide⟩ (by first | decide | (simp [cat_rf, cat_ref, cat_int, cat_null]; done) | (simp [cat_rf, cat_ref, cat_int, cat_null, Value.category]; done)) ⟨by decide, by decide⟩ ?_
        refine V_if_ne (tgt := 191) hZ dL_areCopiesRight_131 (by decide) (fun z => absurd (rn0) z) (fun _ => ?_)
        refine V_iload_n hZ 3 dL_areCopiesRight_134 rfl rfl ?_
        refine V_iconst (v := 2) hZ dL_areCopiesRight_135 (by decide) ?_
        refine V_icmp_ne (tgt := 162) hZ dL_areCopiesRight_136 (by decide) (fun z => absurd ((by decide)) z) (fun _ => ?_)
        refine V_iload hZ dL_areCopiesRight_139 rfl ?_
        refine V_aload_n hZ 0 dL_areCopiesRight_141 rfl rfl (by first | rfl | exact isR_rf _) ?_
        refine V_iconst (v := 0) hZ dL_areCopiesRight_142 (by decide) ?_
        refine V_invVp hZ me_X5_many mi_X5_many ml_L_34 (c_many Z.1 R2 W (k := 0) (by decide)) dL_areCopiesRight_143 rfl rfl (by assumption) rfl rfl ⟨by decide, by decide⟩ (by first | decide | (simp [cat_rf, cat_ref, cat_int, cat_null]; done) | (simp [cat_rf, cat_ref, cat_int, cat_null, Value.category]; done)) ⟨by decide, by decide⟩ ?_
        refine V_icmp_lt (tgt := 191) hZ dL_areCopiesRight_146 (by decide) (fun z => absurd z (d0)) (fun _ => ?_)
        refine V_iload hZ dL_areCopiesRight_149 rfl ?_
        refine V_aload_n hZ 0 dL_areCopiesRight_151 rfl rfl (by first | rfl | exact isR_rf _) ?_
        refine V_iconst (v := 0) hZ dL_areCopiesRight_152 (by decide) ?_
        refine V_invVp hZ me_X5_many mi_X5_many ml_L_34 (c_many Z.1 R2 W (k := 0) (by decide)) dL_areCopiesRight_153 rfl rfl (by assumption) rfl rfl ⟨by decide, by decide⟩ (by first | decide | (simp [cat_rf, cat_ref, cat_int, cat_null]; done) | (simp [cat_rf, cat_ref, cat_int, cat_null, Value.category]; done)) ⟨by decide, by decide⟩ ?_
        refine V_bipush (v := 6) hZ dL_areCopiesRight_156 (by decide) ?_
        refine V_iadd hZ dL_areCopiesRight_158 ?_
        refine V_icmp_gt (tgt := 191) hZ dL_areCopiesRight_159 (by decide) (fun z => absurd z (d1)) (fun _ => ?_)
        refine V_iload_n hZ 3 dL_areCopiesRight_162 rfl rfl ?_
        refine V_iconst (v := 1) hZ dL_areCopiesRight_163 (by decide) ?_
        refine V_icmp_ne (tgt := 184) hZ dL_areCopiesRight_164 (by decide) (fun _ => ?_) (fun z => absurd z ((by decide)))
        refine V_iload hZ dL_areCopiesRight_184 rfl ?_
        refine V_bipush (v := 29) hZ dL_areCopiesRight_186 (by decide) ?_
        refine V_icmp_le (tgt := 193) hZ dL_areCopiesRight_188 (by decide) (fun _ => ?_) (fun z => absurd ((by decide)) z)
        exact J 2 _ _ _ (by decide) p0
      · refine V.stc (st' := [.int (nI 3)]) (by rw [show factC S c 1 = nI 3 from p0]) ?_
        refine V_istore_n hZ 3 rfl dL_areCopiesRight_21 (by decide) (by first | rfl | simp [okp, cat_rf, cat_ref, cat_int, cat_null]) ?_
        refine V.lvc (by simp only [List.set_cons_zero, List.set_cons_succ, Nat.reduceAdd]; rfl) ?_
        refine V_iload_n hZ 3 dL_areCopiesRight_22 rfl rfl ?_
        refine V_if_lt (tgt := 31) hZ dL_areCopiesRight_23 (by decide) (fun z => absurd z ((by decide))) (fun _ => ?_)
        refine V_iload_n hZ 3 dL_areCopiesRight_26 rfl rfl ?_
        refine V_iconst (v := 3) hZ dL_areCopiesRight_27 (by decide) ?_
        refine V_icmp_le (tgt := 33) hZ dL_areCopiesRight_28 (by decide) (fun _ => ?_) (fun z => absurd ((by decide)) z)
        refine V_aload_n hZ 1 dL_areCopiesRight_33 rfl rfl (by first | rfl | exact isR_rf _) ?_
        refine V_iload_n hZ 3 dL_areCopiesRight_34 rfl rfl ?_
        refine V_dup2 hZ dL_areCopiesRight_35 rfl rfl ?_
        refine V_ialdn (i := 3) hZ dL_areCopiesRight_36 f0 (by decide) (by decide) ?_
        refine V_iconst (v := 1) hZ dL_areCopiesRight_37 (by decide) ?_
        refine V_iadd hZ dL_areCopiesRight_38 ?_
        refine V_iastn (i := 3) hZ dL_areCopiesRight_39 f0 (by decide) (by decide) ?_
        rw [hup_hup, wh_next (p := 3) (by decide) hi p0]
        have R2 := R0 (whN S (c + 1))
        have g2 := R2.hall
        refine V_aload_n hZ 0 dL_areCopiesRight_40 rfl rfl (by first | rfl | exact isR_rf _) ?_
        refine V_iload_n hZ 2 dL_areCopiesRight_41 rfl rfl ?_
        refine V_iconst (v := 2) hZ dL_areCopiesRight_42 (by decide) ?_
        refine V_invVp hZ me_X5_ofCopy mi_X5_ofCopy ml_L_66 (c_ofCopy Z.1 R2 W (i := c) (k := 2) hi (by decide)) dL_areCopiesRight_43 rfl rfl (by assumption) rfl rfl ⟨by decide, by decide⟩ (by first | decide | (simp [cat_rf, cat_ref, cat_int, cat_null]; done) | (simp [cat_rf, cat_ref, cat_int, cat_null, Value.category]; done)) ⟨by decide, by decide⟩ ?_
        refine V.stc (st' := [.int (nI x)]) (by rw [show factC S c 2 = nI x by show orN (cpRd (cps S c)) = nI x; rw [rd0]; rfl]) ?_
        refine V_istore hZ dL_areCopiesRight_46 (by decide) (by first | rfl | simp [okp, cat_rf, cat_ref, cat_int, cat_null]) ?_
        refine V.lvc (by simp only [List.set_cons_zero, List.set_cons_succ, Nat.reduceAdd]; rfl) ?_
        refine V_aload_n hZ 0 dL_areCopiesRight_48 rfl rfl (by first | rfl | exact isR_rf _) ?_
        refine V_iload_n hZ 2 dL_areCopiesRight_49 rfl rfl ?_
        refine V_iconst (v := 3) hZ dL_areCopiesRight_50 (by decide) ?_
        refine V_invVp hZ me_X5_ofCopy mi_X5_ofCopy ml_L_66 (c_ofCopy Z.1 R2 W (i := c) (k := 3) hi (by decide)) dL_areCopiesRight_51 rfl rfl (by assumption) rfl rfl ⟨by decide, by decide⟩ (by first | decide | (simp [cat_rf, cat_ref, cat_int, cat_null]; done) | (simp [cat_rf, cat_ref, cat_int, cat_null, Value.category]; done)) ⟨by decide, by decide⟩ ?_
        refine V.stc (st' := [.int (-1)]) (by rw [show factC S c 3 = -1 from dy0]) ?_
        refine V_istore hZ dL_areCopiesRight_54 (by decide) (by first | rfl | simp [okp, cat_rf, cat_ref, cat_int, cat_null]) ?_
        refine V.lvc (by simp only [List.set_cons_zero, List.set_cons_succ, Nat.reduceAdd]; rfl) ?_
        refine V_aload_n hZ 0 dL_areCopiesRight_56 rfl rfl (by first | rfl | exact isR_rf _) ?_
        refine V_iload_n hZ 2 dL_areCopiesRight_57 rfl rfl ?_
        refine V_iconst (v := 4) hZ dL_areCopiesRight_58 (by decide) ?_
        refine V_invVp hZ me_X5_ofCopy mi_X5_ofCopy ml_L_66 (c_ofCopy Z.1 R2 W (i := c) (k := 4) hi (by decide)) dL_areCopiesRight_59 rfl rfl (by assumption) rfl rfl ⟨by decide, by decide⟩ (by first | decide | (simp [cat_rf, cat_ref, cat_int, cat_null]; done) | (simp [cat_rf, cat_ref, cat_int, cat_null, Value.category]; done)) ⟨by decide, by decide⟩ ?_
        refine V.stc (st' := [.int 0]) (by rw [show factC S c 4 = 0 from late_no (by rw [p0]; decide)]) ?_
        refine V_istore hZ dL_areCopiesRight_62 (by decide) (by first | rfl | simp [okp, cat_rf, cat_ref, cat_int, cat_null]) ?_
        refine V.lvc (by simp only [List.set_cons_zero, List.set_cons_succ, Nat.reduceAdd]; rfl) ?_
        refine V_iload_n hZ 3 dL_areCopiesRight_64 rfl rfl ?_
        refine V_if_ne (tgt := 72) hZ dL_areCopiesRight_65 (by decide) (fun _ => ?_) (fun z => absurd z ((by decide)))
        refine V_iconst (v := 0) hZ dL_areCopiesRight_72 (by decide) ?_
        refine V_iload hZ dL_areCopiesRight_73 rfl ?_
        refine V_iconst (v := -1) hZ dL_areCopiesRight_75 (by decide) ?_
        refine V_icmp_ne (tgt := 83) hZ dL_areCopiesRight_76 (by decide) (fun _ => ?_) (fun z => absurd z ((fun z => nI_pos (n := x) (by omega) (by rw [z]; decide))))
        refine V_iconst (v := 0) hZ dL_areCopiesRight_83 (by decide) ?_
        refine V_icmp_ne (tgt := 191) hZ dL_areCopiesRight_84 (by decide) (fun z => absurd (rfl) z) (fun _ => ?_)
        refine V_iload_n hZ 3 dL_areCopiesRight_87 rfl rfl ?_
        refine V_if_eq (tgt := 96) hZ dL_areCopiesRight_88 (by decide) (fun z => absurd z ((by decide))) (fun _ => ?_)
        refine V_iload_n hZ 3 dL_areCopiesRight_91 rfl rfl ?_
        refine V_iconst (v := 3) hZ dL_areCopiesRight_92 (by decide) ?_
        refine V_icmp_ne (tgt := 100) hZ dL_areCopiesRight_93 (by decide) (fun z => absurd ((by decide)) z) (fun _ => ?_)
        refine V_iconst (v := 1) hZ dL_areCopiesRight_96 (by decide) ?_
        refine V_goto (tgt := 101) hZ dL_areCopiesRight_97 (by decide) ?_
        refine V_iload hZ dL_areCopiesRight_101 rfl ?_
        refine V_iconst (v := -1) hZ dL_areCopiesRight_103 (by decide) ?_
        refine V_icmp_ne (tgt := 111) hZ dL_areCopiesRight_104 (by decide) (fun z => absurd (rfl) z) (fun _ => ?_)
        refine V_iconst (v := 1) hZ dL_areCopiesRight_107 (by decide) ?_
        refine V_goto (tgt := 112) hZ dL_areCopiesRight_108 (by decide) ?_
        refine V_icmp_ne (tgt := 191) hZ dL_areCopiesRight_112 (by decide) (fun z => absurd (rfl) z) (fun _ => ?_)
        refine V_iload_n hZ 3 dL_areCopiesRight_115 rfl rfl ?_
        refine V_iconst (v := 1) hZ dL_areCopiesRight_116 (by decide) ?_
        refine V_icmp_eq (tgt := 134) hZ dL_areCopiesRight_117 (by decide) (fun z => absurd z ((by decide))) (fun _ => ?_)
        refine V_iload hZ dL_areCopiesRight_120 rfl ?_
        refine V_if_ne (tgt := 191) hZ dL_areCopiesRight_122 (by decide) (fun z => absurd (rfl) z) (fun _ => ?_)
        refine V_aload_n hZ 0 dL_areCopiesRight_125 rfl rfl (by first | rfl | exact isR_rf _) ?_
        refine V_iload_n hZ 2 dL_areCopiesRight_126 rfl rfl ?_
        refine V_iconst (v := 5) hZ dL_areCopiesRight_127 (by decide) ?_
        refine V_invVp hZ me_X5_ofCopy mi_X5_ofCopy ml_L_66 (c_ofCopy Z.1 R2 W (i := c) (k := 5) hi (by decide)) dL_areCopiesRight_128 rfl rfl (by assumption) rfl rfl ⟨by decide, by decide⟩ (by first | decide | (simp [cat_rf, cat_ref, cat_int, cat_null]; done) | (simp [cat_rf, cat_ref, cat_int, cat_null, Value.category]; done)) ⟨by decide, by decide⟩ ?_
        refine V_if_ne (tgt := 191) hZ dL_areCopiesRight_131 (by decide) (fun z => absurd (rn0) z) (fun _ => ?_)
        refine V_iload_n hZ 3 dL_areCopiesRight_134 rfl rfl ?_
        refine V_iconst (v := 2) hZ dL_areCopiesRight_135 (by decide) ?_
        refine V_icmp_ne (tgt := 162) hZ dL_areCopiesRight_136 (by decide) (fun _ => ?_) (fun z => absurd z ((by decide)))
        refine V_iload_n hZ 3 dL_areCopiesRight_162 rfl rfl ?_
        refine V_iconst (v := 1) hZ dL_areCopiesRight_163 (by decide) ?_
        refine V_icmp_ne (tgt := 184) hZ dL_areCopiesRight_164 (by decide) (fun _ => ?_) (fun z => absurd z ((by decide)))
        refine V_iload hZ dL_areCopiesRight_184 rfl ?_
        refine V_bipush (v := 29) hZ dL_areCopiesRight_186 (by decide) ?_
        refine V_icmp_le (tgt := 193) hZ dL_areCopiesRight_188 (by decide) (fun _ => ?_) (fun z => absurd ((by decide)) z)
        exact J 3 _ _ _ (by decide) p0
  exact key (nCp S) 0 (by omega) _ _ _ _

