/-! who waits no more; days; laying together -/
def itN {α : Type} (f : α → Nat → α) : Nat → α → α
  | 0, s => s
  | k + 1, s => f (itN f k s) k
abbrev dropS (S : St) (x r : Nat) : St := setLn S r ((lin S r).filter (· ≠ x))
def endStep (x r : Nat) (T : St) (c : Nat) : St := if asideB T (some x) r c = true then freeS T c else T
def endS (S : St) (x r : Nat) : St := itN (endStep x r) 30 (dropS S x r)
theorem b01_z {p : Prop} [Decidable p] (h : b01 p = 0) : ¬ p := fun z => absurd h (by simp [b01, z])
theorem b01_nz {p : Prop} [Decidable p] (h : ¬ b01 p = 0) : p := Decidable.byContradiction fun z => h (by simp [b01, z])
theorem wf_drop {S : St} (W : Wf S) {x r : Nat} (hr : r < nRc S) : Wf (dropS S x r) :=
  wf_ln W (Nat.le_trans (List.length_filter_le _ _) (W_lin W hr).1) (fun y hy => (W_lin W hr).2 y (List.mem_filter.mp hy).1) ((W_nod W hr).sublist List.filter_sublist)
theorem wf_endStep {T : St} (W : Wf T) {x r c : Nat} : Wf (endStep x r T c) := by
  unfold endStep
  split
  · rename_i h
    simp only [asideB, decide_eq_true_eq] at h
    exact wf_free W h.1
  · exact W
/-- what stays while copies are freed -/
def same5 (S T : St) : Prop := T.1 = S.1 ∧ T.2.1 = S.2.1 ∧ T.2.2.1 = S.2.2.1
theorem same5.rf {S : St} : same5 S S := ⟨rfl, rfl, rfl⟩
theorem same5.tr {S T U : St} (h1 : same5 S T) (h2 : same5 T U) : same5 S U := ⟨h2.1.trans h1.1, h2.2.1.trans h1.2.1, h2.2.2.trans h1.2.2⟩
theorem same5_endStep {T : St} {x r c : Nat} : same5 T (endStep x r T c) := by
  unfold endStep
  split <;> exact ⟨rfl, rfl, rfl⟩
theorem itN_wf {f : St → Nat → St} (hf : ∀ T c, Wf T → Wf (f T c)) {S : St} (W : Wf S) : ∀ k, Wf (itN f k S) := by
  intro k
  induction k with
  | zero => exact W
  | succ k ih => exact hf _ _ ih
theorem itN_same {f : St → Nat → St} (hf : ∀ T c, same5 T (f T c)) {S : St} : ∀ k, same5 S (itN f k S) := by
  intro k
  induction k with
  | zero => exact same5.rf
  | succ k ih => exact ih.tr (hf _ _)
theorem wf_end {S : St} (W : Wf S) {x r : Nat} (hr : r < nRc S) : Wf (endS S x r) := itN_wf (fun T c h => wf_endStep h) (wf_drop W hr) 30
theorem same5_end {S : St} {x r : Nat} : same5 S (endS S x r) := by
  have h := itN_same (f := endStep x r) (fun T c => same5_endStep) (S := dropS S x r) 30
  exact same5.tr (S := S) (T := dropS S x r) ⟨rfl, rfl, rfl⟩ h
theorem c_endWait (G : GC) {h : HP} {S : St} (R : Rep S h) (W : Wf S) {x r : Nat} (hx : x < nRd S) (hr : r < nRc S) : Calls G yX5_endWait cX5_endWait 7 (.none : Option Jvm.ClassFile.FieldType) 4 95 0 0 [.ref (aH S), .ref (adD S x), .ref (adR S r)] h (fun v h' => v = none ∧ Rep (endS S x r) h') qX := by
  have h1 := R.hall
  have h2 := R.rec hr
  have h3 := R.line hr
  have R0 := rep_ln R hr ((lin S r).filter (· ≠ x))
  have W0 := wf_drop W (x := x) hr
  refine Calls_of1 (by decide +kernel) (by simp [cat_rf, cat_ref, cat_int, cat_null]) (by simp) (lv0 := [some (.ref (aH S)), some (.ref (adD S x)), some (.ref (adR S r)), none, none, none, none]) rfl ?_
  intro Z hG hZ hE hN
  subst hG
  refine V_aload_n hZ 2 dX5_endWait_0 rfl rfl (by first | rfl | exact isR_rf _) ?_
  refine V_getfield hZ fl_X5_235 dX5_endWait_1 (by assumption) (by rfl) ?_
  refine V_aload_n hZ 1 dX5_endWait_4 rfl rfl (by first | rfl | exact isR_rf _) ?_
  refine V_invV hZ me_X4_drop mi_X4_drop ml_X5_379 (c_drop Z.1 h h3 (R.row hr) (W_lin W hr).1 (r := x) (fun y hy he => R.rdrInj W ((W_lin W hr).2 y hy) hx he) (fun y hy => ⟨_, _, _, R.rdr ((W_lin W hr).2 y hy)⟩)) dX5_endWait_5 rfl rfl (by assumption) rfl rfl ⟨by decide, by decide⟩ (by first | decide | simp [cat_rf, cat_ref, cat_int, cat_null]) ⟨by decide, by decide⟩ (fun _ _ hq => hq.elim) ?_
  rintro _ _ ⟨rfl, rfl⟩
  have h1' := R0.hall
  have h2' := R0.copies
  refine V_aload_n hZ 0 dX5_endWait_8 rfl rfl (by first | rfl | exact isR_rf _) ?_
  refine V_getfield hZ fl_X5_23.r dX5_endWait_9 (by assumption) (by rfl) ?_
  refine V_astore_n hZ 3 rfl dX5_endWait_12 (by first | rfl | exact isR_rf _) (by decide) (by first | rfl | simp [okp, cat_rf, cat_ref, cat_int, cat_null]) ?_
  refine V.lvc (by simp only [List.set_cons_zero, List.set_cons_succ, Nat.reduceAdd]; rfl) ?_
  refine V_aload_n hZ 3 dX5_endWait_13 rfl rfl (by first | rfl | exact isR_rf _) ?_
  refine V_alenR hZ dX5_endWait_14 (by assumption) ?_
  refine V_istore hZ dX5_endWait_15 (by decide) (by first | rfl | simp [okp, cat_rf, cat_ref, cat_int, cat_null]) ?_
  refine V.lvc (by simp only [List.set_cons_zero, List.set_cons_succ, Nat.reduceAdd]; rfl) ?_
  refine V_iconst (v := 0) hZ dX5_endWait_17 (by decide) ?_
  refine V_istore hZ dX5_endWait_18 (by decide) (by first | rfl | simp [okp, cat_rf, cat_ref, cat_int, cat_null]) ?_
  refine V.lvc (by simp only [List.set_cons_zero, List.set_cons_succ, Nat.reduceAdd]; rfl) ?_
  have key : ∀ m c, c + m = 30 → ∀ (T : St) (g : HP), Rep T g → Wf T → x < nRd T → r < nRc T → itN (endStep x r) c (dropS S x r) = T → ∀ w, V Z 20 [some (.ref (aH T)), some (.ref (adD T x)), some (.ref (adR T r)), some (.ref (aCs T)), some (.int (nI 30)), some (.int (nI c)), w] [] g 0 0 := by
    intro m
    induction m with
    | zero =>
      intro c hcm T g R W hx hr hT w
      have hc : c = 30 := by omega
      subst hc
      have g1 := R.hall
      have g2 := R.copies
      refine V_iload hZ dX5_endWait_20 rfl ?_
      refine V_iload hZ dX5_endWait_22 rfl ?_
      refine V_icmp_ge (tgt := 60) hZ dX5_endWait_24 (by decide) (fun cE => ?_) (fun cE => ?_)
      · refine V_vret hZ hE rfl dX5_endWait_60 (by decide) (by decide) ?_
        exact ⟨rfl, by rw [show endS S x r = T from hT]; exact R⟩
      · exact absurd (by decide) cE
    | succ m ih =>
      intro c hcm T g R W hx hr hT w
      have hcN : c < 30 := by omega
      have g1 := R.hall
      have g2 := R.copies
      refine V_iload hZ dX5_endWait_20 rfl ?_
      refine V_iload hZ dX5_endWait_22 rfl ?_
      refine V_icmp_ge (tgt := 60) hZ dX5_endWait_24 (by decide) (fun cE => ?_) (fun cE => ?_)
      · have cE2 : 30 ≤ c := (nI_leI (a := 30) (by decide) (by omega)).mp cE
        omega
      · refine V_aload_n hZ 3 dX5_endWait_27 rfl rfl (by first | rfl | exact isR_rf _) ?_
        refine V_iload hZ dX5_endWait_28 rfl ?_
        by_cases hi : c < nCp T
        · refine V_aaldn hZ dX5_endWait_30 (by assumption) hcN (by decide) (v := .ref (adC T c)) (rowf_lt hi) ?_
          refine V_astore hZ dX5_endWait_31 (by first | rfl | exact isR_rf _) (by decide) (by first | rfl | simp [okp, cat_rf, cat_ref, cat_int, cat_null]) ?_
          refine V.lvc (by simp only [List.set_cons_zero, List.set_cons_succ, Nat.reduceAdd]; rfl) ?_
          refine V_aload hZ dX5_endWait_33 rfl (by first | rfl | exact isR_rf _) ?_
          refine V_ifnullR hZ dX5_endWait_35 ?_
          have g3 := R.copy hi
          refine V_aload hZ dX5_endWait_38 rfl (by first | rfl | exact isR_rf _) ?_
          refine V_aload_n hZ 1 dX5_endWait_40 rfl rfl (by first | rfl | exact isR_rf _) ?_
          refine V_aload_n hZ 2 dX5_endWait_41 rfl rfl (by first | rfl | exact isR_rf _) ?_
          refine V_invVp hZ me_X1_isAsideFor mi_X1_isAsideFor ml_X5_368 (c_isAsideForS Z.1 R W (o := some x) hi hr (fun y hy => by cases hy; exact hx)) dX5_endWait_42 rfl rfl (by assumption) rfl rfl ⟨by decide, by decide⟩ (by first | decide | simp [cat_rf, cat_ref, cat_int, cat_null]) ⟨by decide, by decide⟩ ?_
          refine V_if_eq (tgt := 54) hZ dX5_endWait_45 (by decide) (fun c1 => ?_) (fun c1 => ?_)
          · refine V_iincv hZ dX5_endWait_54 rfl (by decide) (by first | rfl | simp [okp, cat_rf, cat_ref, cat_int, cat_null]) (by first | exact nI_inc _ | rfl) ?_
            refine V.lvc (by simp only [List.set_cons_zero, List.set_cons_succ, Nat.reduceAdd]; rfl) ?_
            refine V_goto (tgt := 20) hZ dX5_endWait_57 (by decide) ?_
            exact ih (c + 1) (by omega) T g R W hx hr (by rw [itN, hT]; simp only [endStep, if_neg (b01_z c1)]) _
          · have c2 := b01_nz c1
            refine V_aload_n hZ 0 dX5_endWait_48 rfl rfl (by first | rfl | exact isR_rf _) ?_
            refine V_aload hZ dX5_endWait_49 rfl (by first | rfl | exact isR_rf _) ?_
            refine V_invV hZ me_X5_free mi_X5_free ml_X5_144 (c_free Z.1 R W hi) dX5_endWait_51 rfl rfl (by assumption) rfl rfl ⟨by decide, by decide⟩ (by first | decide | simp [cat_rf, cat_ref, cat_int, cat_null]) ⟨by decide, by decide⟩ (fun _ _ hq => hq.elim) ?_
            rintro _ g' ⟨rfl, R'⟩
            refine V_iincv hZ dX5_endWait_54 rfl (by decide) (by first | rfl | simp [okp, cat_rf, cat_ref, cat_int, cat_null]) (by first | exact nI_inc _ | rfl) ?_
            refine V.lvc (by simp only [List.set_cons_zero, List.set_cons_succ, Nat.reduceAdd]; rfl) ?_
            refine V_goto (tgt := 20) hZ dX5_endWait_57 (by decide) ?_
            exact ih (c + 1) (by omega) (freeS T c) g' R' (wf_free W hi) hx hr (by rw [itN, hT]; simp only [endStep, if_pos c2]) _
        · refine V_aaldn hZ dX5_endWait_30 (by assumption) hcN (by decide) (v := .null) (rowf_ge hi) ?_
          refine V_astore hZ dX5_endWait_31 (by first | rfl | exact isR_rf _) (by decide) (by first | rfl | simp [okp, cat_rf, cat_ref, cat_int, cat_null]) ?_
          refine V.lvc (by simp only [List.set_cons_zero, List.set_cons_succ, Nat.reduceAdd]; rfl) ?_
          refine V_aload hZ dX5_endWait_33 rfl (by first | rfl | exact isR_rf _) ?_
          refine V_ifnullN (tgt := 54) hZ dX5_endWait_35 (by decide) ?_
          refine V_iincv hZ dX5_endWait_54 rfl (by decide) (by first | rfl | simp [okp, cat_rf, cat_ref, cat_int, cat_null]) (by first | exact nI_inc _ | rfl) ?_
          refine V.lvc (by simp only [List.set_cons_zero, List.set_cons_succ, Nat.reduceAdd]; rfl) ?_
          refine V_goto (tgt := 20) hZ dX5_endWait_57 (by decide) ?_
          exact ih (c + 1) (by omega) T g R W hx hr (by rw [itN, hT]; simp [endStep, asideB, hi]) _
  exact key 30 0 rfl _ _ R0 W0 hx hr rfl none
abbrev lostC (c : Cp) : Cp := (cpPr c, cpRc c, 3, cpRd c, -1, 0, cpTh c)
abbrev feeR (S : St) (x : Nat) (p : Int32) : St := setRd S x (rdKi (rds S x), rdOw (rds S x) + (p + 40))
def loseS (S : St) (i : Nat) : St := match cpRd (cps S i) with
  | none => setCp S i (lostC (cps S i))
  | some x => setCp (feeR S x (cpPr (cps S i))) i (lostC (cps S i))
theorem wf_lose {S : St} (W : Wf S) {i : Nat} (hi : i < nCp S) : Wf (loseS S i) := by
  unfold loseS
  split
  · exact wf_cp W (W_rec W hi) (W_rdr W hi) (fun h => by cases h)
  · exact wf_cp (S := feeR S _ _) W (W_rec W hi) (W_rdr W hi) (fun h => by cases h)
theorem same5_lose {S : St} {i : Nat} : same5 S (loseS S i) := by
  unfold loseS
  split <;> exact ⟨rfl, rfl, rfl⟩
theorem c_lose (G : GC) {h : HP} {S : St} (R : Rep S h) (W : Wf S) {i : Nat} (hi : i < nCp S) : Calls G yX5_lose cX5_lose 3 (.none : Option Jvm.ClassFile.FieldType) 1 23 0 0 [.ref (aH S), .ref (adC S i)] h (fun v h' => v = none ∧ Rep (loseS S i) h') qX := by
  have h3 := R.copy hi
  have e : loseS S i = match cpRd (cps S i) with
    | none => setCp S i (lostC (cps S i))
    | some x => setCp (feeR S x (cpPr (cps S i))) i (lostC (cps S i)) := rfl
  refine Calls_of1 (by decide +kernel) (by simp [cat_rf, cat_ref, cat_int, cat_null]) (by simp) (lv0 := [some (.ref (aH S)), some (.ref (adC S i)), none]) rfl ?_
  intro Z hG hZ hE hN
  subst hG
  refine V_aload_n hZ 1 dX5_lose_0 rfl rfl (by first | rfl | exact isR_rf _) ?_
  refine V_getfield hZ fl_X5_202.r dX5_lose_1 (by assumption) (by rfl) ?_
  refine V_astore_n hZ 2 rfl dX5_lose_4 (by first | rfl | exact isR_rf _) (by decide) (by first | rfl | simp [okp, cat_rf, cat_ref, cat_int, cat_null]) ?_
  refine V.lvc (by simp only [List.set_cons_zero, List.set_cons_succ, Nat.reduceAdd]; rfl) ?_
  refine V_aload_n hZ 2 dX5_lose_5 rfl rfl (by first | rfl | exact isR_rf _) ?_
  cases hz : cpRd (cps S i) with
  | none =>
    rw [hz] at e
    refine V_ifnullN (tgt := 22) hZ dX5_lose_6 (by decide) ?_
    refine V_aload_n hZ 1 dX5_lose_22 rfl rfl (by first | rfl | exact isR_rf _) ?_
    refine V_iconst (v := 3) hZ dX5_lose_23 (by decide) ?_
    refine V_aload_n hZ 2 dX5_lose_24 rfl rfl (by first | rfl | exact isR_rf _) ?_
    refine V_iconst (v := -1) hZ dX5_lose_25 (by decide) ?_
    refine V_invV hZ me_X1_put mi_X1_put ml_X5_188 (c_put Z.1 h h3 3 (-1) (none)) dX5_lose_26 rfl rfl (by assumption) rfl rfl ⟨by decide, by decide⟩ (by first | decide | simp [cat_rf, cat_ref, cat_int, cat_null]) ⟨by decide, by decide⟩ (fun _ _ hq => hq.elim) ?_
    rintro _ _ ⟨rfl, rfl⟩
    refine V_vret hZ hE rfl dX5_lose_29 (by decide) (by decide) ?_
    have R1 := rep_cp R W hi (lostC (cps S i))
    simp only [lostC, hz] at R1 e
    rw [e]
    exact ⟨rfl, R1⟩
  | some x =>
    have hx := W_rdr W hi x hz
    have h4 := R.rdr hx
    rw [hz] at e
    refine V_ifnullR hZ dX5_lose_6 ?_
    refine V_aload_n hZ 2 dX5_lose_9 rfl rfl (by first | rfl | exact isR_rf _) ?_
    refine V_dup hZ dX5_lose_10 (by first | rfl | exact cat_rf _) ?_
    refine V_getfield hZ fl_X5_172.r dX5_lose_11 (by assumption) (by rfl) ?_
    refine V_aload_n hZ 1 dX5_lose_14 rfl rfl (by first | rfl | exact isR_rf _) ?_
    refine V_invVp hZ me_X1_feeWhenLost mi_X1_feeWhenLost ml_X5_283 (c_feeWhenLost Z.1 h h3) dX5_lose_15 rfl rfl (by assumption) rfl rfl ⟨by decide, by decide⟩ (by first | decide | simp [cat_rf, cat_ref, cat_int, cat_null]) ⟨by decide, by decide⟩ ?_
    refine V_iadd hZ dX5_lose_18 ?_
    refine V_putfield hZ fl_X5_172 dX5_lose_19 (by first | assumption | exact hup_self _ _ _) (by first | rfl | exact nar_rf _ _) (by first | rfl | exact fits_rf _ _) (by simp) ?_
    have R1 := rep_rd R W hx (rdKi (rds S x), rdOw (rds S x) + (cpPr (cps S i) + 40))
    have h5 := R1.copy (i := i) hi
    refine V_aload_n hZ 1 dX5_lose_22 rfl rfl (by first | rfl | exact isR_rf _) ?_
    refine V_iconst (v := 3) hZ dX5_lose_23 (by decide) ?_
    refine V_aload_n hZ 2 dX5_lose_24 rfl rfl (by first | rfl | exact isR_rf _) ?_
    refine V_iconst (v := -1) hZ dX5_lose_25 (by decide) ?_
    refine V_invV hZ me_X1_put mi_X1_put ml_X5_188 (c_put Z.1 _ h5 3 (-1) (some (adD S x))) dX5_lose_26 rfl rfl (by assumption) rfl rfl ⟨by decide, by decide⟩ (by first | decide | simp [cat_rf, cat_ref, cat_int, cat_null]) ⟨by decide, by decide⟩ (fun _ _ hq => hq.elim) ?_
    rintro _ _ ⟨rfl, rfl⟩
    refine V_vret hZ hE rfl dX5_lose_29 (by decide) (by decide) ?_
    have R2 := rep_cp R1 (wf_rd W) (i := i) hi (lostC (cps S i))
    rw [e]
    refine ⟨rfl, ?_⟩
    simp only [lostC, hz] at R2 ⊢
    exact R2
/-- one day: the copies one by one; how many were lost -/
def dayStep (p : St × Nat) (c : Nat) : St × Nat :=
  if c < nCp p.1 then
    if cpPl (cps p.1 c) = 2 ∧ cpDy (cps p.1 c) < tdy p.1 then (endS p.1 ((cpRd (cps p.1 c)).getD 0) (cpRc (cps p.1 c)), p.2)
    else if lostP (cpPl (cps p.1 c)) (cpDy (cps p.1 c)) (tdy p.1) then (loseS p.1 c, p.2 + 1) else p
  else p
def dayS (S : St) : St × Nat := itN dayStep 30 (sTdy S (tdy S + 1), 0)
theorem wf_dayStep {p : St × Nat} {c : Nat} (W : Wf p.1) : Wf (dayStep p c).1 := by
  unfold dayStep
  split
  · rename_i hi
    split
    · dsimp only
      exact wf_end W (W_rec W hi)
    · split
      · exact wf_lose W hi
      · exact W
  · exact W
theorem same5_dayStep {p : St × Nat} {c : Nat} : same5 p.1 (dayStep p c).1 := by
  unfold dayStep
  split
  · split
    · dsimp only
      exact same5_end
    · split
      · exact same5_lose
      · exact same5.rf
  · exact same5.rf
theorem wf_day {S : St} (W : Wf S) : Wf (dayS S).1 := by
  have : ∀ k, Wf (itN dayStep k (sTdy S (tdy S + 1), 0)).1 := by
    intro k
    induction k with
    | zero => exact wf_td W
    | succ k ih => exact wf_dayStep ih
  unfold dayS
  exact this 30
theorem dayS_same {S : St} : (dayS S).1.1 = S.1 ∧ (dayS S).1.2.1 = (sTdy S (tdy S + 1)).2.1 ∧ (dayS S).1.2.2.1 = S.2.2.1 := by
  have : ∀ k, same5 (sTdy S (tdy S + 1)) (itN dayStep k (sTdy S (tdy S + 1), 0)).1 := by
    intro k
    induction k with
    | zero => exact same5.rf
    | succ k ih => exact ih.tr same5_dayStep
  unfold dayS
  have h := this 30
  exact ⟨h.1, h.2.1, h.2.2⟩
theorem c_passOneDay (G : GC) {h : HP} {S : St} (R : Rep S h) (W : Wf S) : Calls G yX5_passOneDay cX5_passOneDay 6 (.some .int) 5 121 0 0 [.ref (aH S)] h (fun v h' => v = some (.int (nI (dayS S).2)) ∧ Rep (dayS S).1 h') qX := by
  have h1 := R.hall
  have R0 := rep_td R (tdy S + 1)
  refine Calls_of1 (by decide +kernel) (by simp [cat_rf, cat_ref, cat_int, cat_null]) (by simp) (lv0 := [some (.ref (aH S)), none, none, none, none, none]) rfl ?_
  intro Z hG hZ hE hN
  subst hG
  refine V_aload_n hZ 0 dX5_passOneDay_0 rfl rfl (by first | rfl | exact isR_rf _) ?_
  refine V_dup hZ dX5_passOneDay_1 (by first | rfl | exact cat_rf _) ?_
  refine V_getfield hZ fl_X5_181.r dX5_passOneDay_2 (by assumption) (by rfl) ?_
  refine V_iconst (v := 1) hZ dX5_passOneDay_5 (by decide) ?_
  refine V_iadd hZ dX5_passOneDay_6 ?_
  refine V_putfield hZ fl_X5_181 dX5_passOneDay_7 (by first | assumption | exact hup_self _ _ _) (by first | rfl | exact nar_rf _ _) (by first | rfl | exact fits_rf _ _) (by simp) ?_
  have h1' := R0.hall
  have h2' := R0.copies
  refine V_iconst (v := 0) hZ dX5_passOneDay_10 (by decide) ?_
  refine V_istore_n hZ 1 rfl dX5_passOneDay_11 (by decide) (by first | rfl | simp [okp, cat_rf, cat_ref, cat_int, cat_null]) ?_
  refine V.lvc (by simp only [List.set_cons_zero, List.set_cons_succ, Nat.reduceAdd]; rfl) ?_
  refine V_aload_n hZ 0 dX5_passOneDay_12 rfl rfl (by first | rfl | exact isR_rf _) ?_
  refine V_getfield hZ fl_X5_23.r dX5_passOneDay_13 (by assumption) (by rfl) ?_
  refine V_astore_n hZ 2 rfl dX5_passOneDay_16 (by first | rfl | exact isR_rf _) (by decide) (by first | rfl | simp [okp, cat_rf, cat_ref, cat_int, cat_null]) ?_
  refine V.lvc (by simp only [List.set_cons_zero, List.set_cons_succ, Nat.reduceAdd]; rfl) ?_
  refine V_aload_n hZ 2 dX5_passOneDay_17 rfl rfl (by first | rfl | exact isR_rf _) ?_
  refine V_alenR hZ dX5_passOneDay_18 (by assumption) ?_
  refine V_istore_n hZ 3 rfl dX5_passOneDay_19 (by decide) (by first | rfl | simp [okp, cat_rf, cat_ref, cat_int, cat_null]) ?_
  refine V.lvc (by simp only [List.set_cons_zero, List.set_cons_succ, Nat.reduceAdd]; rfl) ?_
  refine V_iconst (v := 0) hZ dX5_passOneDay_20 (by decide) ?_
  refine V_istore hZ dX5_passOneDay_21 (by decide) (by first | rfl | simp [okp, cat_rf, cat_ref, cat_int, cat_null]) ?_
  refine V.lvc (by simp only [List.set_cons_zero, List.set_cons_succ, Nat.reduceAdd]; rfl) ?_
  have key : ∀ m c, c + m = 30 → ∀ (T : St) (g : HP) (a : Nat), Rep T g → Wf T → itN dayStep c (sTdy S (tdy S + 1), 0) = (T, a) → ∀ w, V Z 23 [some (.ref (aH T)), some (.int (nI a)), some (.ref (aCs T)), some (.int (nI 30)), some (.int (nI c)), w] [] g 0 0 := by
    intro m
    induction m with
    | zero =>
      intro c hcm T g a R W hT w
      have hc : c = 30 := by omega
      subst hc
      have g1 := R.hall
      have g2 := R.copies
      refine V_iload hZ dX5_passOneDay_23 rfl ?_
      refine V_iload_n hZ 3 dX5_passOneDay_25 rfl rfl ?_
      refine V_icmp_ge (tgt := 110) hZ dX5_passOneDay_26 (by decide) (fun cE => ?_) (fun cE => ?_)
      · refine V_iload_n hZ 1 dX5_passOneDay_110 rfl rfl ?_
        refine V_iret hZ hE rfl (by rfl) dX5_passOneDay_111 (by decide) (by decide) ?_
        exact ⟨by rw [show dayS S = (T, a) from hT], by rw [show dayS S = (T, a) from hT]; exact R⟩
      · exact absurd (by decide) cE
    | succ m ih =>
      intro c hcm T g a R W hT w
      have hcN : c < 30 := by omega
      have g1 := R.hall
      have g2 := R.copies
      refine V_iload hZ dX5_passOneDay_23 rfl ?_
      refine V_iload_n hZ 3 dX5_passOneDay_25 rfl rfl ?_
      refine V_icmp_ge (tgt := 110) hZ dX5_passOneDay_26 (by decide) (fun cE => ?_) (fun cE => ?_)
      · have cE2 : 30 ≤ c := (nI_leI (a := 30) (by decide) (by omega)).mp cE
        omega
      · refine V_aload_n hZ 2 dX5_passOneDay_29 rfl rfl (by first | rfl | exact isR_rf _) ?_
        refine V_iload hZ dX5_passOneDay_30 rfl ?_
        by_cases hi : c < nCp T
        · refine V_aaldn hZ dX5_passOneDay_32 (by assumption) hcN (by decide) (v := .ref (adC T c)) (rowf_lt hi) ?_
          refine V_astore hZ dX5_passOneDay_33 (by first | rfl | exact isR_rf _) (by decide) (by first | rfl | simp [okp, cat_rf, cat_ref, cat_int, cat_null]) ?_
          refine V.lvc (by simp only [List.set_cons_zero, List.set_cons_succ, Nat.reduceAdd]; rfl) ?_
          refine V_aload hZ dX5_passOneDay_35 rfl (by first | rfl | exact isR_rf _) ?_
          refine V_ifnullR hZ dX5_passOneDay_37 ?_
          have g3 := R.copy hi
          refine V_aload hZ dX5_passOneDay_40 rfl (by first | rfl | exact isR_rf _) ?_
          refine V_getfield hZ fl_X5_215.r dX5_passOneDay_42 (by assumption) (by rfl) ?_
          refine V_iconst (v := 2) hZ dX5_passOneDay_45 (by decide) ?_
          refine V_icmp_ne (tgt := 78) hZ dX5_passOneDay_46 (by decide) (fun c1 => ?_) (fun c1 => ?_)
          · refine V_aload hZ dX5_passOneDay_78 rfl (by first | rfl | exact isR_rf _) ?_
            refine V_ifnullR hZ dX5_passOneDay_80 ?_
            refine V_aload hZ dX5_passOneDay_83 rfl (by first | rfl | exact isR_rf _) ?_
            refine V_aload_n hZ 0 dX5_passOneDay_85 rfl rfl (by first | rfl | exact isR_rf _) ?_
            refine V_getfield hZ fl_X5_181.r dX5_passOneDay_86 (by assumption) (by rfl) ?_
            refine V_invVp hZ me_X1_isLostOn mi_X1_isLostOn ml_X5_280 (c_isLostOn Z.1 g g3 (tdy T)) dX5_passOneDay_89 rfl rfl (by assumption) rfl rfl ⟨by decide, by decide⟩ (by first | decide | simp [cat_rf, cat_ref, cat_int, cat_null]) ⟨by decide, by decide⟩ ?_
            refine V_if_eq (tgt := 104) hZ dX5_passOneDay_92 (by decide) (fun c2 => ?_) (fun c2 => ?_)
            · refine V_iincv hZ dX5_passOneDay_104 rfl (by decide) (by first | rfl | simp [okp, cat_rf, cat_ref, cat_int, cat_null]) (by first | exact nI_inc _ | rfl) ?_
              refine V.lvc (by simp only [List.set_cons_zero, List.set_cons_succ, Nat.reduceAdd]; rfl) ?_
              refine V_goto (tgt := 23) hZ dX5_passOneDay_107 (by decide) ?_
              exact ih (c + 1) (by omega) T g a R W (by rw [itN, hT]; simp only [dayStep, if_pos hi, if_neg (show ¬ (cpPl (cps T c) = 2 ∧ cpDy (cps T c) < tdy T) from fun z => c1 z.1), if_neg (b01_z c2)]) _
            · refine V_aload_n hZ 0 dX5_passOneDay_95 rfl rfl (by first | rfl | exact isR_rf _) ?_
              refine V_aload hZ dX5_passOneDay_96 rfl (by first | rfl | exact isR_rf _) ?_
              refine V_invV hZ me_X5_lose mi_X5_lose ml_X5_388 (c_lose Z.1 R W hi) dX5_passOneDay_98 rfl rfl (by assumption) rfl rfl ⟨by decide, by decide⟩ (by first | decide | simp [cat_rf, cat_ref, cat_int, cat_null]) ⟨by decide, by decide⟩ (fun _ _ hq => hq.elim) ?_
              rintro _ g' ⟨rfl, R'⟩
              refine V_iincv hZ dX5_passOneDay_101 rfl (by decide) (by first | rfl | simp [okp, cat_rf, cat_ref, cat_int, cat_null]) (by first | exact nI_inc _ | rfl) ?_
              refine V.lvc (by simp only [List.set_cons_zero, List.set_cons_succ, Nat.reduceAdd]; rfl) ?_
              have hs := same5_lose (S := T) (i := c)
              have e1 : aH (loseS T c) = aH T := congrArg (fun z => z.1.1) hs.1
              have e2 : aCs (loseS T c) = aCs T := congrArg (fun z => z.1.2.2.2.1) hs.1
              have e3 : adC (loseS T c) = adC T := congrArg (fun z => z.2.2.2.2.2.1) hs.1
              refine V_iincv hZ dX5_passOneDay_104 rfl (by decide) (by first | rfl | simp [okp, cat_rf, cat_ref, cat_int, cat_null]) (by first | exact nI_inc _ | rfl) ?_
              refine V.lvc (by simp only [List.set_cons_zero, List.set_cons_succ, Nat.reduceAdd]; rfl) ?_
              refine V_goto (tgt := 23) hZ dX5_passOneDay_107 (by decide) ?_
              have k := ih (c + 1) (by omega) (loseS T c) g' (a + 1) R' (wf_lose W hi) (by rw [itN, hT]; simp only [dayStep, if_pos hi, if_neg (show ¬ (cpPl (cps T c) = 2 ∧ cpDy (cps T c) < tdy T) from fun z => c1 z.1), if_pos (b01_nz c2)]) (some (.ref (adC T c)))
              rw [e1, e2] at k
              exact k
          · refine V_aload hZ dX5_passOneDay_49 rfl (by first | rfl | exact isR_rf _) ?_
            refine V_getfield hZ fl_X5_199.r dX5_passOneDay_51 (by assumption) (by rfl) ?_
            refine V_aload_n hZ 0 dX5_passOneDay_54 rfl rfl (by first | rfl | exact isR_rf _) ?_
            refine V_getfield hZ fl_X5_181.r dX5_passOneDay_55 (by assumption) (by rfl) ?_
            refine V_icmp_ge (tgt := 78) hZ dX5_passOneDay_58 (by decide) (fun c3 => ?_) (fun c3 => ?_)
            · refine V_aload hZ dX5_passOneDay_78 rfl (by first | rfl | exact isR_rf _) ?_
              refine V_ifnullR hZ dX5_passOneDay_80 ?_
              refine V_aload hZ dX5_passOneDay_83 rfl (by first | rfl | exact isR_rf _) ?_
              refine V_aload_n hZ 0 dX5_passOneDay_85 rfl rfl (by first | rfl | exact isR_rf _) ?_
              refine V_getfield hZ fl_X5_181.r dX5_passOneDay_86 (by assumption) (by rfl) ?_
              refine V_invVp hZ me_X1_isLostOn mi_X1_isLostOn ml_X5_280 (c_isLostOn Z.1 g g3 (tdy T)) dX5_passOneDay_89 rfl rfl (by assumption) rfl rfl ⟨by decide, by decide⟩ (by first | decide | simp [cat_rf, cat_ref, cat_int, cat_null]) ⟨by decide, by decide⟩ ?_
              refine V_if_eq (tgt := 104) hZ dX5_passOneDay_92 (by decide) (fun c2 => ?_) (fun c2 => ?_)
              · refine V_iincv hZ dX5_passOneDay_104 rfl (by decide) (by first | rfl | simp [okp, cat_rf, cat_ref, cat_int, cat_null]) (by first | exact nI_inc _ | rfl) ?_
                refine V.lvc (by simp only [List.set_cons_zero, List.set_cons_succ, Nat.reduceAdd]; rfl) ?_
                refine V_goto (tgt := 23) hZ dX5_passOneDay_107 (by decide) ?_
                exact ih (c + 1) (by omega) T g a R W (by rw [itN, hT]; simp only [dayStep, if_pos hi, if_neg (show ¬ (cpPl (cps T c) = 2 ∧ cpDy (cps T c) < tdy T) from fun z => Int32.not_lt.mpr c3 z.2), if_neg (b01_z c2)]) _
              · exact absurd (b01_nz c2) (by have hp : ¬ cpPl (cps T c) = 1 := by rw [c1]; decide
                                             simp [lostP, lateN, hp])
            · have c4 : cpPl (cps T c) = 2 ∧ cpDy (cps T c) < tdy T := ⟨c1, Int32.not_le.mp c3⟩
              have hsome := W_asd W hi c1
              cases hz : cpRd (cps T c) with
              | none => exact absurd hz hsome
              | some x =>
                have hx := W_rdr W hi x hz
                have hgd : (cpRd (cps T c)).getD 0 = x := by rw [hz]; rfl
                simp only [oCopy, hz] at g3
                refine V_aload_n hZ 0 dX5_passOneDay_61 rfl rfl (by first | rfl | exact isR_rf _) ?_
                refine V_aload hZ dX5_passOneDay_62 rfl (by first | rfl | exact isR_rf _) ?_
                refine V_getfield hZ fl_X5_202.r dX5_passOneDay_64 (by assumption) (by rfl) ?_
                refine V_aload hZ dX5_passOneDay_67 rfl (by first | rfl | exact isR_rf _) ?_
                refine V_getfield hZ fl_X5_192.r dX5_passOneDay_69 (by assumption) (by rfl) ?_
                refine V_invV hZ me_X5_endWait mi_X5_endWait ml_X5_195 (c_endWait Z.1 R W hx (W_rec W hi)) dX5_passOneDay_72 rfl rfl (by assumption) rfl rfl ⟨by decide, by decide⟩ (by first | decide | simp [cat_rf, cat_ref, cat_int, cat_null]) ⟨by decide, by decide⟩ (fun _ _ hq => hq.elim) ?_
                rintro _ g' ⟨rfl, R'⟩
                have hs := same5_end (S := T) (x := x) (r := cpRc (cps T c))
                have e1 : aH (endS T x (cpRc (cps T c))) = aH T := congrArg (fun z => z.1.1) hs.1
                have e2 : aCs (endS T x (cpRc (cps T c))) = aCs T := congrArg (fun z => z.1.2.2.2.1) hs.1
                refine V_goto (tgt := 104) hZ dX5_passOneDay_75 (by decide) ?_
                refine V_iincv hZ dX5_passOneDay_104 rfl (by decide) (by first | rfl | simp [okp, cat_rf, cat_ref, cat_int, cat_null]) (by first | exact nI_inc _ | rfl) ?_
                refine V.lvc (by simp only [List.set_cons_zero, List.set_cons_succ, Nat.reduceAdd]; rfl) ?_
                refine V_goto (tgt := 23) hZ dX5_passOneDay_107 (by decide) ?_
                have k := ih (c + 1) (by omega) (endS T x (cpRc (cps T c))) g' a R' (wf_end W (W_rec W hi)) (by rw [itN, hT]; simp only [dayStep, if_pos hi, if_pos c4, hgd]) (some (.ref (adC T c)))
                rw [e1, e2] at k
                exact k
        · refine V_aaldn hZ dX5_passOneDay_32 (by assumption) hcN (by decide) (v := .null) (rowf_ge hi) ?_
          refine V_astore hZ dX5_passOneDay_33 (by first | rfl | exact isR_rf _) (by decide) (by first | rfl | simp [okp, cat_rf, cat_ref, cat_int, cat_null]) ?_
          refine V.lvc (by simp only [List.set_cons_zero, List.set_cons_succ, Nat.reduceAdd]; rfl) ?_
          refine V_aload hZ dX5_passOneDay_35 rfl (by first | rfl | exact isR_rf _) ?_
          refine V_ifnullN (tgt := 78) hZ dX5_passOneDay_37 (by decide) ?_
          refine V_aload hZ dX5_passOneDay_78 rfl (by first | rfl | exact isR_rf _) ?_
          refine V_ifnullN (tgt := 104) hZ dX5_passOneDay_80 (by decide) ?_
          refine V_iincv hZ dX5_passOneDay_104 rfl (by decide) (by first | rfl | simp [okp, cat_rf, cat_ref, cat_int, cat_null]) (by first | exact nI_inc _ | rfl) ?_
          refine V.lvc (by simp only [List.set_cons_zero, List.set_cons_succ, Nat.reduceAdd]; rfl) ?_
          refine V_goto (tgt := 23) hZ dX5_passOneDay_107 (by decide) ?_
          exact ih (c + 1) (by omega) T g a R W (by rw [itN, hT]; simp only [dayStep, if_neg hi]) _
  exact key 30 0 rfl _ _ 0 R0 (wf_td W) rfl none

