/-! the public methods that change something -/
section
variable (G : GC) {h : HP} {S : St}
def passS : Nat → St → St × Nat
  | 0, S => (S, 0)
  | d + 1, S => ((dayS (passS d S).1).1, (passS d S).2 + (dayS (passS d S).1).2)
theorem wf_pass {S : St} (W : Wf S) : ∀ d, Wf (passS d S).1 := by
  intro d
  induction d with
  | zero => simp only [passS]; exact W
  | succ d ih => simp only [passS]; exact wf_day ih
theorem aH_day {S : St} : aH (dayS S).1 = aH S := congrArg (fun z => z.1.1) dayS_same.1
theorem c_pass (R : Rep S h) (W : Wf S) {d : Nat} (h1 : 1 ≤ d) (h2 : d ≤ 40) : Calls G yX5_pass cX5_pass 4 (.some .int) 7 146 0 0 [.ref (aH S), .int (nI d)] h (fun v h' => v = some (.int (nI (passS d S).2)) ∧ Rep (passS d S).1 h') qX := by
  have h4 := R.hall
  refine Calls_of1 (by decide +kernel) (by simp [cat_rf, cat_ref, cat_int, cat_null]) (by simp) (lv0 := [some (.ref (aH S)), some (.int (nI d)), none, none]) rfl ?_
  intro Z hG hZ hE hN
  subst hG
  refine V_iload_n hZ 1 dX5_pass_0 rfl rfl ?_
  refine V_iconst (v := 1) hZ dX5_pass_1 (by decide) ?_
  refine V_bipush (v := 40) hZ dX5_pass_2 (by decide) ?_
  refine V_invS hZ me_X5_requireBetween ms_X5_requireBetween ml_X5_71 (c_requireBetween Z.1 h (no_gt (m := d) (k := 1) (by omega) (by omega)) (no_gt (m := 40) (by omega) (by decide))) dX5_pass_4 rfl rfl ⟨by decide, by decide⟩ (by first | decide | (simp [cat_rf, cat_ref, cat_int, cat_null]; done) | (simp [cat_rf, cat_ref, cat_int, cat_null, Value.category]; done)) ⟨by decide, by decide⟩ (fun _ _ hq => hq.elim) ?_
  rintro _ _ ⟨rfl, rfl⟩
  refine V_iconst (v := 0) hZ dX5_pass_7 (by decide) ?_
  refine V_istore_n hZ 2 rfl dX5_pass_8 (by decide) (by first | rfl | simp [okp, cat_rf, cat_ref, cat_int, cat_null]) ?_
  refine V.lvc (by simp only [List.set_cons_zero, List.set_cons_succ, Nat.reduceAdd]; rfl) ?_
  refine V_iconst (v := 0) hZ dX5_pass_9 (by decide) ?_
  refine V_istore_n hZ 3 rfl dX5_pass_10 (by decide) (by first | rfl | simp [okp, cat_rf, cat_ref, cat_int, cat_null]) ?_
  refine V.lvc (by simp only [List.set_cons_zero, List.set_cons_succ, Nat.reduceAdd]; rfl) ?_
  have key : ∀ m c, c + m = d → ∀ (T : St) (g : HP) (a : Nat), Rep T g → Wf T → passS c S = (T, a) → V Z 11 [some (.ref (aH T)), some (.int (nI d)), some (.int (nI a)), some (.int (nI c))] [] g 0 0 := by
    intro m
    induction m with
    | zero =>
      intro c hcm T g a R W hT
      have hc : c = d := by omega
      subst hc
      refine V_iload_n hZ 3 dX5_pass_11 rfl rfl ?_
      refine V_iload_n hZ 1 dX5_pass_12 rfl rfl ?_
      refine V_icmp_ge (tgt := 29) hZ dX5_pass_13 (by decide) (fun cE => ?_) (fun cE => ?_)
      · refine V_iload_n hZ 2 dX5_pass_29 rfl rfl ?_
        refine V_iret hZ hE rfl (by rfl) dX5_pass_30 (by decide) (by decide) ?_
        rw [hT]
        exact ⟨rfl, R⟩
      · exact absurd (nI_le (Nat.le_refl _) (by omega)) cE
    | succ m ih =>
      intro c hcm T g a R W hT
      have g1 := R.hall
      refine V_iload_n hZ 3 dX5_pass_11 rfl rfl ?_
      refine V_iload_n hZ 1 dX5_pass_12 rfl rfl ?_
      refine V_icmp_ge (tgt := 29) hZ dX5_pass_13 (by decide) (fun cE => ?_) (fun cE => ?_)
      · have := (nI_leI (by omega) (by omega)).mp cE
        omega
      · refine V_iload_n hZ 2 dX5_pass_16 rfl rfl ?_
        refine V_aload_n hZ 0 dX5_pass_17 rfl rfl (by first | rfl | exact isR_rf _) ?_
        refine V_invV hZ me_X5_passOneDay mi_X5_passOneDay ml_X5_274 (c_passOneDay Z.1 R W) dX5_pass_18 rfl rfl (by assumption) rfl rfl ⟨by decide, by decide⟩ (by first | decide | (simp [cat_rf, cat_ref, cat_int, cat_null]; done) | (simp [cat_rf, cat_ref, cat_int, cat_null, Value.category]; done)) ⟨by decide, by decide⟩ (fun _ _ hq => hq.elim) ?_
        rintro _ g' ⟨rfl, R'⟩
        refine V.stc (show _ = [.int (nI (dayS T).2), .int (nI a)] from rfl) ?_
        refine V_iadd hZ dX5_pass_21 ?_
        rw [nI_add]
        refine V_istore_n hZ 2 rfl dX5_pass_22 (by decide) (by first | rfl | simp [okp, cat_rf, cat_ref, cat_int, cat_null]) ?_
        refine V.lvc (by simp only [List.set_cons_zero, List.set_cons_succ, Nat.reduceAdd]; rfl) ?_
        refine V_iincv hZ dX5_pass_23 rfl (by decide) (by first | rfl | simp [okp, cat_rf, cat_ref, cat_int, cat_null]) (by first | exact nI_inc _ | rfl) ?_
        refine V.lvc (by simp only [List.set_cons_zero, List.set_cons_succ, Nat.reduceAdd]; rfl) ?_
        refine V_goto (tgt := 11) hZ dX5_pass_26 (by decide) ?_
        have k := ih (c + 1) (by omega) (dayS T).1 g' (a + (dayS T).2) R' (wf_day W) (by rw [passS, hT])
        rw [aH_day] at k
        exact k
  exact key d 0 (by omega) S _ 0 R W rfl
abbrev payS (S : St) (x : Nat) (a : Int32) : St := setRd S x (rdKi (rds S x), rdOw (rds S x) - a)
theorem c_pay (R : Rep S h) (W : Wf S) {x : Nat} (hx : x < nRd S) {a : Int32} (h1 : ¬ a < 1) (h2 : ¬ rdOw (rds S x) < a) : Calls G yX5_pay cX5_pay 4 (.some .int) 7 112 0 0 [.ref (aH S), .int (nI x), .int a] h (fun v h' => v = some (.int (rdOw (rds S x) - a)) ∧ Rep (payS S x a) h') qX := by
  have h4 := R.hall
  have h5 := R.rdr hx
  refine Calls_of1 (by decide +kernel) (by simp [cat_rf, cat_ref, cat_int, cat_null]) (by simp) (lv0 := [some (.ref (aH S)), some (.int (nI x)), some (.int a), none]) rfl ?_
  intro Z hG hZ hE hN
  subst hG
  refine V_aload_n hZ 0 dX5_pay_0 rfl rfl (by first | rfl | exact isR_rf _) ?_
  refine V_iload_n hZ 1 dX5_pay_1 rfl rfl ?_
  refine V_invVp hZ me_X5_knownReader mi_X5_knownReader ml_X5_164 (c_knownReader Z.1 R W hx) dX5_pay_2 rfl rfl (by assumption) rfl rfl ⟨by decide, by decide⟩ (by first | decide | (simp [cat_rf, cat_ref, cat_int, cat_null]; done) | (simp [cat_rf, cat_ref, cat_int, cat_null, Value.category]; done)) ⟨by decide, by decide⟩ ?_
  refine V_astore_n hZ 3 rfl dX5_pay_5 (by first | rfl | exact isR_rf _) (by decide) (by first | rfl | simp [okp, cat_rf, cat_ref, cat_int, cat_null]) ?_
  refine V.lvc (by simp only [List.set_cons_zero, List.set_cons_succ, Nat.reduceAdd]; rfl) ?_
  refine V_iload_n hZ 2 dX5_pay_6 rfl rfl ?_
  refine V_iconst (v := 1) hZ dX5_pay_7 (by decide) ?_
  refine V_aload_n hZ 3 dX5_pay_8 rfl rfl (by first | rfl | exact isR_rf _) ?_
  refine V_getfield hZ fl_X5_172.r dX5_pay_9 (by assumption) (by rfl) ?_
  refine V_invS hZ me_X5_requireBetween ms_X5_requireBetween ml_X5_71 (c_requireBetween Z.1 h h1 h2) dX5_pay_12 rfl rfl ⟨by decide, by decide⟩ (by first | decide | (simp [cat_rf, cat_ref, cat_int, cat_null]; done) | (simp [cat_rf, cat_ref, cat_int, cat_null, Value.category]; done)) ⟨by decide, by decide⟩ (fun _ _ hq => hq.elim) ?_
  rintro _ h ⟨rfl, rfl⟩
  refine V_aload_n hZ 3 dX5_pay_15 rfl rfl (by first | rfl | exact isR_rf _) ?_
  refine V_dup hZ dX5_pay_16 (by first | rfl | exact cat_rf _) ?_
  refine V_getfield hZ fl_X5_172.r dX5_pay_17 (by assumption) (by rfl) ?_
  refine V_iload_n hZ 2 dX5_pay_20 rfl rfl ?_
  refine V_isub hZ dX5_pay_21 ?_
  refine V_putfield hZ fl_X5_172 dX5_pay_22 (by first | assumption | exact hup_self _ _ _) (by first | rfl | exact nar_rf _ _) (by first | rfl | exact fits_rf _ _) (by simp) ?_
  have R2 := rep_rd R W hx (rdKi (rds S x), rdOw (rds S x) - a)
  have h6' : hup _ (adD S x) _ (adD S x) = some (mRdr x (rdKi (rds S x)) (rdOw (rds S x) - a)) := hup_self h (adD S x) (mRdr x (rdKi (rds S x)) (rdOw (rds S x) - a))
  refine V_aload_n hZ 3 dX5_pay_25 rfl rfl (by first | rfl | exact isR_rf _) ?_
  refine V_getfield hZ fl_X5_172.r dX5_pay_26 (by assumption) (by rfl) ?_
  refine V_iret hZ hE rfl (by rfl) dX5_pay_29 (by decide) (by decide) ?_
  exact ⟨rfl, R2⟩
theorem t_pay (R : Rep S h) (W : Wf S) {x : Nat} (hx : x < nRd S) {a : Int32} (h1 : a < 1 ∨ rdOw (rds S x) < a) : Calls G yX5_pay cX5_pay 4 (.some .int) 7 112 1 6 [.ref (aH S), .int (nI x), .int a] h qF (qT eIA h) := by
  have h4 := R.hall
  have h5 := R.rdr hx
  refine Calls_of1 (by decide +kernel) (by simp [cat_rf, cat_ref, cat_int, cat_null]) (by simp) (lv0 := [some (.ref (aH S)), some (.int (nI x)), some (.int a), none]) rfl ?_
  intro Z hG hZ hE hN
  subst hG
  refine V_aload_n hZ 0 dX5_pay_0 rfl rfl (by first | rfl | exact isR_rf _) ?_
  refine V_iload_n hZ 1 dX5_pay_1 rfl rfl ?_
  refine V_invVp hZ me_X5_knownReader mi_X5_knownReader ml_X5_164 (c_knownReader Z.1 R W hx) dX5_pay_2 rfl rfl (by assumption) rfl rfl ⟨by decide, by decide⟩ (by first | decide | (simp [cat_rf, cat_ref, cat_int, cat_null]; done) | (simp [cat_rf, cat_ref, cat_int, cat_null, Value.category]; done)) ⟨by decide, by decide⟩ ?_
  refine V_astore_n hZ 3 rfl dX5_pay_5 (by first | rfl | exact isR_rf _) (by decide) (by first | rfl | simp [okp, cat_rf, cat_ref, cat_int, cat_null]) ?_
  refine V.lvc (by simp only [List.set_cons_zero, List.set_cons_succ, Nat.reduceAdd]; rfl) ?_
  refine V_iload_n hZ 2 dX5_pay_6 rfl rfl ?_
  refine V_iconst (v := 1) hZ dX5_pay_7 (by decide) ?_
  refine V_aload_n hZ 3 dX5_pay_8 rfl rfl (by first | rfl | exact isR_rf _) ?_
  refine V_getfield hZ fl_X5_172.r dX5_pay_9 (by assumption) (by rfl) ?_
  refine V_invS hZ me_X5_requireBetween ms_X5_requireBetween ml_X5_71 (t_requireBetween Z.1 h h1) dX5_pay_12 rfl rfl ⟨by decide, by decide⟩ (by first | decide | (simp [cat_rf, cat_ref, cat_int, cat_null]; done) | (simp [cat_rf, cat_ref, cat_int, cat_null, Value.category]; done)) ⟨by decide, by decide⟩ (fun _ _ hq => ?_) (fun _ _ hq => hq.elim)
  obtain ⟨rfl, rfl⟩ := hq
  exact VX_out hZ hE hN (by decide) (by decide) ⟨rfl, rfl⟩
abbrev lentC (c : Cp) (x : Nat) (t : Int32) : Cp := (cpPr c, cpRc c, 1, some x, t, 0, cpTh c)
abbrev lent1 (r : Rc) : Rc := (rcAu r, rcTi r, rcYe r, rcWe r, rcLe r + 1)
abbrev lendA (S : St) (x c : Nat) : St := setCp S c (lentC (cps S c) x (tdy S + daysN (rdKi (rds S x))))
abbrev lendB (S : St) (x c : Nat) : St := setRc (lendA S x c) (cpRc (cps S c)) (lent1 (rcs S (cpRc (cps S c))))
def lendS (S : St) (x c : Nat) : St := endS (lendB S x c) x (cpRc (cps S c))
theorem wf_lendA (W : Wf S) {x c : Nat} (hx : x < nRd S) (hi : c < nCp S) : Wf (lendA S x c) := wf_cp W (W_rec W hi) (fun r hr => by cases hr; exact hx) (fun h => by cases h)
theorem wf_lendB (W : Wf S) {x c : Nat} (hx : x < nRd S) (hi : c < nCp S) : Wf (lendB S x c) := wf_rc (wf_lendA W hx hi) (W.2.2.2.2.1 _ (W_rec W hi)).1 (W.2.2.2.2.1 _ (W_rec W hi)).2
theorem wf_lend (W : Wf S) {x c : Nat} (hx : x < nRd S) (hi : c < nCp S) : Wf (lendS S x c) := wf_end (wf_lendB W hx hi) (W_rec W hi)
theorem c_lend (R : Rep S h) (W : Wf S) {x c : Nat} (hx : x < nRd S) (hi : c < nCp S) (hz : reasonN S x c = 0) : Calls G yX5_lend cX5_lend 5 (.some .int) 7 121 0 0 [.ref (aH S), .int (nI x), .int (nI c)] h (fun v h' => v = some (.int (cpDy (cps (lendS S x c) c))) ∧ Rep (lendS S x c) h') qX := by
  have h4 := R.hall
  have h5 := R.rdr hx
  have h6 := R.copy hi
  have hr := W_rec W hi
  refine Calls_of1 (by decide +kernel) (by simp [cat_rf, cat_ref, cat_int, cat_null]) (by simp) (lv0 := [some (.ref (aH S)), some (.int (nI x)), some (.int (nI c)), none, none]) rfl ?_
  intro Z hG hZ hE hN
  subst hG
  refine V_aload_n hZ 0 dX5_lend_0 rfl rfl (by first | rfl | exact isR_rf _) ?_
  refine V_iload_n hZ 1 dX5_lend_1 rfl rfl ?_
  refine V_invVp hZ me_X5_knownReader mi_X5_knownReader ml_X5_164 (c_knownReader Z.1 R W hx) dX5_lend_2 rfl rfl (by assumption) rfl rfl ⟨by decide, by decide⟩ (by first | decide | (simp [cat_rf, cat_ref, cat_int, cat_null]; done) | (simp [cat_rf, cat_ref, cat_int, cat_null, Value.category]; done)) ⟨by decide, by decide⟩ ?_
  refine V_astore_n hZ 3 rfl dX5_lend_5 (by first | rfl | exact isR_rf _) (by decide) (by first | rfl | simp [okp, cat_rf, cat_ref, cat_int, cat_null]) ?_
  refine V.lvc (by simp only [List.set_cons_zero, List.set_cons_succ, Nat.reduceAdd]; rfl) ?_
  refine V_aload_n hZ 0 dX5_lend_6 rfl rfl (by first | rfl | exact isR_rf _) ?_
  refine V_iload_n hZ 2 dX5_lend_7 rfl rfl ?_
  refine V_invVp hZ me_X5_knownCopy mi_X5_knownCopy ml_X5_148 (c_knownCopy Z.1 R W hi) dX5_lend_8 rfl rfl (by assumption) rfl rfl ⟨by decide, by decide⟩ (by first | decide | (simp [cat_rf, cat_ref, cat_int, cat_null]; done) | (simp [cat_rf, cat_ref, cat_int, cat_null, Value.category]; done)) ⟨by decide, by decide⟩ ?_
  refine V_astore hZ dX5_lend_11 (by first | rfl | exact isR_rf _) (by decide) (by first | rfl | simp [okp, cat_rf, cat_ref, cat_int, cat_null]) ?_
  refine V.lvc (by simp only [List.set_cons_zero, List.set_cons_succ, Nat.reduceAdd]; rfl) ?_
  refine V_aload_n hZ 0 dX5_lend_13 rfl rfl (by first | rfl | exact isR_rf _) ?_
  refine V_aload_n hZ 3 dX5_lend_14 rfl rfl (by first | rfl | exact isR_rf _) ?_
  refine V_aload hZ dX5_lend_15 rfl (by first | rfl | exact isR_rf _) ?_
  refine V_invVp hZ me_X5_reasonAgainst mi_X5_reasonAgainst ml_X5_175 (c_reasonAgainst Z.1 R W hx hi) dX5_lend_17 rfl rfl (by assumption) rfl rfl ⟨by decide, by decide⟩ (by first | decide | (simp [cat_rf, cat_ref, cat_int, cat_null]; done) | (simp [cat_rf, cat_ref, cat_int, cat_null, Value.category]; done)) ⟨by decide, by decide⟩ ?_
  rw [hz]
  refine V_if_eq (tgt := 33) hZ dX5_lend_20 (by decide) (fun c1 => ?_) (fun c1 => ?_)
  · refine V_aload hZ dX5_lend_33 rfl (by first | rfl | exact isR_rf _) ?_
    refine V_iconst (v := 1) hZ dX5_lend_35 (by decide) ?_
    refine V_aload_n hZ 3 dX5_lend_36 rfl rfl (by first | rfl | exact isR_rf _) ?_
    refine V_aload_n hZ 0 dX5_lend_37 rfl rfl (by first | rfl | exact isR_rf _) ?_
    refine V_getfield hZ fl_X5_181.r dX5_lend_38 (by assumption) (by rfl) ?_
    refine V_aload_n hZ 3 dX5_lend_41 rfl rfl (by first | rfl | exact isR_rf _) ?_
    refine V_invVp hZ me_X3_daysOfALoan mi_X3_daysOfALoan ml_X5_184 (c_daysOfALoan Z.1 h h5) dX5_lend_42 rfl rfl (by assumption) rfl rfl ⟨by decide, by decide⟩ (by first | decide | (simp [cat_rf, cat_ref, cat_int, cat_null]; done) | (simp [cat_rf, cat_ref, cat_int, cat_null, Value.category]; done)) ⟨by decide, by decide⟩ ?_
    refine V_iadd hZ dX5_lend_45 ?_
    refine V_invV hZ me_X1_put mi_X1_put ml_X5_188 (c_put Z.1 h h6 1 (tdy S + daysN (rdKi (rds S x))) (some (adD S x))) dX5_lend_46 rfl rfl (by assumption) rfl rfl ⟨by decide, by decide⟩ (by first | decide | (simp [cat_rf, cat_ref, cat_int, cat_null]; done) | (simp [cat_rf, cat_ref, cat_int, cat_null, Value.category]; done)) ⟨by decide, by decide⟩ (fun _ _ hq => hq.elim) ?_
    rintro _ _ ⟨rfl, rfl⟩
    have R1 : Rep (lendA S x c) _ := rep_cp R W hi (lentC (cps S c) x (tdy S + daysN (rdKi (rds S x))))
    have W1 := wf_lendA W hx hi
    have f1 : _ = some (mCopy c (cpPr (cps S c)) (adR S (cpRc (cps S c))) 1 (some (adD S x)) (tdy S + daysN (rdKi (rds S x))) 0 (cpTh (cps S c))) := hup_self h (adC S c) _
    have f2 := R1.rec hr
    refine V_aload hZ dX5_lend_49 rfl (by first | rfl | exact isR_rf _) ?_
    refine V_getfield hZ fl_X5_192.r dX5_lend_51 (by assumption) (by rfl) ?_
    refine V_dup hZ dX5_lend_54 (by first | rfl | exact cat_rf _) ?_
    refine V_getfield hZ fl_X5_113.r dX5_lend_55 (by assumption) (by rfl) ?_
    refine V_iconst (v := 1) hZ dX5_lend_58 (by decide) ?_
    refine V_iadd hZ dX5_lend_59 ?_
    refine V_putfield hZ fl_X5_113 dX5_lend_60 (by first | assumption | exact hup_self _ _ _) (by first | rfl | exact nar_rf _ _) (by first | rfl | exact fits_rf _ _) (by simp) ?_
    have R2 := rep_rc R1 W1 (i := cpRc (cps S c)) hr (lent1 (rcs S (cpRc (cps S c))))
    have W2 := wf_lendB W hx hi
    have f3 := R2.hall
    have f4 : hup _ _ _ (adC S c) = some (mCopy c (cpPr (cps S c)) (adR S (cpRc (cps S c))) 1 (some (adD S x)) (tdy S + daysN (rdKi (rds S x))) 0 (cpTh (cps S c))) := (hup_ne _ (mRec (cpRc (cps S c)) ((rcAu (rcs S (cpRc (cps S c)))).map (adN S)) (rcTi (rcs S (cpRc (cps S c)))) (rcYe (rcs S (cpRc (cps S c)))) (adL S (cpRc (cps S c))) ((rcWe (rcs S (cpRc (cps S c)))).map (adR S)) (rcLe (rcs S (cpRc (cps S c))) + 1)) (ne_of f1 f2 (by simp))).trans f1
    refine V_aload_n hZ 0 dX5_lend_63 rfl rfl (by first | rfl | exact isR_rf _) ?_
    refine V_aload_n hZ 3 dX5_lend_64 rfl rfl (by first | rfl | exact isR_rf _) ?_
    refine V_aload hZ dX5_lend_65 rfl (by first | rfl | exact isR_rf _) ?_
    refine V_getfield hZ fl_X5_192.r dX5_lend_67 (by assumption) (by rfl) ?_
    refine V_invV hZ me_X5_endWait mi_X5_endWait ml_X5_195 (c_endWait Z.1 R2 W2 hx hr) dX5_lend_70 rfl rfl (by assumption) rfl rfl ⟨by decide, by decide⟩ (by first | decide | (simp [cat_rf, cat_ref, cat_int, cat_null]; done) | (simp [cat_rf, cat_ref, cat_int, cat_null, Value.category]; done)) ⟨by decide, by decide⟩ (fun _ _ hq => hq.elim) ?_
    rintro _ g' ⟨rfl, R3⟩
    have hs := same5_end (S := lendB S x c) (x := x) (r := cpRc (cps S c))
    have e : lendS S x c = endS (lendB S x c) x (cpRc (cps S c)) := rfl
    generalize endS (lendB S x c) x (cpRc (cps S c)) = T at R3 hs e
    have f5 := R3.copy (i := c) (by rw [nCp_same hs]; exact hi)
    rw [adC_same hs] at f5
    refine V_aload hZ dX5_lend_73 rfl (by first | rfl | exact isR_rf _) ?_
    refine V_getfield hZ fl_X5_199.r dX5_lend_75 (by assumption) (by rfl) ?_
    refine V_iret hZ hE rfl (by rfl) dX5_lend_78 (by decide) (by decide) ?_
    rw [e]
    exact ⟨rfl, R3⟩
  · exact absurd rfl c1
theorem t_lend (R : Rep S h) (W : Wf S) {x c : Nat} (hx : x < nRd S) (hi : c < nCp S) (hz : ¬ reasonN S x c = 0) : Calls G yX5_lend cX5_lend 5 (.some .int) 7 121 1 6 [.ref (aH S), .int (nI x), .int (nI c)] h qF (qT eIS h) := by
  have h4 := R.hall
  refine Calls_of1 (by decide +kernel) (by simp [cat_rf, cat_ref, cat_int, cat_null]) (by simp) (lv0 := [some (.ref (aH S)), some (.int (nI x)), some (.int (nI c)), none, none]) rfl ?_
  intro Z hG hZ hE hN
  subst hG
  refine V_aload_n hZ 0 dX5_lend_0 rfl rfl (by first | rfl | exact isR_rf _) ?_
  refine V_iload_n hZ 1 dX5_lend_1 rfl rfl ?_
  refine V_invVp hZ me_X5_knownReader mi_X5_knownReader ml_X5_164 (c_knownReader Z.1 R W hx) dX5_lend_2 rfl rfl (by assumption) rfl rfl ⟨by decide, by decide⟩ (by first | decide | (simp [cat_rf, cat_ref, cat_int, cat_null]; done) | (simp [cat_rf, cat_ref, cat_int, cat_null, Value.category]; done)) ⟨by decide, by decide⟩ ?_
  refine V_astore_n hZ 3 rfl dX5_lend_5 (by first | rfl | exact isR_rf _) (by decide) (by first | rfl | simp [okp, cat_rf, cat_ref, cat_int, cat_null]) ?_
  refine V.lvc (by simp only [List.set_cons_zero, List.set_cons_succ, Nat.reduceAdd]; rfl) ?_
  refine V_aload_n hZ 0 dX5_lend_6 rfl rfl (by first | rfl | exact isR_rf _) ?_
  refine V_iload_n hZ 2 dX5_lend_7 rfl rfl ?_
  refine V_invVp hZ me_X5_knownCopy mi_X5_knownCopy ml_X5_148 (c_knownCopy Z.1 R W hi) dX5_lend_8 rfl rfl (by assumption) rfl rfl ⟨by decide, by decide⟩ (by first | decide | (simp [cat_rf, cat_ref, cat_int, cat_null]; done) | (simp [cat_rf, cat_ref, cat_int, cat_null, Value.category]; done)) ⟨by decide, by decide⟩ ?_
  refine V_astore hZ dX5_lend_11 (by first | rfl | exact isR_rf _) (by decide) (by first | rfl | simp [okp, cat_rf, cat_ref, cat_int, cat_null]) ?_
  refine V.lvc (by simp only [List.set_cons_zero, List.set_cons_succ, Nat.reduceAdd]; rfl) ?_
  refine V_aload_n hZ 0 dX5_lend_13 rfl rfl (by first | rfl | exact isR_rf _) ?_
  refine V_aload_n hZ 3 dX5_lend_14 rfl rfl (by first | rfl | exact isR_rf _) ?_
  refine V_aload hZ dX5_lend_15 rfl (by first | rfl | exact isR_rf _) ?_
  refine V_invVp hZ me_X5_reasonAgainst mi_X5_reasonAgainst ml_X5_175 (c_reasonAgainst Z.1 R W hx hi) dX5_lend_17 rfl rfl (by assumption) rfl rfl ⟨by decide, by decide⟩ (by first | decide | (simp [cat_rf, cat_ref, cat_int, cat_null]; done) | (simp [cat_rf, cat_ref, cat_int, cat_null, Value.category]; done)) ⟨by decide, by decide⟩ ?_
  refine V_if_eq (tgt := 33) hZ dX5_lend_20 (by decide) (fun c1 => ?_) (fun c1 => ?_)
  · exact absurd (nI_inj (by have := reasonN_lt (S := S) x c; omega) (by decide) (show nI (reasonN S x c) = nI 0 from c1)) hz
  · refine V_throw hZ hE hN tw_37_179_41 dX5_lend_23 dX5_lend_26 dX5_lend_27 dX5_lend_29 dX5_lend_32 (by decide) (by first | decide | (simp [cat_rf, cat_ref, cat_int, cat_null]; done) | (simp [cat_rf, cat_ref, cat_int, cat_null, Value.category]; done)) (by decide) (by decide) ?_
    exact ⟨rfl, rfl⟩
theorem t_lendI (R : Rep S h) (W : Wf S) {x : Nat} {p : Int32} (hx : x < nRd S) (hp : ∀ i, i < nCp S → p ≠ nI i) : Calls G yX5_lend cX5_lend 5 (.some .int) 7 121 1 6 [.ref (aH S), .int (nI x), .int p] h qF (qT eIO h) := by
  have h4 := R.hall
  refine Calls_of1 (by decide +kernel) (by simp [cat_rf, cat_ref, cat_int, cat_null]) (by simp) (lv0 := [some (.ref (aH S)), some (.int (nI x)), some (.int p), none, none]) rfl ?_
  intro Z hG hZ hE hN
  subst hG
  refine V_aload_n hZ 0 dX5_lend_0 rfl rfl (by first | rfl | exact isR_rf _) ?_
  refine V_iload_n hZ 1 dX5_lend_1 rfl rfl ?_
  refine V_invVp hZ me_X5_knownReader mi_X5_knownReader ml_X5_164 (c_knownReader Z.1 R W hx) dX5_lend_2 rfl rfl (by assumption) rfl rfl ⟨by decide, by decide⟩ (by first | decide | (simp [cat_rf, cat_ref, cat_int, cat_null]; done) | (simp [cat_rf, cat_ref, cat_int, cat_null, Value.category]; done)) ⟨by decide, by decide⟩ ?_
  refine V_astore_n hZ 3 rfl dX5_lend_5 (by first | rfl | exact isR_rf _) (by decide) (by first | rfl | simp [okp, cat_rf, cat_ref, cat_int, cat_null]) ?_
  refine V.lvc (by simp only [List.set_cons_zero, List.set_cons_succ, Nat.reduceAdd]; rfl) ?_
  refine V_aload_n hZ 0 dX5_lend_6 rfl rfl (by first | rfl | exact isR_rf _) ?_
  refine V_iload_n hZ 2 dX5_lend_7 rfl rfl ?_
  refine V_invV hZ me_X5_knownCopy mi_X5_knownCopy ml_X5_148 (t_knownCopy Z.1 R hp) dX5_lend_8 rfl rfl (by assumption) rfl rfl ⟨by decide, by decide⟩ (by first | decide | (simp [cat_rf, cat_ref, cat_int, cat_null]; done) | (simp [cat_rf, cat_ref, cat_int, cat_null, Value.category]; done)) ⟨by decide, by decide⟩ (fun _ _ hq => ?_) (fun _ _ hq => hq.elim)
  obtain ⟨rfl, rfl⟩ := hq
  exact VX_out hZ hE hN (by decide) (by decide) ⟨rfl, rfl⟩
abbrev renC (c : Cp) (t : Int32) : Cp := (cpPr c, cpRc c, cpPl c, cpRd c, t, cpRn c + 1, cpTh c)
abbrev renS (S : St) (c x : Nat) : St := setCp S c (renC (cps S c) (tdy S + daysN (rdKi (rds S x))))
theorem c_renew (R : Rep S h) (W : Wf S) {c x : Nat} (hi : c < nCp S) (hr : cpRd (cps S c) = some x) (hb : renewB S c = true) : Calls G yX5_renew cX5_renew 4 (.some .int) 7 112 0 0 [.ref (aH S), .int (nI c)] h (fun v h' => v = some (.int (tdy S + daysN (rdKi (rds S x)))) ∧ Rep (renS S c x) h') qX := by
  have h4 := R.hall
  have hx := W_rdr W hi x hr
  have h5 := R.rdr hx
  have h6 := R.copy hi
  simp only [oCopy, hr] at h6
  refine Calls_of1 (by decide +kernel) (by simp [cat_rf, cat_ref, cat_int, cat_null]) (by simp) (lv0 := [some (.ref (aH S)), some (.int (nI c)), none, none]) rfl ?_
  intro Z hG hZ hE hN
  subst hG
  refine V_aload_n hZ 0 dX5_renew_0 rfl rfl (by first | rfl | exact isR_rf _) ?_
  refine V_iload_n hZ 1 dX5_renew_1 rfl rfl ?_
  refine V_invVp hZ me_X5_knownCopy mi_X5_knownCopy ml_X5_148 (c_knownCopy Z.1 R W hi) dX5_renew_2 rfl rfl (by assumption) rfl rfl ⟨by decide, by decide⟩ (by first | decide | (simp [cat_rf, cat_ref, cat_int, cat_null]; done) | (simp [cat_rf, cat_ref, cat_int, cat_null, Value.category]; done)) ⟨by decide, by decide⟩ ?_
  refine V_astore_n hZ 2 rfl dX5_renew_5 (by first | rfl | exact isR_rf _) (by decide) (by first | rfl | simp [okp, cat_rf, cat_ref, cat_int, cat_null]) ?_
  refine V.lvc (by simp only [List.set_cons_zero, List.set_cons_succ, Nat.reduceAdd]; rfl) ?_
  refine V_aload_n hZ 2 dX5_renew_6 rfl rfl (by first | rfl | exact isR_rf _) ?_
  refine V_getfield hZ fl_X5_202.r dX5_renew_7 (by assumption) (by rfl) ?_
  refine V_astore_n hZ 3 rfl dX5_renew_10 (by first | rfl | exact isR_rf _) (by decide) (by first | rfl | simp [okp, cat_rf, cat_ref, cat_int, cat_null]) ?_
  refine V.lvc (by simp only [List.set_cons_zero, List.set_cons_succ, Nat.reduceAdd]; rfl) ?_
  refine V_aload_n hZ 3 dX5_renew_11 rfl rfl (by first | rfl | exact isR_rf _) ?_
  refine V_ifnullR hZ dX5_renew_12 ?_
  refine V_aload_n hZ 0 dX5_renew_15 rfl rfl (by first | rfl | exact isR_rf _) ?_
  refine V_aload_n hZ 2 dX5_renew_16 rfl rfl (by first | rfl | exact isR_rf _) ?_
  refine V_invVp hZ me_X5_mayBeRenewed mi_X5_mayBeRenewed ml_X5_206 (c_mayBeRenewed Z.1 R W hi) dX5_renew_17 rfl rfl (by assumption) rfl rfl ⟨by decide, by decide⟩ (by first | decide | (simp [cat_rf, cat_ref, cat_int, cat_null]; done) | (simp [cat_rf, cat_ref, cat_int, cat_null, Value.category]; done)) ⟨by decide, by decide⟩ ?_
  refine V_if_ne (tgt := 33) hZ dX5_renew_20 (by decide) (fun c1 => ?_) (fun c1 => ?_)
  · refine V_aload_n hZ 2 dX5_renew_33 rfl rfl (by first | rfl | exact isR_rf _) ?_
    refine V_aload_n hZ 0 dX5_renew_34 rfl rfl (by first | rfl | exact isR_rf _) ?_
    refine V_getfield hZ fl_X5_181.r dX5_renew_35 (by assumption) (by rfl) ?_
    refine V_aload_n hZ 3 dX5_renew_38 rfl rfl (by first | rfl | exact isR_rf _) ?_
    refine V_invVp hZ me_X3_daysOfALoan mi_X3_daysOfALoan ml_X5_184 (c_daysOfALoan Z.1 h h5) dX5_renew_39 rfl rfl (by assumption) rfl rfl ⟨by decide, by decide⟩ (by first | decide | (simp [cat_rf, cat_ref, cat_int, cat_null]; done) | (simp [cat_rf, cat_ref, cat_int, cat_null, Value.category]; done)) ⟨by decide, by decide⟩ ?_
    refine V_iadd hZ dX5_renew_42 ?_
    refine V_putfield hZ fl_X5_199 dX5_renew_43 (by first | assumption | exact hup_self _ _ _) (by first | rfl | exact nar_rf _ _) (by first | rfl | exact fits_rf _ _) (by simp) ?_
    have f1 : hup _ (adC S c) _ (adC S c) = some (mCopy c (cpPr (cps S c)) (adR S (cpRc (cps S c))) (cpPl (cps S c)) (some (adD S x)) (tdy S + daysN (rdKi (rds S x))) (cpRn (cps S c)) (cpTh (cps S c))) := hup_self h (adC S c) _
    refine V_aload_n hZ 2 dX5_renew_46 rfl rfl (by first | rfl | exact isR_rf _) ?_
    refine V_dup hZ dX5_renew_47 (by first | rfl | exact cat_rf _) ?_
    refine V_getfield hZ fl_X5_212.r dX5_renew_48 (by assumption) (by rfl) ?_
    refine V_iconst (v := 1) hZ dX5_renew_51 (by decide) ?_
    refine V_iadd hZ dX5_renew_52 ?_
    refine V_putfield hZ fl_X5_212 dX5_renew_53 (by first | assumption | exact hup_self _ _ _) (by first | rfl | exact nar_rf _ _) (by first | rfl | exact fits_rf _ _) (by simp) ?_
    rw [hup_hup]
    have f2 : hup _ (adC S c) _ (adC S c) = some (mCopy c (cpPr (cps S c)) (adR S (cpRc (cps S c))) (cpPl (cps S c)) (some (adD S x)) (tdy S + daysN (rdKi (rds S x))) (cpRn (cps S c) + 1) (cpTh (cps S c))) := hup_self h (adC S c) _
    refine V_aload_n hZ 2 dX5_renew_56 rfl rfl (by first | rfl | exact isR_rf _) ?_
    refine V_getfield hZ fl_X5_199.r dX5_renew_57 (by assumption) (by rfl) ?_
    refine V_iret hZ hE rfl (by rfl) dX5_renew_60 (by decide) (by decide) ?_
    have R1 := rep_cp R W hi (renC (cps S c) (tdy S + daysN (rdKi (rds S x))))
    simp only [renC, hr] at R1
    refine ⟨rfl, ?_⟩
    show Rep (setCp S c (renC (cps S c) (tdy S + daysN (rdKi (rds S x))))) _
    simp only [renC, hr]
    exact R1
  · exact absurd hb (b01_z c1)
theorem t_renew (R : Rep S h) (W : Wf S) {c : Nat} (hi : c < nCp S) (hb : cpRd (cps S c) = none ∨ renewB S c = false) : Calls G yX5_renew cX5_renew 4 (.some .int) 7 112 1 6 [.ref (aH S), .int (nI c)] h qF (qT eIS h) := by
  have h4 := R.hall
  have h6 := R.copy hi
  refine Calls_of1 (by decide +kernel) (by simp [cat_rf, cat_ref, cat_int, cat_null]) (by simp) (lv0 := [some (.ref (aH S)), some (.int (nI c)), none, none]) rfl ?_
  intro Z hG hZ hE hN
  subst hG
  refine V_aload_n hZ 0 dX5_renew_0 rfl rfl (by first | rfl | exact isR_rf _) ?_
  refine V_iload_n hZ 1 dX5_renew_1 rfl rfl ?_
  refine V_invVp hZ me_X5_knownCopy mi_X5_knownCopy ml_X5_148 (c_knownCopy Z.1 R W hi) dX5_renew_2 rfl rfl (by assumption) rfl rfl ⟨by decide, by decide⟩ (by first | decide | (simp [cat_rf, cat_ref, cat_int, cat_null]; done) | (simp [cat_rf, cat_ref, cat_int, cat_null, Value.category]; done)) ⟨by decide, by decide⟩ ?_
  refine V_astore_n hZ 2 rfl dX5_renew_5 (by first | rfl | exact isR_rf _) (by decide) (by first | rfl | simp [okp, cat_rf, cat_ref, cat_int, cat_null]) ?_
  refine V.lvc (by simp only [List.set_cons_zero, List.set_cons_succ, Nat.reduceAdd]; rfl) ?_
  refine V_aload_n hZ 2 dX5_renew_6 rfl rfl (by first | rfl | exact isR_rf _) ?_
  refine V_getfield hZ fl_X5_202.r dX5_renew_7 (by assumption) (by rfl) ?_
  refine V_astore_n hZ 3 rfl dX5_renew_10 (by first | rfl | exact isR_rf _) (by decide) (by first | rfl | simp [okp, cat_rf, cat_ref, cat_int, cat_null]) ?_
  refine V.lvc (by simp only [List.set_cons_zero, List.set_cons_succ, Nat.reduceAdd]; rfl) ?_
  refine V_aload_n hZ 3 dX5_renew_11 rfl rfl (by first | rfl | exact isR_rf _) ?_
  cases hz : cpRd (cps S c) with
  | none =>
    refine V_ifnullN (tgt := 23) hZ dX5_renew_12 (by decide) ?_
    refine V_throw hZ hE hN tw_37_210_41 dX5_renew_23 dX5_renew_26 dX5_renew_27 dX5_renew_29 dX5_renew_32 (by decide) (by first | decide | (simp [cat_rf, cat_ref, cat_int, cat_null]; done) | (simp [cat_rf, cat_ref, cat_int, cat_null, Value.category]; done)) (by decide) (by decide) ?_
    exact ⟨rfl, rfl⟩
  | some x =>
    have hb2 : renewB S c = false := hb.resolve_left (by rw [hz]; simp)
    refine V_ifnullR hZ dX5_renew_12 ?_
    refine V_aload_n hZ 0 dX5_renew_15 rfl rfl (by first | rfl | exact isR_rf _) ?_
    refine V_aload_n hZ 2 dX5_renew_16 rfl rfl (by first | rfl | exact isR_rf _) ?_
    refine V_invVp hZ me_X5_mayBeRenewed mi_X5_mayBeRenewed ml_X5_206 (c_mayBeRenewed Z.1 R W hi) dX5_renew_17 rfl rfl (by assumption) rfl rfl ⟨by decide, by decide⟩ (by first | decide | (simp [cat_rf, cat_ref, cat_int, cat_null]; done) | (simp [cat_rf, cat_ref, cat_int, cat_null, Value.category]; done)) ⟨by decide, by decide⟩ ?_
    refine V_if_ne (tgt := 33) hZ dX5_renew_20 (by decide) (fun c1 => ?_) (fun c1 => ?_)
    · exact absurd (by simp [b01, hb2]) c1
    · refine V_throw hZ hE hN tw_37_210_41 dX5_renew_23 dX5_renew_26 dX5_renew_27 dX5_renew_29 dX5_renew_32 (by decide) (by first | decide | (simp [cat_rf, cat_ref, cat_int, cat_null]; done) | (simp [cat_rf, cat_ref, cat_int, cat_null, Value.category]; done)) (by decide) (by decide) ?_
      exact ⟨rfl, rfl⟩
theorem t_renewI (R : Rep S h) {p : Int32} (hp : ∀ i, i < nCp S → p ≠ nI i) : Calls G yX5_renew cX5_renew 4 (.some .int) 7 112 1 6 [.ref (aH S), .int p] h qF (qT eIO h) := by
  have h4 := R.hall
  refine Calls_of1 (by decide +kernel) (by simp [cat_rf, cat_ref, cat_int, cat_null]) (by simp) (lv0 := [some (.ref (aH S)), some (.int p), none, none]) rfl ?_
  intro Z hG hZ hE hN
  subst hG
  refine V_aload_n hZ 0 dX5_renew_0 rfl rfl (by first | rfl | exact isR_rf _) ?_
  refine V_iload_n hZ 1 dX5_renew_1 rfl rfl ?_
  refine V_invV hZ me_X5_knownCopy mi_X5_knownCopy ml_X5_148 (t_knownCopy Z.1 R hp) dX5_renew_2 rfl rfl (by assumption) rfl rfl ⟨by decide, by decide⟩ (by first | decide | (simp [cat_rf, cat_ref, cat_int, cat_null]; done) | (simp [cat_rf, cat_ref, cat_int, cat_null, Value.category]; done)) ⟨by decide, by decide⟩ (fun _ _ hq => ?_) (fun _ _ hq => hq.elim)
  obtain ⟨rfl, rfl⟩ := hq
  exact VX_out hZ hE hN (by decide) (by decide) ⟨rfl, rfl⟩
abbrev oweS (S : St) (x : Nat) (a : Int32) : St := setRd S x (rdKi (rds S x), a)
abbrev backS (S : St) (c x : Nat) : St := freeS (oweS S x (rdOw (rds S x) + fineN (cpPl (cps S c)) (cpDy (cps S c)) (tdy S))) c
theorem c_back (R : Rep S h) (W : Wf S) {c x : Nat} (hi : c < nCp S) (hp : cpPl (cps S c) = 1) (hr : cpRd (cps S c) = some x) : Calls G yX5_back cX5_back 5 (.some .int) 7 112 0 0 [.ref (aH S), .int (nI c)] h (fun v h' => v = some (.int (fineN (cpPl (cps S c)) (cpDy (cps S c)) (tdy S))) ∧ Rep (backS S c x) h') qX := by
  have h4 := R.hall
  have hx := W_rdr W hi x hr
  have h5 := R.rdr hx
  have h6 := R.copy hi
  simp only [oCopy, hr] at h6
  refine Calls_of1 (by decide +kernel) (by simp [cat_rf, cat_ref, cat_int, cat_null]) (by simp) (lv0 := [some (.ref (aH S)), some (.int (nI c)), none, none, none]) rfl ?_
  intro Z hG hZ hE hN
  subst hG
  refine V_aload_n hZ 0 dX5_back_0 rfl rfl (by first | rfl | exact isR_rf _) ?_
  refine V_iload_n hZ 1 dX5_back_1 rfl rfl ?_
  refine V_invVp hZ me_X5_knownCopy mi_X5_knownCopy ml_X5_148 (c_knownCopy Z.1 R W hi) dX5_back_2 rfl rfl (by assumption) rfl rfl ⟨by decide, by decide⟩ (by first | decide | (simp [cat_rf, cat_ref, cat_int, cat_null]; done) | (simp [cat_rf, cat_ref, cat_int, cat_null, Value.category]; done)) ⟨by decide, by decide⟩ ?_
  refine V_astore_n hZ 2 rfl dX5_back_5 (by first | rfl | exact isR_rf _) (by decide) (by first | rfl | simp [okp, cat_rf, cat_ref, cat_int, cat_null]) ?_
  refine V.lvc (by simp only [List.set_cons_zero, List.set_cons_succ, Nat.reduceAdd]; rfl) ?_
  refine V_aload_n hZ 2 dX5_back_6 rfl rfl (by first | rfl | exact isR_rf _) ?_
  refine V_getfield hZ fl_X5_202.r dX5_back_7 (by assumption) (by rfl) ?_
  refine V_astore_n hZ 3 rfl dX5_back_10 (by first | rfl | exact isR_rf _) (by decide) (by first | rfl | simp [okp, cat_rf, cat_ref, cat_int, cat_null]) ?_
  refine V.lvc (by simp only [List.set_cons_zero, List.set_cons_succ, Nat.reduceAdd]; rfl) ?_
  refine V_aload_n hZ 2 dX5_back_11 rfl rfl (by first | rfl | exact isR_rf _) ?_
  refine V_getfield hZ fl_X5_215.r dX5_back_12 (by assumption) (by rfl) ?_
  refine V_iconst (v := 1) hZ dX5_back_15 (by decide) ?_
  refine V_icmp_ne (tgt := 23) hZ dX5_back_16 (by decide) (fun c1 => ?_) (fun c1 => ?_)
  · exact absurd hp c1
  · refine V_aload_n hZ 3 dX5_back_19 rfl rfl (by first | rfl | exact isR_rf _) ?_
    refine V_ifnonnullR (tgt := 33) hZ dX5_back_20 (by decide) ?_
    refine V_aload_n hZ 2 dX5_back_33 rfl rfl (by first | rfl | exact isR_rf _) ?_
    refine V_aload_n hZ 0 dX5_back_34 rfl rfl (by first | rfl | exact isR_rf _) ?_
    refine V_getfield hZ fl_X5_181.r dX5_back_35 (by assumption) (by rfl) ?_
    refine V_invVp hZ me_X1_fineOn mi_X1_fineOn ml_X5_220 (c_fineOn Z.1 h h6 (tdy S)) dX5_back_38 rfl rfl (by assumption) rfl rfl ⟨by decide, by decide⟩ (by first | decide | (simp [cat_rf, cat_ref, cat_int, cat_null]; done) | (simp [cat_rf, cat_ref, cat_int, cat_null, Value.category]; done)) ⟨by decide, by decide⟩ ?_
    refine V_istore hZ dX5_back_41 (by decide) (by first | rfl | simp [okp, cat_rf, cat_ref, cat_int, cat_null]) ?_
    refine V.lvc (by simp only [List.set_cons_zero, List.set_cons_succ, Nat.reduceAdd]; rfl) ?_
    refine V_aload_n hZ 3 dX5_back_43 rfl rfl (by first | rfl | exact isR_rf _) ?_
    refine V_dup hZ dX5_back_44 (by first | rfl | exact cat_rf _) ?_
    refine V_getfield hZ fl_X5_172.r dX5_back_45 (by assumption) (by rfl) ?_
    refine V_iload hZ dX5_back_48 rfl ?_
    refine V_iadd hZ dX5_back_50 ?_
    refine V_putfield hZ fl_X5_172 dX5_back_51 (by first | assumption | exact hup_self _ _ _) (by first | rfl | exact nar_rf _ _) (by first | rfl | exact fits_rf _ _) (by simp) ?_
    have R1 := rep_rd R W hx (rdKi (rds S x), rdOw (rds S x) + fineN (cpPl (cps S c)) (cpDy (cps S c)) (tdy S))
    have f1 := R1.hall
    refine V_aload_n hZ 0 dX5_back_54 rfl rfl (by first | rfl | exact isR_rf _) ?_
    refine V_aload_n hZ 2 dX5_back_55 rfl rfl (by first | rfl | exact isR_rf _) ?_
    refine V_invV hZ me_X5_free mi_X5_free ml_X5_144 (c_free Z.1 R1 (wf_rd W) (i := c) hi) dX5_back_56 rfl rfl (by assumption) rfl rfl ⟨by decide, by decide⟩ (by first | decide | (simp [cat_rf, cat_ref, cat_int, cat_null]; done) | (simp [cat_rf, cat_ref, cat_int, cat_null, Value.category]; done)) ⟨by decide, by decide⟩ (fun _ _ hq => hq.elim) ?_
    rintro _ g' ⟨rfl, R2⟩
    refine V_iload hZ dX5_back_59 rfl ?_
    refine V_iret hZ hE rfl (by rfl) dX5_back_61 (by decide) (by decide) ?_
    exact ⟨rfl, R2⟩
theorem t_back (R : Rep S h) (W : Wf S) {c : Nat} (hi : c < nCp S) (hp : ¬ cpPl (cps S c) = 1 ∨ cpRd (cps S c) = none) : Calls G yX5_back cX5_back 5 (.some .int) 7 112 1 6 [.ref (aH S), .int (nI c)] h qF (qT eIS h) := by
  have h4 := R.hall
  have h6 := R.copy hi
  refine Calls_of1 (by decide +kernel) (by simp [cat_rf, cat_ref, cat_int, cat_null]) (by simp) (lv0 := [some (.ref (aH S)), some (.int (nI c)), none, none, none]) rfl ?_
  intro Z hG hZ hE hN
  subst hG
  refine V_aload_n hZ 0 dX5_back_0 rfl rfl (by first | rfl | exact isR_rf _) ?_
  refine V_iload_n hZ 1 dX5_back_1 rfl rfl ?_
  refine V_invVp hZ me_X5_knownCopy mi_X5_knownCopy ml_X5_148 (c_knownCopy Z.1 R W hi) dX5_back_2 rfl rfl (by assumption) rfl rfl ⟨by decide, by decide⟩ (by first | decide | (simp [cat_rf, cat_ref, cat_int, cat_null]; done) | (simp [cat_rf, cat_ref, cat_int, cat_null, Value.category]; done)) ⟨by decide, by decide⟩ ?_
  refine V_astore_n hZ 2 rfl dX5_back_5 (by first | rfl | exact isR_rf _) (by decide) (by first | rfl | simp [okp, cat_rf, cat_ref, cat_int, cat_null]) ?_
  refine V.lvc (by simp only [List.set_cons_zero, List.set_cons_succ, Nat.reduceAdd]; rfl) ?_
  refine V_aload_n hZ 2 dX5_back_6 rfl rfl (by first | rfl | exact isR_rf _) ?_
  refine V_getfield hZ fl_X5_202.r dX5_back_7 (by assumption) (by rfl) ?_
  refine V_astore_n hZ 3 rfl dX5_back_10 (by first | rfl | exact isR_rf _) (by decide) (by first | rfl | simp [okp, cat_rf, cat_ref, cat_int, cat_null]) ?_
  refine V.lvc (by simp only [List.set_cons_zero, List.set_cons_succ, Nat.reduceAdd]; rfl) ?_
  refine V_aload_n hZ 2 dX5_back_11 rfl rfl (by first | rfl | exact isR_rf _) ?_
  refine V_getfield hZ fl_X5_215.r dX5_back_12 (by assumption) (by rfl) ?_
  refine V_iconst (v := 1) hZ dX5_back_15 (by decide) ?_
  refine V_icmp_ne (tgt := 23) hZ dX5_back_16 (by decide) (fun c1 => ?_) (fun c1 => ?_)
  · refine V_throw hZ hE hN tw_37_218_41 dX5_back_23 dX5_back_26 dX5_back_27 dX5_back_29 dX5_back_32 (by decide) (by first | decide | (simp [cat_rf, cat_ref, cat_int, cat_null]; done) | (simp [cat_rf, cat_ref, cat_int, cat_null, Value.category]; done)) (by decide) (by decide) ?_
    exact ⟨rfl, rfl⟩
  · refine V_aload_n hZ 3 dX5_back_19 rfl rfl (by first | rfl | exact isR_rf _) ?_
    have hn := hp.resolve_left (fun z => z c1)
    rw [hn]
    refine V_ifnonnullN hZ dX5_back_20 ?_
    refine V_throw hZ hE hN tw_37_218_41 dX5_back_23 dX5_back_26 dX5_back_27 dX5_back_29 dX5_back_32 (by decide) (by first | decide | (simp [cat_rf, cat_ref, cat_int, cat_null]; done) | (simp [cat_rf, cat_ref, cat_int, cat_null, Value.category]; done)) (by decide) (by decide) ?_
    exact ⟨rfl, rfl⟩
theorem t_backI (R : Rep S h) {p : Int32} (hp : ∀ i, i < nCp S → p ≠ nI i) : Calls G yX5_back cX5_back 5 (.some .int) 7 112 1 6 [.ref (aH S), .int p] h qF (qT eIO h) := by
  have h4 := R.hall
  refine Calls_of1 (by decide +kernel) (by simp [cat_rf, cat_ref, cat_int, cat_null]) (by simp) (lv0 := [some (.ref (aH S)), some (.int p), none, none, none]) rfl ?_
  intro Z hG hZ hE hN
  subst hG
  refine V_aload_n hZ 0 dX5_back_0 rfl rfl (by first | rfl | exact isR_rf _) ?_
  refine V_iload_n hZ 1 dX5_back_1 rfl rfl ?_
  refine V_invV hZ me_X5_knownCopy mi_X5_knownCopy ml_X5_148 (t_knownCopy Z.1 R hp) dX5_back_2 rfl rfl (by assumption) rfl rfl ⟨by decide, by decide⟩ (by first | decide | (simp [cat_rf, cat_ref, cat_int, cat_null]; done) | (simp [cat_rf, cat_ref, cat_int, cat_null, Value.category]; done)) ⟨by decide, by decide⟩ (fun _ _ hq => ?_) (fun _ _ hq => hq.elim)
  obtain ⟨rfl, rfl⟩ := hq
  exact VX_out hZ hE hN (by decide) (by decide) ⟨rfl, rfl⟩
abbrev findS (S : St) (c x : Nat) : St := freeS (oweS S x (maxI 0 (rdOw (rds S x) - cpPr (cps S c)))) c
theorem c_find (R : Rep S h) (W : Wf S) {c x : Nat} (hi : c < nCp S) (hp : cpPl (cps S c) = 3) (hr : cpRd (cps S c) = some x) : Calls G yX5_find cX5_find 4 (.some .int) 7 112 0 0 [.ref (aH S), .int (nI c)] h (fun v h' => v = some (.int (maxI 0 (rdOw (rds S x) - cpPr (cps S c)))) ∧ Rep (findS S c x) h') qX := by
  have h4 := R.hall
  have hx := W_rdr W hi x hr
  have h5 := R.rdr hx
  have h6 := R.copy hi
  simp only [oCopy, hr] at h6
  refine Calls_of1 (by decide +kernel) (by simp [cat_rf, cat_ref, cat_int, cat_null]) (by simp) (lv0 := [some (.ref (aH S)), some (.int (nI c)), none, none]) rfl ?_
  intro Z hG hZ hE hN
  subst hG
  refine V_aload_n hZ 0 dX5_find_0 rfl rfl (by first | rfl | exact isR_rf _) ?_
  refine V_iload_n hZ 1 dX5_find_1 rfl rfl ?_
  refine V_invVp hZ me_X5_knownCopy mi_X5_knownCopy ml_X5_148 (c_knownCopy Z.1 R W hi) dX5_find_2 rfl rfl (by assumption) rfl rfl ⟨by decide, by decide⟩ (by first | decide | (simp [cat_rf, cat_ref, cat_int, cat_null]; done) | (simp [cat_rf, cat_ref, cat_int, cat_null, Value.category]; done)) ⟨by decide, by decide⟩ ?_
  refine V_astore_n hZ 2 rfl dX5_find_5 (by first | rfl | exact isR_rf _) (by decide) (by first | rfl | simp [okp, cat_rf, cat_ref, cat_int, cat_null]) ?_
  refine V.lvc (by simp only [List.set_cons_zero, List.set_cons_succ, Nat.reduceAdd]; rfl) ?_
  refine V_aload_n hZ 2 dX5_find_6 rfl rfl (by first | rfl | exact isR_rf _) ?_
  refine V_getfield hZ fl_X5_202.r dX5_find_7 (by assumption) (by rfl) ?_
  refine V_astore_n hZ 3 rfl dX5_find_10 (by first | rfl | exact isR_rf _) (by decide) (by first | rfl | simp [okp, cat_rf, cat_ref, cat_int, cat_null]) ?_
  refine V.lvc (by simp only [List.set_cons_zero, List.set_cons_succ, Nat.reduceAdd]; rfl) ?_
  refine V_aload_n hZ 2 dX5_find_11 rfl rfl (by first | rfl | exact isR_rf _) ?_
  refine V_getfield hZ fl_X5_215.r dX5_find_12 (by assumption) (by rfl) ?_
  refine V_iconst (v := 3) hZ dX5_find_15 (by decide) ?_
  refine V_icmp_ne (tgt := 23) hZ dX5_find_16 (by decide) (fun c1 => ?_) (fun c1 => ?_)
  · exact absurd hp c1
  · refine V_aload_n hZ 3 dX5_find_19 rfl rfl (by first | rfl | exact isR_rf _) ?_
    refine V_ifnonnullR (tgt := 33) hZ dX5_find_20 (by decide) ?_
    refine V_aload_n hZ 3 dX5_find_33 rfl rfl (by first | rfl | exact isR_rf _) ?_
    refine V_iconst (v := 0) hZ dX5_find_34 (by decide) ?_
    refine V_aload_n hZ 3 dX5_find_35 rfl rfl (by first | rfl | exact isR_rf _) ?_
    refine V_getfield hZ fl_X5_172.r dX5_find_36 (by assumption) (by rfl) ?_
    refine V_aload_n hZ 2 dX5_find_39 rfl rfl (by first | rfl | exact isR_rf _) ?_
    refine V_getfield hZ fl_X5_226 dX5_find_40 (by assumption) (by rfl) ?_
    refine V_isub hZ dX5_find_43 ?_
    refine V_mmax hZ ml_X5_229 dX5_find_44 (by decide) (by first | decide | (simp [cat_rf, cat_ref, cat_int, cat_null]; done) | (simp [cat_rf, cat_ref, cat_int, cat_null, Value.category]; done)) ⟨by decide, by decide⟩ ?_
    refine V_putfield hZ fl_X5_172 dX5_find_47 (by first | assumption | exact hup_self _ _ _) (by first | rfl | exact nar_rf _ _) (by first | rfl | exact fits_rf _ _) (by simp) ?_
    have R1 := rep_rd R W hx (rdKi (rds S x), maxI 0 (rdOw (rds S x) - cpPr (cps S c)))
    have f1 := R1.hall
    refine V_aload_n hZ 0 dX5_find_50 rfl rfl (by first | rfl | exact isR_rf _) ?_
    refine V_aload_n hZ 2 dX5_find_51 rfl rfl (by first | rfl | exact isR_rf _) ?_
    refine V_invV hZ me_X5_free mi_X5_free ml_X5_144 (c_free Z.1 R1 (wf_rd W) (i := c) hi) dX5_find_52 rfl rfl (by assumption) rfl rfl ⟨by decide, by decide⟩ (by first | decide | (simp [cat_rf, cat_ref, cat_int, cat_null]; done) | (simp [cat_rf, cat_ref, cat_int, cat_null, Value.category]; done)) ⟨by decide, by decide⟩ (fun _ _ hq => hq.elim) ?_
    rintro _ g' ⟨rfl, R2⟩
    have f2 := R2.rdr (i := x) hx
    have e : va_up (rds S) x (rdKi (rds S x), maxI 0 (rdOw (rds S x) - cpPr (cps S c))) x = (rdKi (rds S x), maxI 0 (rdOw (rds S x) - cpPr (cps S c))) := by simp [va_up]
    have f3 : g' (adD S x) = some (mRdr x (rdKi (va_up (rds S) x (rdKi (rds S x), maxI 0 (rdOw (rds S x) - cpPr (cps S c))) x)) (rdOw (va_up (rds S) x (rdKi (rds S x), maxI 0 (rdOw (rds S x) - cpPr (cps S c))) x))) := f2
    rw [e] at f3
    refine V_aload_n hZ 3 dX5_find_55 rfl rfl (by first | rfl | exact isR_rf _) ?_
    refine V_getfield hZ fl_X5_172.r dX5_find_56 (by assumption) (by rfl) ?_
    refine V_iret hZ hE rfl (by rfl) dX5_find_59 (by decide) (by decide) ?_
    exact ⟨rfl, R2⟩
theorem t_find (R : Rep S h) (W : Wf S) {c : Nat} (hi : c < nCp S) (hp : ¬ cpPl (cps S c) = 3 ∨ cpRd (cps S c) = none) : Calls G yX5_find cX5_find 4 (.some .int) 7 112 1 6 [.ref (aH S), .int (nI c)] h qF (qT eIS h) := by
  have h4 := R.hall
  have h6 := R.copy hi
  refine Calls_of1 (by decide +kernel) (by simp [cat_rf, cat_ref, cat_int, cat_null]) (by simp) (lv0 := [some (.ref (aH S)), some (.int (nI c)), none, none]) rfl ?_
  intro Z hG hZ hE hN
  subst hG
  refine V_aload_n hZ 0 dX5_find_0 rfl rfl (by first | rfl | exact isR_rf _) ?_
  refine V_iload_n hZ 1 dX5_find_1 rfl rfl ?_
  refine V_invVp hZ me_X5_knownCopy mi_X5_knownCopy ml_X5_148 (c_knownCopy Z.1 R W hi) dX5_find_2 rfl rfl (by assumption) rfl rfl ⟨by decide, by decide⟩ (by first | decide | (simp [cat_rf, cat_ref, cat_int, cat_null]; done) | (simp [cat_rf, cat_ref, cat_int, cat_null, Value.category]; done)) ⟨by decide, by decide⟩ ?_
  refine V_astore_n hZ 2 rfl dX5_find_5 (by first | rfl | exact isR_rf _) (by decide) (by first | rfl | simp [okp, cat_rf, cat_ref, cat_int, cat_null]) ?_
  refine V.lvc (by simp only [List.set_cons_zero, List.set_cons_succ, Nat.reduceAdd]; rfl) ?_
  refine V_aload_n hZ 2 dX5_find_6 rfl rfl (by first | rfl | exact isR_rf _) ?_
  refine V_getfield hZ fl_X5_202.r dX5_find_7 (by assumption) (by rfl) ?_
  refine V_astore_n hZ 3 rfl dX5_find_10 (by first | rfl | exact isR_rf _) (by decide) (by first | rfl | simp [okp, cat_rf, cat_ref, cat_int, cat_null]) ?_
  refine V.lvc (by simp only [List.set_cons_zero, List.set_cons_succ, Nat.reduceAdd]; rfl) ?_
  refine V_aload_n hZ 2 dX5_find_11 rfl rfl (by first | rfl | exact isR_rf _) ?_
  refine V_getfield hZ fl_X5_215.r dX5_find_12 (by assumption) (by rfl) ?_
  refine V_iconst (v := 3) hZ dX5_find_15 (by decide) ?_
  refine V_icmp_ne (tgt := 23) hZ dX5_find_16 (by decide) (fun c1 => ?_) (fun c1 => ?_)
  · refine V_throw hZ hE hN tw_37_224_41 dX5_find_23 dX5_find_26 dX5_find_27 dX5_find_29 dX5_find_32 (by decide) (by first | decide | (simp [cat_rf, cat_ref, cat_int, cat_null]; done) | (simp [cat_rf, cat_ref, cat_int, cat_null, Value.category]; done)) (by decide) (by decide) ?_
    exact ⟨rfl, rfl⟩
  · refine V_aload_n hZ 3 dX5_find_19 rfl rfl (by first | rfl | exact isR_rf _) ?_
    have hn := hp.resolve_left (fun z => z c1)
    rw [hn]
    refine V_ifnonnullN hZ dX5_find_20 ?_
    refine V_throw hZ hE hN tw_37_224_41 dX5_find_23 dX5_find_26 dX5_find_27 dX5_find_29 dX5_find_32 (by decide) (by first | decide | (simp [cat_rf, cat_ref, cat_int, cat_null]; done) | (simp [cat_rf, cat_ref, cat_int, cat_null, Value.category]; done)) (by decide) (by decide) ?_
    exact ⟨rfl, rfl⟩
theorem t_findI (R : Rep S h) {p : Int32} (hp : ∀ i, i < nCp S → p ≠ nI i) : Calls G yX5_find cX5_find 4 (.some .int) 7 112 1 6 [.ref (aH S), .int p] h qF (qT eIO h) := by
  have h4 := R.hall
  refine Calls_of1 (by decide +kernel) (by simp [cat_rf, cat_ref, cat_int, cat_null]) (by simp) (lv0 := [some (.ref (aH S)), some (.int p), none, none]) rfl ?_
  intro Z hG hZ hE hN
  subst hG
  refine V_aload_n hZ 0 dX5_find_0 rfl rfl (by first | rfl | exact isR_rf _) ?_
  refine V_iload_n hZ 1 dX5_find_1 rfl rfl ?_
  refine V_invV hZ me_X5_knownCopy mi_X5_knownCopy ml_X5_148 (t_knownCopy Z.1 R hp) dX5_find_2 rfl rfl (by assumption) rfl rfl ⟨by decide, by decide⟩ (by first | decide | (simp [cat_rf, cat_ref, cat_int, cat_null]; done) | (simp [cat_rf, cat_ref, cat_int, cat_null, Value.category]; done)) ⟨by decide, by decide⟩ (fun _ _ hq => ?_) (fun _ _ hq => hq.elim)
  obtain ⟨rfl, rfl⟩ := hq
  exact VX_out hZ hE hN (by decide) (by decide) ⟨rfl, rfl⟩
abbrev joinS (S : St) (x r : Nat) : St := setLn S r (lin S r ++ [x])
theorem join_len (W : Wf S) {x r : Nat} (hx : x < nRd S) (hr : r < nRc S) (hn : x ∉ lin S r) : (lin S r).length < 8 := nd_lt (W_nod W hr) (fun y hy => Nat.lt_of_lt_of_le ((W_lin W hr).2 y hy) W.2.2.2.1) (Nat.lt_of_lt_of_le hx W.2.2.2.1) hn
theorem wf_join (W : Wf S) {x r : Nat} (hx : x < nRd S) (hr : r < nRc S) (hn : x ∉ lin S r) : Wf (joinS S x r) := by
  have hl := join_len W hx hr hn
  refine wf_ln W (by simp; omega) (fun y hy => ?_) ?_
  · rcases List.mem_append.mp hy with h1 | h1
    · exact (W_lin W hr).2 y h1
    · rw [List.mem_singleton.mp h1]; exact hx
  · rw [List.nodup_append]
    refine ⟨W_nod W hr, by simp, fun y hy z hz => ?_⟩
    rw [List.mem_singleton.mp hz]
    exact fun e => hn (by rw [← e]; exact hy)
def awaitS (S : St) (x r : Nat) : St := match fN (inB (joinS S x r) r) 30 0 with
  | none => joinS S x r
  | some c => freeS (joinS S x r) c
def awaitN (S : St) (x r : Nat) : Int32 := orN (fN (inB (joinS S x r) r) 30 0)
theorem c_await (R : Rep S h) (W : Wf S) {x i : Nat} (hx : x < nRd S) (hi : i < nRc S) (h1 : x ∉ lin S (live S i)) (h2 : fN (hasB S x (live S i)) 30 0 = none) : Calls G yX5_await cX5_await 6 (.some .int) 7 112 0 0 [.ref (aH S), .int (nI x), .int (nI i)] h (fun v h' => v = some (.int (awaitN S x (live S i))) ∧ Rep (awaitS S x (live S i)) h') qX := by
  have h4 := R.hall
  have hr := live_lt W hi
  have h5 := R.rec hi
  have h6 := R.rec hr
  have h7 := R.line hr
  have hl := join_len W hx hr h1
  refine Calls_of1 (by decide +kernel) (by simp [cat_rf, cat_ref, cat_int, cat_null]) (by simp) (lv0 := [some (.ref (aH S)), some (.int (nI x)), some (.int (nI i)), none, none, none]) rfl ?_
  intro Z hG hZ hE hN
  subst hG
  refine V_aload_n hZ 0 dX5_await_0 rfl rfl (by first | rfl | exact isR_rf _) ?_
  refine V_iload_n hZ 1 dX5_await_1 rfl rfl ?_
  refine V_invVp hZ me_X5_knownReader mi_X5_knownReader ml_X5_164 (c_knownReader Z.1 R W hx) dX5_await_2 rfl rfl (by assumption) rfl rfl ⟨by decide, by decide⟩ (by first | decide | (simp [cat_rf, cat_ref, cat_int, cat_null]; done) | (simp [cat_rf, cat_ref, cat_int, cat_null, Value.category]; done)) ⟨by decide, by decide⟩ ?_
  refine V_astore_n hZ 3 rfl dX5_await_5 (by first | rfl | exact isR_rf _) (by decide) (by first | rfl | simp [okp, cat_rf, cat_ref, cat_int, cat_null]) ?_
  refine V.lvc (by simp only [List.set_cons_zero, List.set_cons_succ, Nat.reduceAdd]; rfl) ?_
  refine V_aload_n hZ 0 dX5_await_6 rfl rfl (by first | rfl | exact isR_rf _) ?_
  refine V_iload_n hZ 2 dX5_await_7 rfl rfl ?_
  refine V_invVp hZ me_X5_knownRecord mi_X5_knownRecord ml_X5_83 (c_knownRecord Z.1 R W hi) dX5_await_8 rfl rfl (by assumption) rfl rfl ⟨by decide, by decide⟩ (by first | decide | (simp [cat_rf, cat_ref, cat_int, cat_null]; done) | (simp [cat_rf, cat_ref, cat_int, cat_null, Value.category]; done)) ⟨by decide, by decide⟩ ?_
  refine V_invVp hZ me_X0_liveOne mi_X0_liveOne ml_X5_95 (c_liveOne Z.1 R W hi) dX5_await_11 rfl rfl (by assumption) rfl rfl ⟨by decide, by decide⟩ (by first | decide | (simp [cat_rf, cat_ref, cat_int, cat_null]; done) | (simp [cat_rf, cat_ref, cat_int, cat_null, Value.category]; done)) ⟨by decide, by decide⟩ ?_
  refine V_astore hZ dX5_await_14 (by first | rfl | exact isR_rf _) (by decide) (by first | rfl | simp [okp, cat_rf, cat_ref, cat_int, cat_null]) ?_
  refine V.lvc (by simp only [List.set_cons_zero, List.set_cons_succ, Nat.reduceAdd]; rfl) ?_
  refine V_aload hZ dX5_await_16 rfl (by first | rfl | exact isR_rf _) ?_
  refine V_getfield hZ fl_X5_235 dX5_await_18 (by assumption) (by rfl) ?_
  refine V_aload_n hZ 3 dX5_await_21 rfl rfl (by first | rfl | exact isR_rf _) ?_
  refine V_invVp hZ me_X4_holds mi_X4_holds ml_X5_239 (c_holdsS Z.1 R W hr (o := some x) (fun y hy => by cases hy; exact hx)) dX5_await_22 rfl rfl (by assumption) rfl rfl ⟨by decide, by decide⟩ (by first | decide | (simp [cat_rf, cat_ref, cat_int, cat_null]; done) | (simp [cat_rf, cat_ref, cat_int, cat_null, Value.category]; done)) ⟨by decide, by decide⟩ ?_
  refine V_if_ne (tgt := 38) hZ dX5_await_25 (by decide) (fun c1 => ?_) (fun c1 => ?_)
  · exact absurd (b01_nz c1) (by simp [holdsB]; exact h1)
  · refine V_aload_n hZ 0 dX5_await_28 rfl rfl (by first | rfl | exact isR_rf _) ?_
    refine V_aload_n hZ 3 dX5_await_29 rfl rfl (by first | rfl | exact isR_rf _) ?_
    refine V_aload hZ dX5_await_30 rfl (by first | rfl | exact isR_rf _) ?_
    refine V_invVp hZ me_X5_hasCopyOf mi_X5_hasCopyOf ml_X5_245 (c_hasCopyOf Z.1 R W hx hr) dX5_await_32 rfl rfl (by assumption) rfl rfl ⟨by decide, by decide⟩ (by first | decide | (simp [cat_rf, cat_ref, cat_int, cat_null]; done) | (simp [cat_rf, cat_ref, cat_int, cat_null, Value.category]; done)) ⟨by decide, by decide⟩ ?_
    refine V_if_eq (tgt := 48) hZ dX5_await_35 (by decide) (fun c2 => ?_) (fun c2 => ?_)
    · refine V_aload hZ dX5_await_48 rfl (by first | rfl | exact isR_rf _) ?_
      refine V_getfield hZ fl_X5_235 dX5_await_50 (by assumption) (by rfl) ?_
      refine V_aload_n hZ 3 dX5_await_53 rfl rfl (by first | rfl | exact isR_rf _) ?_
      refine V_invV hZ me_X4_join mi_X4_join ml_X5_251 (c_join Z.1 h h7 (R.row hr) hl (R.rdr hx)) dX5_await_54 rfl rfl (by assumption) rfl rfl ⟨by decide, by decide⟩ (by first | decide | (simp [cat_rf, cat_ref, cat_int, cat_null]; done) | (simp [cat_rf, cat_ref, cat_int, cat_null, Value.category]; done)) ⟨by decide, by decide⟩ (fun _ _ hq => hq.elim) ?_
      rintro _ _ ⟨rfl, rfl⟩
      have R1 := rep_ln R hr (lin S (live S i) ++ [x])
      simp only [List.length_append, List.length_singleton] at R1
      have W1 := wf_join W hx hr h1
      have f1 := R1.hall
      refine V_aload_n hZ 0 dX5_await_57 rfl rfl (by first | rfl | exact isR_rf _) ?_
      refine V_aload hZ dX5_await_58 rfl (by first | rfl | exact isR_rf _) ?_
      refine V_invVp hZ me_X5_firstIn mi_X5_firstIn ml_X5_255 (c_firstIn Z.1 R1 W1 hr) dX5_await_60 rfl rfl (by assumption) rfl rfl ⟨by decide, by decide⟩ (by first | decide | (simp [cat_rf, cat_ref, cat_int, cat_null]; done) | (simp [cat_rf, cat_ref, cat_int, cat_null, Value.category]; done)) ⟨by decide, by decide⟩ ?_
      refine V_astore hZ dX5_await_63 (by first | rfl | exact isR_rf _) (by decide) (by first | rfl | simp [okp, cat_rf, cat_ref, cat_int, cat_null]) ?_
      refine V.lvc (by simp only [List.set_cons_zero, List.set_cons_succ, Nat.reduceAdd]; rfl) ?_
      refine V_aload hZ dX5_await_65 rfl (by first | rfl | exact isR_rf _) ?_
      cases hz : fN (inB (joinS S x (live S i)) (live S i)) 30 0 with
      | none =>
        refine V_ifnonnullN hZ dX5_await_67 ?_
        refine V_iconst (v := -1) hZ dX5_await_70 (by decide) ?_
        refine V_iret hZ hE rfl (by rfl) dX5_await_71 (by decide) (by decide) ?_
        rw [awaitN, awaitS, hz]
        exact ⟨rfl, R1⟩
      | some c =>
        have hc := fN_some hz
        simp only [inB, decide_eq_true_eq] at hc
        refine V_ifnonnullR (tgt := 72) hZ dX5_await_67 (by decide) ?_
        refine V_aload_n hZ 0 dX5_await_72 rfl rfl (by first | rfl | exact isR_rf _) ?_
        refine V_aload hZ dX5_await_73 rfl (by first | rfl | exact isR_rf _) ?_
        refine V_invV hZ me_X5_free mi_X5_free ml_X5_144 (c_free Z.1 R1 W1 hc.1) dX5_await_75 rfl rfl (by assumption) rfl rfl ⟨by decide, by decide⟩ (by first | decide | (simp [cat_rf, cat_ref, cat_int, cat_null]; done) | (simp [cat_rf, cat_ref, cat_int, cat_null, Value.category]; done)) ⟨by decide, by decide⟩ (fun _ _ hq => hq.elim) ?_
        rintro _ g' ⟨rfl, R2⟩
        have f2 := R2.copy (i := c) hc.1
        refine V_aload hZ dX5_await_78 rfl (by first | rfl | exact isR_rf _) ?_
        refine V_getfield hZ fl_X5_259 dX5_await_80 (by assumption) (by rfl) ?_
        refine V_iret hZ hE rfl (by rfl) dX5_await_83 (by decide) (by decide) ?_
        rw [awaitN, awaitS, hz]
        exact ⟨rfl, R2⟩
    · exact absurd (by simp [b01, h2]) c2
theorem t_await (R : Rep S h) (W : Wf S) {x i : Nat} (hx : x < nRd S) (hi : i < nRc S) (h1 : x ∈ lin S (live S i) ∨ ¬ fN (hasB S x (live S i)) 30 0 = none) : Calls G yX5_await cX5_await 6 (.some .int) 7 112 1 6 [.ref (aH S), .int (nI x), .int (nI i)] h qF (qT eIS h) := by
  have h4 := R.hall
  have hr := live_lt W hi
  have h5 := R.rec hi
  have h6 := R.rec hr
  have h7 := R.line hr
  refine Calls_of1 (by decide +kernel) (by simp [cat_rf, cat_ref, cat_int, cat_null]) (by simp) (lv0 := [some (.ref (aH S)), some (.int (nI x)), some (.int (nI i)), none, none, none]) rfl ?_
  intro Z hG hZ hE hN
  subst hG
  refine V_aload_n hZ 0 dX5_await_0 rfl rfl (by first | rfl | exact isR_rf _) ?_
  refine V_iload_n hZ 1 dX5_await_1 rfl rfl ?_
  refine V_invVp hZ me_X5_knownReader mi_X5_knownReader ml_X5_164 (c_knownReader Z.1 R W hx) dX5_await_2 rfl rfl (by assumption) rfl rfl ⟨by decide, by decide⟩ (by first | decide | (simp [cat_rf, cat_ref, cat_int, cat_null]; done) | (simp [cat_rf, cat_ref, cat_int, cat_null, Value.category]; done)) ⟨by decide, by decide⟩ ?_
  refine V_astore_n hZ 3 rfl dX5_await_5 (by first | rfl | exact isR_rf _) (by decide) (by first | rfl | simp [okp, cat_rf, cat_ref, cat_int, cat_null]) ?_
  refine V.lvc (by simp only [List.set_cons_zero, List.set_cons_succ, Nat.reduceAdd]; rfl) ?_
  refine V_aload_n hZ 0 dX5_await_6 rfl rfl (by first | rfl | exact isR_rf _) ?_
  refine V_iload_n hZ 2 dX5_await_7 rfl rfl ?_
  refine V_invVp hZ me_X5_knownRecord mi_X5_knownRecord ml_X5_83 (c_knownRecord Z.1 R W hi) dX5_await_8 rfl rfl (by assumption) rfl rfl ⟨by decide, by decide⟩ (by first | decide | (simp [cat_rf, cat_ref, cat_int, cat_null]; done) | (simp [cat_rf, cat_ref, cat_int, cat_null, Value.category]; done)) ⟨by decide, by decide⟩ ?_
  refine V_invVp hZ me_X0_liveOne mi_X0_liveOne ml_X5_95 (c_liveOne Z.1 R W hi) dX5_await_11 rfl rfl (by assumption) rfl rfl ⟨by decide, by decide⟩ (by first | decide | (simp [cat_rf, cat_ref, cat_int, cat_null]; done) | (simp [cat_rf, cat_ref, cat_int, cat_null, Value.category]; done)) ⟨by decide, by decide⟩ ?_
  refine V_astore hZ dX5_await_14 (by first | rfl | exact isR_rf _) (by decide) (by first | rfl | simp [okp, cat_rf, cat_ref, cat_int, cat_null]) ?_
  refine V.lvc (by simp only [List.set_cons_zero, List.set_cons_succ, Nat.reduceAdd]; rfl) ?_
  refine V_aload hZ dX5_await_16 rfl (by first | rfl | exact isR_rf _) ?_
  refine V_getfield hZ fl_X5_235 dX5_await_18 (by assumption) (by rfl) ?_
  refine V_aload_n hZ 3 dX5_await_21 rfl rfl (by first | rfl | exact isR_rf _) ?_
  refine V_invVp hZ me_X4_holds mi_X4_holds ml_X5_239 (c_holdsS Z.1 R W hr (o := some x) (fun y hy => by cases hy; exact hx)) dX5_await_22 rfl rfl (by assumption) rfl rfl ⟨by decide, by decide⟩ (by first | decide | (simp [cat_rf, cat_ref, cat_int, cat_null]; done) | (simp [cat_rf, cat_ref, cat_int, cat_null, Value.category]; done)) ⟨by decide, by decide⟩ ?_
  refine V_if_ne (tgt := 38) hZ dX5_await_25 (by decide) (fun c1 => ?_) (fun c1 => ?_)
  · refine V_throw hZ hE hN tw_37_249_41 dX5_await_38 dX5_await_41 dX5_await_42 dX5_await_44 dX5_await_47 (by decide) (by first | decide | (simp [cat_rf, cat_ref, cat_int, cat_null]; done) | (simp [cat_rf, cat_ref, cat_int, cat_null, Value.category]; done)) (by decide) (by decide) ?_
    exact ⟨rfl, rfl⟩
  · have h8 : ¬ fN (hasB S x (live S i)) 30 0 = none := h1.resolve_left (fun z => b01_z c1 (by simp [holdsB]; exact z))
    refine V_aload_n hZ 0 dX5_await_28 rfl rfl (by first | rfl | exact isR_rf _) ?_
    refine V_aload_n hZ 3 dX5_await_29 rfl rfl (by first | rfl | exact isR_rf _) ?_
    refine V_aload hZ dX5_await_30 rfl (by first | rfl | exact isR_rf _) ?_
    refine V_invVp hZ me_X5_hasCopyOf mi_X5_hasCopyOf ml_X5_245 (c_hasCopyOf Z.1 R W hx hr) dX5_await_32 rfl rfl (by assumption) rfl rfl ⟨by decide, by decide⟩ (by first | decide | (simp [cat_rf, cat_ref, cat_int, cat_null]; done) | (simp [cat_rf, cat_ref, cat_int, cat_null, Value.category]; done)) ⟨by decide, by decide⟩ ?_
    refine V_if_eq (tgt := 48) hZ dX5_await_35 (by decide) (fun c2 => ?_) (fun c2 => ?_)
    · cases hz : fN (hasB S x (live S i)) 30 0 with
      | none => exact absurd hz h8
      | some d => exact absurd c2 (by simp [b01, hz])
    · refine V_throw hZ hE hN tw_37_249_41 dX5_await_38 dX5_await_41 dX5_await_42 dX5_await_44 dX5_await_47 (by decide) (by first | decide | (simp [cat_rf, cat_ref, cat_int, cat_null]; done) | (simp [cat_rf, cat_ref, cat_int, cat_null, Value.category]; done)) (by decide) (by decide) ?_
      exact ⟨rfl, rfl⟩
theorem t_awaitI (R : Rep S h) (W : Wf S) {x : Nat} {p : Int32} (hx : x < nRd S) (hp : ∀ i, i < nRc S → p ≠ nI i) : Calls G yX5_await cX5_await 6 (.some .int) 7 112 1 6 [.ref (aH S), .int (nI x), .int p] h qF (qT eIO h) := by
  have h4 := R.hall
  refine Calls_of1 (by decide +kernel) (by simp [cat_rf, cat_ref, cat_int, cat_null]) (by simp) (lv0 := [some (.ref (aH S)), some (.int (nI x)), some (.int p), none, none, none]) rfl ?_
  intro Z hG hZ hE hN
  subst hG
  refine V_aload_n hZ 0 dX5_await_0 rfl rfl (by first | rfl | exact isR_rf _) ?_
  refine V_iload_n hZ 1 dX5_await_1 rfl rfl ?_
  refine V_invVp hZ me_X5_knownReader mi_X5_knownReader ml_X5_164 (c_knownReader Z.1 R W hx) dX5_await_2 rfl rfl (by assumption) rfl rfl ⟨by decide, by decide⟩ (by first | decide | (simp [cat_rf, cat_ref, cat_int, cat_null]; done) | (simp [cat_rf, cat_ref, cat_int, cat_null, Value.category]; done)) ⟨by decide, by decide⟩ ?_
  refine V_astore_n hZ 3 rfl dX5_await_5 (by first | rfl | exact isR_rf _) (by decide) (by first | rfl | simp [okp, cat_rf, cat_ref, cat_int, cat_null]) ?_
  refine V.lvc (by simp only [List.set_cons_zero, List.set_cons_succ, Nat.reduceAdd]; rfl) ?_
  refine V_aload_n hZ 0 dX5_await_6 rfl rfl (by first | rfl | exact isR_rf _) ?_
  refine V_iload_n hZ 2 dX5_await_7 rfl rfl ?_
  refine V_invV hZ me_X5_knownRecord mi_X5_knownRecord ml_X5_83 (t_knownRecord Z.1 R hp) dX5_await_8 rfl rfl (by assumption) rfl rfl ⟨by decide, by decide⟩ (by first | decide | (simp [cat_rf, cat_ref, cat_int, cat_null]; done) | (simp [cat_rf, cat_ref, cat_int, cat_null, Value.category]; done)) ⟨by decide, by decide⟩ (fun _ _ hq => ?_) (fun _ _ hq => hq.elim)
  obtain ⟨rfl, rfl⟩ := hq
  exact VX_out hZ hE hN (by decide) (by decide) ⟨rfl, rfl⟩
theorem c_leave (R : Rep S h) (W : Wf S) {x i : Nat} (hx : x < nRd S) (hi : i < nRc S) (h1 : x ∈ lin S (live S i)) : Calls G yX5_leave cX5_leave 5 (.some .int) 7 121 0 0 [.ref (aH S), .int (nI x), .int (nI i)] h (fun v h' => v = some (.int (nI (lin (endS S x (live S i)) (live S i)).length)) ∧ Rep (endS S x (live S i)) h') qX := by
  have h4 := R.hall
  have hr := live_lt W hi
  have h5 := R.rec hi
  have h6 := R.rec hr
  have h7 := R.line hr
  refine Calls_of1 (by decide +kernel) (by simp [cat_rf, cat_ref, cat_int, cat_null]) (by simp) (lv0 := [some (.ref (aH S)), some (.int (nI x)), some (.int (nI i)), none, none]) rfl ?_
  intro Z hG hZ hE hN
  subst hG
  refine V_aload_n hZ 0 dX5_leave_0 rfl rfl (by first | rfl | exact isR_rf _) ?_
  refine V_iload_n hZ 1 dX5_leave_1 rfl rfl ?_
  refine V_invVp hZ me_X5_knownReader mi_X5_knownReader ml_X5_164 (c_knownReader Z.1 R W hx) dX5_leave_2 rfl rfl (by assumption) rfl rfl ⟨by decide, by decide⟩ (by first | decide | (simp [cat_rf, cat_ref, cat_int, cat_null]; done) | (simp [cat_rf, cat_ref, cat_int, cat_null, Value.category]; done)) ⟨by decide, by decide⟩ ?_
  refine V_astore_n hZ 3 rfl dX5_leave_5 (by first | rfl | exact isR_rf _) (by decide) (by first | rfl | simp [okp, cat_rf, cat_ref, cat_int, cat_null]) ?_
  refine V.lvc (by simp only [List.set_cons_zero, List.set_cons_succ, Nat.reduceAdd]; rfl) ?_
  refine V_aload_n hZ 0 dX5_leave_6 rfl rfl (by first | rfl | exact isR_rf _) ?_
  refine V_iload_n hZ 2 dX5_leave_7 rfl rfl ?_
  refine V_invVp hZ me_X5_knownRecord mi_X5_knownRecord ml_X5_83 (c_knownRecord Z.1 R W hi) dX5_leave_8 rfl rfl (by assumption) rfl rfl ⟨by decide, by decide⟩ (by first | decide | (simp [cat_rf, cat_ref, cat_int, cat_null]; done) | (simp [cat_rf, cat_ref, cat_int, cat_null, Value.category]; done)) ⟨by decide, by decide⟩ ?_
  refine V_invVp hZ me_X0_liveOne mi_X0_liveOne ml_X5_95 (c_liveOne Z.1 R W hi) dX5_leave_11 rfl rfl (by assumption) rfl rfl ⟨by decide, by decide⟩ (by first | decide | (simp [cat_rf, cat_ref, cat_int, cat_null]; done) | (simp [cat_rf, cat_ref, cat_int, cat_null, Value.category]; done)) ⟨by decide, by decide⟩ ?_
  refine V_astore hZ dX5_leave_14 (by first | rfl | exact isR_rf _) (by decide) (by first | rfl | simp [okp, cat_rf, cat_ref, cat_int, cat_null]) ?_
  refine V.lvc (by simp only [List.set_cons_zero, List.set_cons_succ, Nat.reduceAdd]; rfl) ?_
  refine V_aload hZ dX5_leave_16 rfl (by first | rfl | exact isR_rf _) ?_
  refine V_getfield hZ fl_X5_235 dX5_leave_18 (by assumption) (by rfl) ?_
  refine V_aload_n hZ 3 dX5_leave_21 rfl rfl (by first | rfl | exact isR_rf _) ?_
  refine V_invVp hZ me_X4_holds mi_X4_holds ml_X5_239 (c_holdsS Z.1 R W hr (o := some x) (fun y hy => by cases hy; exact hx)) dX5_leave_22 rfl rfl (by assumption) rfl rfl ⟨by decide, by decide⟩ (by first | decide | (simp [cat_rf, cat_ref, cat_int, cat_null]; done) | (simp [cat_rf, cat_ref, cat_int, cat_null, Value.category]; done)) ⟨by decide, by decide⟩ ?_
  refine V_if_ne (tgt := 39) hZ dX5_leave_25 (by decide) (fun c1 => ?_) (fun c1 => ?_)
  · refine V_aload_n hZ 0 dX5_leave_39 rfl rfl (by first | rfl | exact isR_rf _) ?_
    refine V_aload_n hZ 3 dX5_leave_40 rfl rfl (by first | rfl | exact isR_rf _) ?_
    refine V_aload hZ dX5_leave_41 rfl (by first | rfl | exact isR_rf _) ?_
    refine V_invV hZ me_X5_endWait mi_X5_endWait ml_X5_195 (c_endWait Z.1 R W hx hr) dX5_leave_43 rfl rfl (by assumption) rfl rfl ⟨by decide, by decide⟩ (by first | decide | (simp [cat_rf, cat_ref, cat_int, cat_null]; done) | (simp [cat_rf, cat_ref, cat_int, cat_null, Value.category]; done)) ⟨by decide, by decide⟩ (fun _ _ hq => hq.elim) ?_
    rintro _ g' ⟨rfl, R2⟩
    have hs := same5_end (S := S) (x := x) (r := live S i)
    generalize hT : endS S x (live S i) = T at R2 hs
    have hr2 : live S i < nRc T := by rw [nRc_same hs]; exact hr
    have f1 := R2.rec hr2
    rw [adR_same hs] at f1
    have f2 := R2.line hr2
    refine V_aload hZ dX5_leave_46 rfl (by first | rfl | exact isR_rf _) ?_
    refine V_getfield hZ fl_X5_235 dX5_leave_48 (by assumption) (by rfl) ?_
    refine V_getfield hZ fl_X5_262.r dX5_leave_51 (by assumption) (by rfl) ?_
    refine V_iret hZ hE rfl (by rfl) dX5_leave_54 (by decide) (by decide) ?_
    rw [hT]
    exact ⟨rfl, R2⟩
  · exact absurd (by simp [holdsB]; exact h1) (b01_z c1)
theorem t_leave (R : Rep S h) (W : Wf S) {x i : Nat} (hx : x < nRd S) (hi : i < nRc S) (h1 : x ∉ lin S (live S i)) : Calls G yX5_leave cX5_leave 5 (.some .int) 7 121 1 6 [.ref (aH S), .int (nI x), .int (nI i)] h qF (qT eIS h) := by
  have h4 := R.hall
  have hr := live_lt W hi
  have h5 := R.rec hi
  have h6 := R.rec hr
  have h7 := R.line hr
  refine Calls_of1 (by decide +kernel) (by simp [cat_rf, cat_ref, cat_int, cat_null]) (by simp) (lv0 := [some (.ref (aH S)), some (.int (nI x)), some (.int (nI i)), none, none]) rfl ?_
  intro Z hG hZ hE hN
  subst hG
  refine V_aload_n hZ 0 dX5_leave_0 rfl rfl (by first | rfl | exact isR_rf _) ?_
  refine V_iload_n hZ 1 dX5_leave_1 rfl rfl ?_
  refine V_invVp hZ me_X5_knownReader mi_X5_knownReader ml_X5_164 (c_knownReader Z.1 R W hx) dX5_leave_2 rfl rfl (by assumption) rfl rfl ⟨by decide, by decide⟩ (by first | decide | (simp [cat_rf, cat_ref, cat_int, cat_null]; done) | (simp [cat_rf, cat_ref, cat_int, cat_null, Value.category]; done)) ⟨by decide, by decide⟩ ?_
  refine V_astore_n hZ 3 rfl dX5_leave_5 (by first | rfl | exact isR_rf _) (by decide) (by first | rfl | simp [okp, cat_rf, cat_ref, cat_int, cat_null]) ?_
  refine V.lvc (by simp only [List.set_cons_zero, List.set_cons_succ, Nat.reduceAdd]; rfl) ?_
  refine V_aload_n hZ 0 dX5_leave_6 rfl rfl (by first | rfl | exact isR_rf _) ?_
  refine V_iload_n hZ 2 dX5_leave_7 rfl rfl ?_
  refine V_invVp hZ me_X5_knownRecord mi_X5_knownRecord ml_X5_83 (c_knownRecord Z.1 R W hi) dX5_leave_8 rfl rfl (by assumption) rfl rfl ⟨by decide, by decide⟩ (by first | decide | (simp [cat_rf, cat_ref, cat_int, cat_null]; done) | (simp [cat_rf, cat_ref, cat_int, cat_null, Value.category]; done)) ⟨by decide, by decide⟩ ?_
  refine V_invVp hZ me_X0_liveOne mi_X0_liveOne ml_X5_95 (c_liveOne Z.1 R W hi) dX5_leave_11 rfl rfl (by assumption) rfl rfl ⟨by decide, by decide⟩ (by first | decide | (simp [cat_rf, cat_ref, cat_int, cat_null]; done) | (simp [cat_rf, cat_ref, cat_int, cat_null, Value.category]; done)) ⟨by decide, by decide⟩ ?_
  refine V_astore hZ dX5_leave_14 (by first | rfl | exact isR_rf _) (by decide) (by first | rfl | simp [okp, cat_rf, cat_ref, cat_int, cat_null]) ?_
  refine V.lvc (by simp only [List.set_cons_zero, List.set_cons_succ, Nat.reduceAdd]; rfl) ?_
  refine V_aload hZ dX5_leave_16 rfl (by first | rfl | exact isR_rf _) ?_
  refine V_getfield hZ fl_X5_235 dX5_leave_18 (by assumption) (by rfl) ?_
  refine V_aload_n hZ 3 dX5_leave_21 rfl rfl (by first | rfl | exact isR_rf _) ?_
  refine V_invVp hZ me_X4_holds mi_X4_holds ml_X5_239 (c_holdsS Z.1 R W hr (o := some x) (fun y hy => by cases hy; exact hx)) dX5_leave_22 rfl rfl (by assumption) rfl rfl ⟨by decide, by decide⟩ (by first | decide | (simp [cat_rf, cat_ref, cat_int, cat_null]; done) | (simp [cat_rf, cat_ref, cat_int, cat_null, Value.category]; done)) ⟨by decide, by decide⟩ ?_
  refine V_if_ne (tgt := 39) hZ dX5_leave_25 (by decide) (fun c1 => ?_) (fun c1 => ?_)
  · exact absurd (b01_nz c1) (by simp [holdsB]; exact h1)
  · refine V_throwW hZ hE hN tw_37_260_41 dX5_leave_28 dX5_leave_31 dX5_leave_32 dX5_leave_35 dX5_leave_38 (by decide) (by first | decide | (simp [cat_rf, cat_ref, cat_int, cat_null]; done) | (simp [cat_rf, cat_ref, cat_int, cat_null, Value.category]; done)) (by decide) (by decide) ?_
    exact ⟨rfl, rfl⟩
theorem t_leaveI (R : Rep S h) (W : Wf S) {x : Nat} {p : Int32} (hx : x < nRd S) (hp : ∀ i, i < nRc S → p ≠ nI i) : Calls G yX5_leave cX5_leave 5 (.some .int) 7 121 1 6 [.ref (aH S), .int (nI x), .int p] h qF (qT eIO h) := by
  have h4 := R.hall
  refine Calls_of1 (by decide +kernel) (by simp [cat_rf, cat_ref, cat_int, cat_null]) (by simp) (lv0 := [some (.ref (aH S)), some (.int (nI x)), some (.int p), none, none]) rfl ?_
  intro Z hG hZ hE hN
  subst hG
  refine V_aload_n hZ 0 dX5_leave_0 rfl rfl (by first | rfl | exact isR_rf _) ?_
  refine V_iload_n hZ 1 dX5_leave_1 rfl rfl ?_
  refine V_invVp hZ me_X5_knownReader mi_X5_knownReader ml_X5_164 (c_knownReader Z.1 R W hx) dX5_leave_2 rfl rfl (by assumption) rfl rfl ⟨by decide, by decide⟩ (by first | decide | (simp [cat_rf, cat_ref, cat_int, cat_null]; done) | (simp [cat_rf, cat_ref, cat_int, cat_null, Value.category]; done)) ⟨by decide, by decide⟩ ?_
  refine V_astore_n hZ 3 rfl dX5_leave_5 (by first | rfl | exact isR_rf _) (by decide) (by first | rfl | simp [okp, cat_rf, cat_ref, cat_int, cat_null]) ?_
  refine V.lvc (by simp only [List.set_cons_zero, List.set_cons_succ, Nat.reduceAdd]; rfl) ?_
  refine V_aload_n hZ 0 dX5_leave_6 rfl rfl (by first | rfl | exact isR_rf _) ?_
  refine V_iload_n hZ 2 dX5_leave_7 rfl rfl ?_
  refine V_invV hZ me_X5_knownRecord mi_X5_knownRecord ml_X5_83 (t_knownRecord Z.1 R hp) dX5_leave_8 rfl rfl (by assumption) rfl rfl ⟨by decide, by decide⟩ (by first | decide | (simp [cat_rf, cat_ref, cat_int, cat_null]; done) | (simp [cat_rf, cat_ref, cat_int, cat_null, Value.category]; done)) ⟨by decide, by decide⟩ (fun _ _ hq => ?_) (fun _ _ hq => hq.elim)
  obtain ⟨rfl, rfl⟩ := hq
  exact VX_out hZ hE hN (by decide) (by decide) ⟨rfl, rfl⟩
end

