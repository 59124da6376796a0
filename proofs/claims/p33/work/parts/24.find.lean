/-! more counts; the first one that .. -/
def fN (P : Nat → Bool) : Nat → Nat → Option Nat
  | 0, _ => none
  | m + 1, c => if P c = true then some c else fN P m (c + 1)
theorem fN_t {P : Nat → Bool} {m c : Nat} (h : P c = true) : fN P (m + 1) c = some c := by simp [fN, h]
theorem fN_f {P : Nat → Bool} {m c : Nat} (h : P c = false) : fN P (m + 1) c = fN P m (c + 1) := by simp [fN, h]
theorem W_lin {S : St} (W : Wf S) {i : Nat} (hi : i < nRc S) : (lin S i).length ≤ 8 ∧ ∀ x ∈ lin S i, x < nRd S := ⟨(W.2.2.2.2.2.1 i hi).1, (W.2.2.2.2.2.1 i hi).2.1⟩
theorem W_nod {S : St} (W : Wf S) {i : Nat} (hi : i < nRc S) : (lin S i).Nodup := (W.2.2.2.2.2.1 i hi).2.2
theorem linInj {S : St} {h : HP} (R : Rep S h) (W : Wf S) {i : Nat} (hi : i < nRc S) {o : Option Nat} (ho : ∀ x, o = some x → x < nRd S) : ∀ x ∈ lin S i, ∀ r, o = some r → adD S x = adD S r → x = r := fun x hx r hr he => R.rdrInj W ((W_lin W hi).2 x hx) (ho r hr) he
section
variable (G : GC) {h : HP} {S : St} (R : Rep S h) (W : Wf S)
theorem c_holdsS (R : Rep S h) (W : Wf S) {i : Nat} (hi : i < nRc S) {o : Option Nat} (ho : ∀ x, o = some x → x < nRd S) : Calls G yX4_holds cX4_holds 6 (.some .boolean) 0 0 0 0 [.ref (adL S i), va_rf (o.map (adD S))] h (qV (.int (b01 (holdsB o (lin S i) = true))) h) qX :=
  c_holds G h (R.line hi) (R.row hi) (W_lin W hi).1 o (linInj R W hi ho)
def waitsB (S : St) (r : Nat) (c : Nat) : Bool := decide (c < nRc S) && (lin S c).contains r
theorem c_waitsOf (R : Rep S h) (W : Wf S) {r : Nat} (hr : r < nRd S) : Calls G yX5_waitsOf cX5_waitsOf 7 (.some .int) 1 25 0 0 [.ref (aH S), .ref (adD S r)] h (qV (.int (nI (cn (waitsB S r) 20))) h) qX := by
  have h1 := R.hall
  have h2 := R.records
  refine Calls_of1 (by decide +kernel) (by simp [cat_rf, cat_ref, cat_int, cat_null]) (by simp) (lv0 := [some (.ref (aH S)), some (.ref (adD S r)), none, none, none, none, none]) rfl ?_
  intro Z hG hZ hE hN
  subst hG
  refine V_iconst (v := 0) hZ dX5_waitsOf_0 (by decide) ?_
  refine V_istore_n hZ 2 rfl dX5_waitsOf_1 (by decide) (by first | rfl | simp [okp, cat_rf, cat_ref, cat_int, cat_null]) ?_
  refine V.lvc (by simp only [List.set_cons_zero, List.set_cons_succ, Nat.reduceAdd]; rfl) ?_
  refine V_aload_n hZ 0 dX5_waitsOf_2 rfl rfl (by first | rfl | exact isR_rf _) ?_
  refine V_getfield hZ fl_X5_17.r dX5_waitsOf_3 (by assumption) (by rfl) ?_
  refine V_astore_n hZ 3 rfl dX5_waitsOf_6 (by first | rfl | exact isR_rf _) (by decide) (by first | rfl | simp [okp, cat_rf, cat_ref, cat_int, cat_null]) ?_
  refine V.lvc (by simp only [List.set_cons_zero, List.set_cons_succ, Nat.reduceAdd]; rfl) ?_
  refine V_aload_n hZ 3 dX5_waitsOf_7 rfl rfl (by first | rfl | exact isR_rf _) ?_
  refine V_alenR hZ dX5_waitsOf_8 (by assumption) ?_
  refine V_istore hZ dX5_waitsOf_9 (by decide) (by first | rfl | simp [okp, cat_rf, cat_ref, cat_int, cat_null]) ?_
  refine V.lvc (by simp only [List.set_cons_zero, List.set_cons_succ, Nat.reduceAdd]; rfl) ?_
  refine V_iconst (v := 0) hZ dX5_waitsOf_11 (by decide) ?_
  refine V_istore hZ dX5_waitsOf_12 (by decide) (by first | rfl | simp [okp, cat_rf, cat_ref, cat_int, cat_null]) ?_
  refine V.lvc (by simp only [List.set_cons_zero, List.set_cons_succ, Nat.reduceAdd]; rfl) ?_
  have key : ∀ m c, c + m = 20 → ∀ w, V Z 14 [some (.ref (aH S)), some (.ref (adD S r)), some (.int (nI (cn (waitsB S r) c))), some (.ref (aRs S)), some (.int (nI 20)), some (.int (nI c)), w] [] h 0 0 := by
    intro m
    induction m with
    | zero =>
      intro c hcm  w
      have hc : c = 20 := by omega
      subst hc
      refine V_iload hZ dX5_waitsOf_14 rfl ?_
      refine V_iload hZ dX5_waitsOf_16 rfl ?_
      refine V_icmp_ge (tgt := 53) hZ dX5_waitsOf_18 (by decide) (fun cE => ?_) (fun cE => ?_)
      · refine V_iload_n hZ 2 dX5_waitsOf_53 rfl rfl ?_
        refine V_iret hZ hE rfl (by rfl) dX5_waitsOf_54 (by decide) (by decide) ?_
        exact ⟨rfl, rfl⟩
      · exact absurd (by decide) cE
    | succ m ih =>
      intro c hcm  w
      have hcN : c < 20 := by omega
      refine V_iload hZ dX5_waitsOf_14 rfl ?_
      refine V_iload hZ dX5_waitsOf_16 rfl ?_
      refine V_icmp_ge (tgt := 53) hZ dX5_waitsOf_18 (by decide) (fun cE => ?_) (fun cE => ?_)
      · have cE2 : 20 ≤ c := (nI_leI (a := 20) (by decide) (by omega)).mp cE
        omega
      · refine V_aload_n hZ 3 dX5_waitsOf_21 rfl rfl (by first | rfl | exact isR_rf _) ?_
        refine V_iload hZ dX5_waitsOf_22 rfl ?_
        by_cases hi : c < nRc S
        · refine V_aaldn hZ dX5_waitsOf_24 (by assumption) hcN (by decide) (v := .ref (adR S c)) (rowf_lt hi) ?_
          refine V_astore hZ dX5_waitsOf_25 (by first | rfl | exact isR_rf _) (by decide) (by first | rfl | simp [okp, cat_rf, cat_ref, cat_int, cat_null]) ?_
          refine V.lvc (by simp only [List.set_cons_zero, List.set_cons_succ, Nat.reduceAdd]; rfl) ?_
          refine V_aload hZ dX5_waitsOf_27 rfl (by first | rfl | exact isR_rf _) ?_
          refine V_ifnullR hZ dX5_waitsOf_29 ?_
          have h3 := R.rec hi
          have h4 := R.line hi
          refine V_aload hZ dX5_waitsOf_32 rfl (by first | rfl | exact isR_rf _) ?_
          refine V_getfield hZ fl_X5_235 dX5_waitsOf_34 (by assumption) (by rfl) ?_
          refine V_aload_n hZ 1 dX5_waitsOf_37 rfl rfl (by first | rfl | exact isR_rf _) ?_
          refine V_invVp hZ me_X4_holds mi_X4_holds ml_X5_239 (c_holdsS Z.1 R W hi (o := some r) (fun x hx => by cases hx; exact hr)) dX5_waitsOf_38 rfl rfl (by assumption) rfl rfl ⟨by decide, by decide⟩ (by first | decide | simp [cat_rf, cat_ref, cat_int, cat_null]) ⟨by decide, by decide⟩ ?_
          refine V_if_eq (tgt := 47) hZ dX5_waitsOf_41 (by decide) (fun c1 => ?_) (fun c1 => ?_)
          · refine V_iincv hZ dX5_waitsOf_47 rfl (by decide) (by first | rfl | simp [okp, cat_rf, cat_ref, cat_int, cat_null]) (by first | exact nI_inc _ | rfl) ?_
            refine V.lvc (by simp only [List.set_cons_zero, List.set_cons_succ, Nat.reduceAdd]; rfl) ?_
            refine V_goto (tgt := 14) hZ dX5_waitsOf_50 (by decide) ?_
            have e := ih (c + 1) (by omega) (some (.ref (adR S c)))
            have c2 : (lin S c).contains r = false := by
              cases hz : (lin S c).contains r
              · rfl
              · exact absurd c1 (by simp [b01, holdsB] at hz ⊢; exact hz)
            rw [cn_f (by simp only [waitsB, c2, Bool.and_false])] at e
            exact e
          · refine V_iincv hZ dX5_waitsOf_44 rfl (by decide) (by first | rfl | simp [okp, cat_rf, cat_ref, cat_int, cat_null]) (by first | exact nI_inc _ | rfl) ?_
            refine V.lvc (by simp only [List.set_cons_zero, List.set_cons_succ, Nat.reduceAdd]; rfl) ?_
            refine V_iincv hZ dX5_waitsOf_47 rfl (by decide) (by first | rfl | simp [okp, cat_rf, cat_ref, cat_int, cat_null]) (by first | exact nI_inc _ | rfl) ?_
            refine V.lvc (by simp only [List.set_cons_zero, List.set_cons_succ, Nat.reduceAdd]; rfl) ?_
            refine V_goto (tgt := 14) hZ dX5_waitsOf_50 (by decide) ?_
            have e := ih (c + 1) (by omega) (some (.ref (adR S c)))
            have c2 : (lin S c).contains r = true := by
              cases hz : (lin S c).contains r
              · exact absurd (by simp [b01, holdsB] at hz ⊢; exact hz) c1
              · rfl
            rw [cn_t (by simp only [waitsB, c2, hi, decide_true, Bool.and_self])] at e
            exact e
        · refine V_aaldn hZ dX5_waitsOf_24 (by assumption) hcN (by decide) (v := .null) (rowf_ge hi) ?_
          refine V_astore hZ dX5_waitsOf_25 (by first | rfl | exact isR_rf _) (by decide) (by first | rfl | simp [okp, cat_rf, cat_ref, cat_int, cat_null]) ?_
          refine V.lvc (by simp only [List.set_cons_zero, List.set_cons_succ, Nat.reduceAdd]; rfl) ?_
          refine V_aload hZ dX5_waitsOf_27 rfl (by first | rfl | exact isR_rf _) ?_
          refine V_ifnullN (tgt := 47) hZ dX5_waitsOf_29 (by decide) ?_
          refine V_iincv hZ dX5_waitsOf_47 rfl (by decide) (by first | rfl | simp [okp, cat_rf, cat_ref, cat_int, cat_null]) (by first | exact nI_inc _ | rfl) ?_
          refine V.lvc (by simp only [List.set_cons_zero, List.set_cons_succ, Nat.reduceAdd]; rfl) ?_
          refine V_goto (tgt := 14) hZ dX5_waitsOf_50 (by decide) ?_
          have e := ih (c + 1) (by omega) (some .null)
          rw [cn_f (by simp [waitsB, hi])] at e
          exact e
  exact key 20 0 rfl none
def liveB (S : St) (c : Nat) : Bool := decide (c < nRc S ∧ rcWe (rcs S c) = none)
theorem c_liveRecords (R : Rep S h) : Calls G yX5_liveRecords cX5_liveRecords 6 (.some .int) 1 20 0 0 [.ref (aH S)] h (qV (.int (nI (cn (liveB S) 20))) h) qX := by
  have h1 := R.hall
  have h2 := R.records
  refine Calls_of1 (by decide +kernel) (by simp [cat_rf, cat_ref, cat_int, cat_null]) (by simp) (lv0 := [some (.ref (aH S)), none, none, none, none, none]) rfl ?_
  intro Z hG hZ hE hN
  subst hG
  refine V_iconst (v := 0) hZ dX5_liveRecords_0 (by decide) ?_
  refine V_istore_n hZ 1 rfl dX5_liveRecords_1 (by decide) (by first | rfl | simp [okp, cat_rf, cat_ref, cat_int, cat_null]) ?_
  refine V.lvc (by simp only [List.set_cons_zero, List.set_cons_succ, Nat.reduceAdd]; rfl) ?_
  refine V_aload_n hZ 0 dX5_liveRecords_2 rfl rfl (by first | rfl | exact isR_rf _) ?_
  refine V_getfield hZ fl_X5_17.r dX5_liveRecords_3 (by assumption) (by rfl) ?_
  refine V_astore_n hZ 2 rfl dX5_liveRecords_6 (by first | rfl | exact isR_rf _) (by decide) (by first | rfl | simp [okp, cat_rf, cat_ref, cat_int, cat_null]) ?_
  refine V.lvc (by simp only [List.set_cons_zero, List.set_cons_succ, Nat.reduceAdd]; rfl) ?_
  refine V_aload_n hZ 2 dX5_liveRecords_7 rfl rfl (by first | rfl | exact isR_rf _) ?_
  refine V_alenR hZ dX5_liveRecords_8 (by assumption) ?_
  refine V_istore_n hZ 3 rfl dX5_liveRecords_9 (by decide) (by first | rfl | simp [okp, cat_rf, cat_ref, cat_int, cat_null]) ?_
  refine V.lvc (by simp only [List.set_cons_zero, List.set_cons_succ, Nat.reduceAdd]; rfl) ?_
  refine V_iconst (v := 0) hZ dX5_liveRecords_10 (by decide) ?_
  refine V_istore hZ dX5_liveRecords_11 (by decide) (by first | rfl | simp [okp, cat_rf, cat_ref, cat_int, cat_null]) ?_
  refine V.lvc (by simp only [List.set_cons_zero, List.set_cons_succ, Nat.reduceAdd]; rfl) ?_
  have key : ∀ m c, c + m = 20 → ∀ w, V Z 13 [some (.ref (aH S)), some (.int (nI (cn (liveB S) c))), some (.ref (aRs S)), some (.int (nI 20)), some (.int (nI c)), w] [] h 0 0 := by
    intro m
    induction m with
    | zero =>
      intro c hcm  w
      have hc : c = 20 := by omega
      subst hc
      refine V_iload hZ dX5_liveRecords_13 rfl ?_
      refine V_iload_n hZ 3 dX5_liveRecords_15 rfl rfl ?_
      refine V_icmp_ge (tgt := 47) hZ dX5_liveRecords_16 (by decide) (fun cE => ?_) (fun cE => ?_)
      · refine V_iload_n hZ 1 dX5_liveRecords_47 rfl rfl ?_
        refine V_iret hZ hE rfl (by rfl) dX5_liveRecords_48 (by decide) (by decide) ?_
        exact ⟨rfl, rfl⟩
      · exact absurd (by decide) cE
    | succ m ih =>
      intro c hcm  w
      have hcN : c < 20 := by omega
      refine V_iload hZ dX5_liveRecords_13 rfl ?_
      refine V_iload_n hZ 3 dX5_liveRecords_15 rfl rfl ?_
      refine V_icmp_ge (tgt := 47) hZ dX5_liveRecords_16 (by decide) (fun cE => ?_) (fun cE => ?_)
      · have cE2 : 20 ≤ c := (nI_leI (a := 20) (by decide) (by omega)).mp cE
        omega
      · refine V_aload_n hZ 2 dX5_liveRecords_19 rfl rfl (by first | rfl | exact isR_rf _) ?_
        refine V_iload hZ dX5_liveRecords_20 rfl ?_
        by_cases hi : c < nRc S
        · refine V_aaldn hZ dX5_liveRecords_22 (by assumption) hcN (by decide) (v := .ref (adR S c)) (rowf_lt hi) ?_
          refine V_astore hZ dX5_liveRecords_23 (by first | rfl | exact isR_rf _) (by decide) (by first | rfl | simp [okp, cat_rf, cat_ref, cat_int, cat_null]) ?_
          refine V.lvc (by simp only [List.set_cons_zero, List.set_cons_succ, Nat.reduceAdd]; rfl) ?_
          refine V_aload hZ dX5_liveRecords_25 rfl (by first | rfl | exact isR_rf _) ?_
          refine V_ifnullR hZ dX5_liveRecords_27 ?_
          have h3 := R.rec hi
          refine V_aload hZ dX5_liveRecords_30 rfl (by first | rfl | exact isR_rf _) ?_
          refine V_invVp hZ me_X0_isLive mi_X0_isLive ml_X5_99 (c_isLive Z.1 h h3) dX5_liveRecords_32 rfl rfl (by assumption) rfl rfl ⟨by decide, by decide⟩ (by first | decide | simp [cat_rf, cat_ref, cat_int, cat_null]) ⟨by decide, by decide⟩ ?_
          refine V_if_eq (tgt := 41) hZ dX5_liveRecords_35 (by decide) (fun c1 => ?_) (fun c1 => ?_)
          · refine V_iincv hZ dX5_liveRecords_41 rfl (by decide) (by first | rfl | simp [okp, cat_rf, cat_ref, cat_int, cat_null]) (by first | exact nI_inc _ | rfl) ?_
            refine V.lvc (by simp only [List.set_cons_zero, List.set_cons_succ, Nat.reduceAdd]; rfl) ?_
            refine V_goto (tgt := 13) hZ dX5_liveRecords_44 (by decide) ?_
            have e := ih (c + 1) (by omega) (some (.ref (adR S c)))
            have c2 : ¬ rcWe (rcs S c) = none := fun z => absurd c1 (by simp [b01, z])
            rw [cn_f (by simp [liveB, c2])] at e
            exact e
          · refine V_iincv hZ dX5_liveRecords_38 rfl (by decide) (by first | rfl | simp [okp, cat_rf, cat_ref, cat_int, cat_null]) (by first | exact nI_inc _ | rfl) ?_
            refine V.lvc (by simp only [List.set_cons_zero, List.set_cons_succ, Nat.reduceAdd]; rfl) ?_
            refine V_iincv hZ dX5_liveRecords_41 rfl (by decide) (by first | rfl | simp [okp, cat_rf, cat_ref, cat_int, cat_null]) (by first | exact nI_inc _ | rfl) ?_
            refine V.lvc (by simp only [List.set_cons_zero, List.set_cons_succ, Nat.reduceAdd]; rfl) ?_
            refine V_goto (tgt := 13) hZ dX5_liveRecords_44 (by decide) ?_
            have e := ih (c + 1) (by omega) (some (.ref (adR S c)))
            have c2 : rcWe (rcs S c) = none := by
              cases hz : rcWe (rcs S c) with
              | none => rfl
              | some x => exact absurd (by simp [b01, hz]) c1
            rw [cn_t (by simp [liveB, c2, hi])] at e
            exact e
        · refine V_aaldn hZ dX5_liveRecords_22 (by assumption) hcN (by decide) (v := .null) (rowf_ge hi) ?_
          refine V_astore hZ dX5_liveRecords_23 (by first | rfl | exact isR_rf _) (by decide) (by first | rfl | simp [okp, cat_rf, cat_ref, cat_int, cat_null]) ?_
          refine V.lvc (by simp only [List.set_cons_zero, List.set_cons_succ, Nat.reduceAdd]; rfl) ?_
          refine V_aload hZ dX5_liveRecords_25 rfl (by first | rfl | exact isR_rf _) ?_
          refine V_ifnullN (tgt := 41) hZ dX5_liveRecords_27 (by decide) ?_
          refine V_iincv hZ dX5_liveRecords_41 rfl (by decide) (by first | rfl | simp [okp, cat_rf, cat_ref, cat_int, cat_null]) (by first | exact nI_inc _ | rfl) ?_
          refine V.lvc (by simp only [List.set_cons_zero, List.set_cons_succ, Nat.reduceAdd]; rfl) ?_
          refine V_goto (tgt := 13) hZ dX5_liveRecords_44 (by decide) ?_
          have e := ih (c + 1) (by omega) (some .null)
          rw [cn_f (by simp [liveB, hi])] at e
          exact e
  exact key 20 0 rfl none
def owedF (S : St) (c : Nat) : Int32 := if c < nRd S then rdOw (rds S c) else 0
theorem c_owedByAll (R : Rep S h) : Calls G yX5_owedByAll cX5_owedByAll 6 (.some .int) 0 0 0 0 [.ref (aH S)] h (qV (.int (sm (owedF S) 8)) h) qX := by
  have h1 := R.hall
  have h2 := R.readers
  refine Calls_of1 (by decide +kernel) (by simp [cat_rf, cat_ref, cat_int, cat_null]) (by simp) (lv0 := [some (.ref (aH S)), none, none, none, none, none]) rfl ?_
  intro Z hG hZ hE hN
  subst hG
  refine V_iconst (v := 0) hZ dX5_owedByAll_0 (by decide) ?_
  refine V_istore_n hZ 1 rfl dX5_owedByAll_1 (by decide) (by first | rfl | simp [okp, cat_rf, cat_ref, cat_int, cat_null]) ?_
  refine V.lvc (by simp only [List.set_cons_zero, List.set_cons_succ, Nat.reduceAdd]; rfl) ?_
  refine V_aload_n hZ 0 dX5_owedByAll_2 rfl rfl (by first | rfl | exact isR_rf _) ?_
  refine V_getfield hZ fl_X5_29.r dX5_owedByAll_3 (by assumption) (by rfl) ?_
  refine V_astore_n hZ 2 rfl dX5_owedByAll_6 (by first | rfl | exact isR_rf _) (by decide) (by first | rfl | simp [okp, cat_rf, cat_ref, cat_int, cat_null]) ?_
  refine V.lvc (by simp only [List.set_cons_zero, List.set_cons_succ, Nat.reduceAdd]; rfl) ?_
  refine V_aload_n hZ 2 dX5_owedByAll_7 rfl rfl (by first | rfl | exact isR_rf _) ?_
  refine V_alenR hZ dX5_owedByAll_8 (by assumption) ?_
  refine V_istore_n hZ 3 rfl dX5_owedByAll_9 (by decide) (by first | rfl | simp [okp, cat_rf, cat_ref, cat_int, cat_null]) ?_
  refine V.lvc (by simp only [List.set_cons_zero, List.set_cons_succ, Nat.reduceAdd]; rfl) ?_
  refine V_iconst (v := 0) hZ dX5_owedByAll_10 (by decide) ?_
  refine V_istore hZ dX5_owedByAll_11 (by decide) (by first | rfl | simp [okp, cat_rf, cat_ref, cat_int, cat_null]) ?_
  refine V.lvc (by simp only [List.set_cons_zero, List.set_cons_succ, Nat.reduceAdd]; rfl) ?_
  have key : ∀ m c, c + m = 8 → ∀ w, V Z 13 [some (.ref (aH S)), some (.int (sm (owedF S) c)), some (.ref (aDs S)), some (.int (nI 8)), some (.int (nI c)), w] [] h 0 0 := by
    intro m
    induction m with
    | zero =>
      intro c hcm  w
      have hc : c = 8 := by omega
      subst hc
      refine V_iload hZ dX5_owedByAll_13 rfl ?_
      refine V_iload_n hZ 3 dX5_owedByAll_15 rfl rfl ?_
      refine V_icmp_ge (tgt := 44) hZ dX5_owedByAll_16 (by decide) (fun cE => ?_) (fun cE => ?_)
      · refine V_iload_n hZ 1 dX5_owedByAll_44 rfl rfl ?_
        refine V_iret hZ hE rfl (by rfl) dX5_owedByAll_45 (by decide) (by decide) ?_
        exact ⟨rfl, rfl⟩
      · exact absurd (by decide) cE
    | succ m ih =>
      intro c hcm  w
      have hcN : c < 8 := by omega
      refine V_iload hZ dX5_owedByAll_13 rfl ?_
      refine V_iload_n hZ 3 dX5_owedByAll_15 rfl rfl ?_
      refine V_icmp_ge (tgt := 44) hZ dX5_owedByAll_16 (by decide) (fun cE => ?_) (fun cE => ?_)
      · have cE2 : 8 ≤ c := (nI_leI (a := 8) (by decide) (by omega)).mp cE
        omega
      · refine V_aload_n hZ 2 dX5_owedByAll_19 rfl rfl (by first | rfl | exact isR_rf _) ?_
        refine V_iload hZ dX5_owedByAll_20 rfl ?_
        by_cases hi : c < nRd S
        · refine V_aaldn hZ dX5_owedByAll_22 (by assumption) hcN (by decide) (v := .ref (adD S c)) (rowf_lt hi) ?_
          refine V_astore hZ dX5_owedByAll_23 (by first | rfl | exact isR_rf _) (by decide) (by first | rfl | simp [okp, cat_rf, cat_ref, cat_int, cat_null]) ?_
          refine V.lvc (by simp only [List.set_cons_zero, List.set_cons_succ, Nat.reduceAdd]; rfl) ?_
          refine V_aload hZ dX5_owedByAll_25 rfl (by first | rfl | exact isR_rf _) ?_
          refine V_ifnullR hZ dX5_owedByAll_27 ?_
          have h3 := R.rdr hi
          refine V_iload_n hZ 1 dX5_owedByAll_30 rfl rfl ?_
          refine V_aload hZ dX5_owedByAll_31 rfl (by first | rfl | exact isR_rf _) ?_
          refine V_getfield hZ fl_X5_172.r dX5_owedByAll_33 (by assumption) (by rfl) ?_
          refine V_iadd hZ dX5_owedByAll_36 ?_
          refine V_istore_n hZ 1 rfl dX5_owedByAll_37 (by decide) (by first | rfl | simp [okp, cat_rf, cat_ref, cat_int, cat_null]) ?_
          refine V.lvc (by simp only [List.set_cons_zero, List.set_cons_succ, Nat.reduceAdd]; rfl) ?_
          refine V_iincv hZ dX5_owedByAll_38 rfl (by decide) (by first | rfl | simp [okp, cat_rf, cat_ref, cat_int, cat_null]) (by first | exact nI_inc _ | rfl) ?_
          refine V.lvc (by simp only [List.set_cons_zero, List.set_cons_succ, Nat.reduceAdd]; rfl) ?_
          refine V_goto (tgt := 13) hZ dX5_owedByAll_41 (by decide) ?_
          have e := ih (c + 1) (by omega) (some (.ref (adD S c)))
          have ef : owedF S c = rdOw (rds S c) := by simp [owedF, hi]
          simp only [sm, ef] at e
          exact e
        · refine V_aaldn hZ dX5_owedByAll_22 (by assumption) hcN (by decide) (v := .null) (rowf_ge hi) ?_
          refine V_astore hZ dX5_owedByAll_23 (by first | rfl | exact isR_rf _) (by decide) (by first | rfl | simp [okp, cat_rf, cat_ref, cat_int, cat_null]) ?_
          refine V.lvc (by simp only [List.set_cons_zero, List.set_cons_succ, Nat.reduceAdd]; rfl) ?_
          refine V_aload hZ dX5_owedByAll_25 rfl (by first | rfl | exact isR_rf _) ?_
          refine V_ifnullN (tgt := 38) hZ dX5_owedByAll_27 (by decide) ?_
          refine V_iincv hZ dX5_owedByAll_38 rfl (by decide) (by first | rfl | simp [okp, cat_rf, cat_ref, cat_int, cat_null]) (by first | exact nI_inc _ | rfl) ?_
          refine V.lvc (by simp only [List.set_cons_zero, List.set_cons_succ, Nat.reduceAdd]; rfl) ?_
          refine V_goto (tgt := 13) hZ dX5_owedByAll_41 (by decide) ?_
          have e := ih (c + 1) (by omega) (some .null)
          rw [sm_z (by simp [owedF, hi])] at e
          exact e
  exact key 8 0 rfl none
def notLostB (S : St) (r : Nat) (c : Nat) : Bool := decide (c < nCp S ∧ cpRc (cps S c) = r ∧ ¬ cpPl (cps S c) = 3)
theorem c_copiesNotLost (R : Rep S h) (W : Wf S) {r : Nat} (hr : r < nRc S) : Calls G yX5_copiesNotLost cX5_copiesNotLost 7 (.some .int) 0 0 0 0 [.ref (aH S), .ref (adR S r)] h (qV (.int (nI (cn (notLostB S r) 30))) h) qX := by
  have h1 := R.hall
  have h2 := R.copies
  refine Calls_of1 (by decide +kernel) (by simp [cat_rf, cat_ref, cat_int, cat_null]) (by simp) (lv0 := [some (.ref (aH S)), some (.ref (adR S r)), none, none, none, none, none]) rfl ?_
  intro Z hG hZ hE hN
  subst hG
  refine V_iconst (v := 0) hZ dX5_copiesNotLost_0 (by decide) ?_
  refine V_istore_n hZ 2 rfl dX5_copiesNotLost_1 (by decide) (by first | rfl | simp [okp, cat_rf, cat_ref, cat_int, cat_null]) ?_
  refine V.lvc (by simp only [List.set_cons_zero, List.set_cons_succ, Nat.reduceAdd]; rfl) ?_
  refine V_aload_n hZ 0 dX5_copiesNotLost_2 rfl rfl (by first | rfl | exact isR_rf _) ?_
  refine V_getfield hZ fl_X5_23.r dX5_copiesNotLost_3 (by assumption) (by rfl) ?_
  refine V_astore_n hZ 3 rfl dX5_copiesNotLost_6 (by first | rfl | exact isR_rf _) (by decide) (by first | rfl | simp [okp, cat_rf, cat_ref, cat_int, cat_null]) ?_
  refine V.lvc (by simp only [List.set_cons_zero, List.set_cons_succ, Nat.reduceAdd]; rfl) ?_
  refine V_aload_n hZ 3 dX5_copiesNotLost_7 rfl rfl (by first | rfl | exact isR_rf _) ?_
  refine V_alenR hZ dX5_copiesNotLost_8 (by assumption) ?_
  refine V_istore hZ dX5_copiesNotLost_9 (by decide) (by first | rfl | simp [okp, cat_rf, cat_ref, cat_int, cat_null]) ?_
  refine V.lvc (by simp only [List.set_cons_zero, List.set_cons_succ, Nat.reduceAdd]; rfl) ?_
  refine V_iconst (v := 0) hZ dX5_copiesNotLost_11 (by decide) ?_
  refine V_istore hZ dX5_copiesNotLost_12 (by decide) (by first | rfl | simp [okp, cat_rf, cat_ref, cat_int, cat_null]) ?_
  refine V.lvc (by simp only [List.set_cons_zero, List.set_cons_succ, Nat.reduceAdd]; rfl) ?_
  have key : ∀ m c, c + m = 30 → ∀ w, V Z 14 [some (.ref (aH S)), some (.ref (adR S r)), some (.int (nI (cn (notLostB S r) c))), some (.ref (aCs S)), some (.int (nI 30)), some (.int (nI c)), w] [] h 0 0 := by
    intro m
    induction m with
    | zero =>
      intro c hcm  w
      have hc : c = 30 := by omega
      subst hc
      refine V_iload hZ dX5_copiesNotLost_14 rfl ?_
      refine V_iload hZ dX5_copiesNotLost_16 rfl ?_
      refine V_icmp_ge (tgt := 59) hZ dX5_copiesNotLost_18 (by decide) (fun cE => ?_) (fun cE => ?_)
      · refine V_iload_n hZ 2 dX5_copiesNotLost_59 rfl rfl ?_
        refine V_iret hZ hE rfl (by rfl) dX5_copiesNotLost_60 (by decide) (by decide) ?_
        exact ⟨rfl, rfl⟩
      · exact absurd (by decide) cE
    | succ m ih =>
      intro c hcm  w
      have hcN : c < 30 := by omega
      refine V_iload hZ dX5_copiesNotLost_14 rfl ?_
      refine V_iload hZ dX5_copiesNotLost_16 rfl ?_
      refine V_icmp_ge (tgt := 59) hZ dX5_copiesNotLost_18 (by decide) (fun cE => ?_) (fun cE => ?_)
      · have cE2 : 30 ≤ c := (nI_leI (a := 30) (by decide) (by omega)).mp cE
        omega
      · refine V_aload_n hZ 3 dX5_copiesNotLost_21 rfl rfl (by first | rfl | exact isR_rf _) ?_
        refine V_iload hZ dX5_copiesNotLost_22 rfl ?_
        by_cases hi : c < nCp S
        · refine V_aaldn hZ dX5_copiesNotLost_24 (by assumption) hcN (by decide) (v := .ref (adC S c)) (rowf_lt hi) ?_
          refine V_astore hZ dX5_copiesNotLost_25 (by first | rfl | exact isR_rf _) (by decide) (by first | rfl | simp [okp, cat_rf, cat_ref, cat_int, cat_null]) ?_
          refine V.lvc (by simp only [List.set_cons_zero, List.set_cons_succ, Nat.reduceAdd]; rfl) ?_
          refine V_aload hZ dX5_copiesNotLost_27 rfl (by first | rfl | exact isR_rf _) ?_
          refine V_ifnullR hZ dX5_copiesNotLost_29 ?_
          have h3 := R.copy hi
          refine V_aload hZ dX5_copiesNotLost_32 rfl (by first | rfl | exact isR_rf _) ?_
          refine V_getfield hZ fl_X5_192.r dX5_copiesNotLost_34 (by assumption) (by rfl) ?_
          refine V_aload_n hZ 1 dX5_copiesNotLost_37 rfl rfl (by first | rfl | exact isR_rf _) ?_
          refine V_acmp_ne (tgt := 53) hZ dX5_copiesNotLost_38 (by decide) (by first | rfl | exact isR_rf _) (by first | rfl | exact isR_rf _) (fun c1 => ?_) (fun c1 => ?_)
          · refine V_iincv hZ dX5_copiesNotLost_53 rfl (by decide) (by first | rfl | simp [okp, cat_rf, cat_ref, cat_int, cat_null]) (by first | exact nI_inc _ | rfl) ?_
            refine V.lvc (by simp only [List.set_cons_zero, List.set_cons_succ, Nat.reduceAdd]; rfl) ?_
            refine V_goto (tgt := 14) hZ dX5_copiesNotLost_56 (by decide) ?_
            have e := ih (c + 1) (by omega) (some (.ref (adC S c)))
            have c2 : ¬ cpRc (cps S c) = r := fun z => c1 (by rw [z])
            rw [cn_f (by simp [notLostB, c2])] at e
            exact e
          · have c2 : cpRc (cps S c) = r := (recIff R W (W_rec W hi) hr).mp (refIff.mp c1)
            refine V_aload hZ dX5_copiesNotLost_41 rfl (by first | rfl | exact isR_rf _) ?_
            refine V_getfield hZ fl_X5_215.r dX5_copiesNotLost_43 (by assumption) (by rfl) ?_
            refine V_iconst (v := 3) hZ dX5_copiesNotLost_46 (by decide) ?_
            refine V_icmp_eq (tgt := 53) hZ dX5_copiesNotLost_47 (by decide) (fun c3 => ?_) (fun c3 => ?_)
            · refine V_iincv hZ dX5_copiesNotLost_53 rfl (by decide) (by first | rfl | simp [okp, cat_rf, cat_ref, cat_int, cat_null]) (by first | exact nI_inc _ | rfl) ?_
              refine V.lvc (by simp only [List.set_cons_zero, List.set_cons_succ, Nat.reduceAdd]; rfl) ?_
              refine V_goto (tgt := 14) hZ dX5_copiesNotLost_56 (by decide) ?_
              have e := ih (c + 1) (by omega) (some (.ref (adC S c)))
              rw [cn_f (by simp [notLostB, c3])] at e
              exact e
            · refine V_iincv hZ dX5_copiesNotLost_50 rfl (by decide) (by first | rfl | simp [okp, cat_rf, cat_ref, cat_int, cat_null]) (by first | exact nI_inc _ | rfl) ?_
              refine V.lvc (by simp only [List.set_cons_zero, List.set_cons_succ, Nat.reduceAdd]; rfl) ?_
              refine V_iincv hZ dX5_copiesNotLost_53 rfl (by decide) (by first | rfl | simp [okp, cat_rf, cat_ref, cat_int, cat_null]) (by first | exact nI_inc _ | rfl) ?_
              refine V.lvc (by simp only [List.set_cons_zero, List.set_cons_succ, Nat.reduceAdd]; rfl) ?_
              refine V_goto (tgt := 14) hZ dX5_copiesNotLost_56 (by decide) ?_
              have e := ih (c + 1) (by omega) (some (.ref (adC S c)))
              rw [cn_t (by simp [notLostB, c2, c3, hi])] at e
              exact e
        · refine V_aaldn hZ dX5_copiesNotLost_24 (by assumption) hcN (by decide) (v := .null) (rowf_ge hi) ?_
          refine V_astore hZ dX5_copiesNotLost_25 (by first | rfl | exact isR_rf _) (by decide) (by first | rfl | simp [okp, cat_rf, cat_ref, cat_int, cat_null]) ?_
          refine V.lvc (by simp only [List.set_cons_zero, List.set_cons_succ, Nat.reduceAdd]; rfl) ?_
          refine V_aload hZ dX5_copiesNotLost_27 rfl (by first | rfl | exact isR_rf _) ?_
          refine V_ifnullN (tgt := 53) hZ dX5_copiesNotLost_29 (by decide) ?_
          refine V_iincv hZ dX5_copiesNotLost_53 rfl (by decide) (by first | rfl | simp [okp, cat_rf, cat_ref, cat_int, cat_null]) (by first | exact nI_inc _ | rfl) ?_
          refine V.lvc (by simp only [List.set_cons_zero, List.set_cons_succ, Nat.reduceAdd]; rfl) ?_
          refine V_goto (tgt := 14) hZ dX5_copiesNotLost_56 (by decide) ?_
          have e := ih (c + 1) (by omega) (some .null)
          rw [cn_f (by simp [notLostB, hi])] at e
          exact e
  exact key 30 0 rfl none
def hasB (S : St) (x r : Nat) (c : Nat) : Bool := decide (c < nCp S ∧ cpRc (cps S c) = r ∧ cpPl (cps S c) = 1 ∧ cpRd (cps S c) = some x)
theorem c_hasCopyOf (R : Rep S h) (W : Wf S) {x r : Nat} (hx : x < nRd S) (hr : r < nRc S) : Calls G yX5_hasCopyOf cX5_hasCopyOf 7 (.some .boolean) 0 0 0 0 [.ref (aH S), .ref (adD S x), .ref (adR S r)] h (qV (.int (b01 ((fN (hasB S x r) 30 0).isSome = true))) h) qX := by
  have h1 := R.hall
  have h2 := R.copies
  refine Calls_of1 (by decide +kernel) (by simp [cat_rf, cat_ref, cat_int, cat_null]) (by simp) (lv0 := [some (.ref (aH S)), some (.ref (adD S x)), some (.ref (adR S r)), none, none, none, none]) rfl ?_
  intro Z hG hZ hE hN
  subst hG
  refine V_aload_n hZ 0 dX5_hasCopyOf_0 rfl rfl (by first | rfl | exact isR_rf _) ?_
  refine V_getfield hZ fl_X5_23.r dX5_hasCopyOf_1 (by assumption) (by rfl) ?_
  refine V_astore_n hZ 3 rfl dX5_hasCopyOf_4 (by first | rfl | exact isR_rf _) (by decide) (by first | rfl | simp [okp, cat_rf, cat_ref, cat_int, cat_null]) ?_
  refine V.lvc (by simp only [List.set_cons_zero, List.set_cons_succ, Nat.reduceAdd]; rfl) ?_
  refine V_aload_n hZ 3 dX5_hasCopyOf_5 rfl rfl (by first | rfl | exact isR_rf _) ?_
  refine V_alenR hZ dX5_hasCopyOf_6 (by assumption) ?_
  refine V_istore hZ dX5_hasCopyOf_7 (by decide) (by first | rfl | simp [okp, cat_rf, cat_ref, cat_int, cat_null]) ?_
  refine V.lvc (by simp only [List.set_cons_zero, List.set_cons_succ, Nat.reduceAdd]; rfl) ?_
  refine V_iconst (v := 0) hZ dX5_hasCopyOf_9 (by decide) ?_
  refine V_istore hZ dX5_hasCopyOf_10 (by decide) (by first | rfl | simp [okp, cat_rf, cat_ref, cat_int, cat_null]) ?_
  refine V.lvc (by simp only [List.set_cons_zero, List.set_cons_succ, Nat.reduceAdd]; rfl) ?_
  have key : ∀ m c, c + m = 30 → fN (hasB S x r) m c = fN (hasB S x r) 30 0 → ∀ w, V Z 12 [some (.ref (aH S)), some (.ref (adD S x)), some (.ref (adR S r)), some (.ref (aCs S)), some (.int (nI 30)), some (.int (nI c)), w] [] h 0 0 := by
    intro m
    induction m with
    | zero =>
      intro c hcm hf w
      have hc : c = 30 := by omega
      subst hc
      refine V_iload hZ dX5_hasCopyOf_12 rfl ?_
      refine V_iload hZ dX5_hasCopyOf_14 rfl ?_
      refine V_icmp_ge (tgt := 65) hZ dX5_hasCopyOf_16 (by decide) (fun cE => ?_) (fun cE => ?_)
      · refine V_iconst (v := 0) hZ dX5_hasCopyOf_65 (by decide) ?_
        refine V_iret hZ hE rfl (by rfl) dX5_hasCopyOf_66 (by decide) (by decide) ?_
        exact ⟨by rw [← hf]; rfl, rfl⟩
      · exact absurd (by decide) cE
    | succ m ih =>
      intro c hcm hf w
      have hcN : c < 30 := by omega
      refine V_iload hZ dX5_hasCopyOf_12 rfl ?_
      refine V_iload hZ dX5_hasCopyOf_14 rfl ?_
      refine V_icmp_ge (tgt := 65) hZ dX5_hasCopyOf_16 (by decide) (fun cE => ?_) (fun cE => ?_)
      · have cE2 : 30 ≤ c := (nI_leI (a := 30) (by decide) (by omega)).mp cE
        omega
      · refine V_aload_n hZ 3 dX5_hasCopyOf_19 rfl rfl (by first | rfl | exact isR_rf _) ?_
        refine V_iload hZ dX5_hasCopyOf_20 rfl ?_
        by_cases hi : c < nCp S
        · refine V_aaldn hZ dX5_hasCopyOf_22 (by assumption) hcN (by decide) (v := .ref (adC S c)) (rowf_lt hi) ?_
          refine V_astore hZ dX5_hasCopyOf_23 (by first | rfl | exact isR_rf _) (by decide) (by first | rfl | simp [okp, cat_rf, cat_ref, cat_int, cat_null]) ?_
          refine V.lvc (by simp only [List.set_cons_zero, List.set_cons_succ, Nat.reduceAdd]; rfl) ?_
          refine V_aload hZ dX5_hasCopyOf_25 rfl (by first | rfl | exact isR_rf _) ?_
          refine V_ifnullR hZ dX5_hasCopyOf_27 ?_
          have h3 := R.copy hi
          refine V_aload hZ dX5_hasCopyOf_30 rfl (by first | rfl | exact isR_rf _) ?_
          refine V_getfield hZ fl_X5_192.r dX5_hasCopyOf_32 (by assumption) (by rfl) ?_
          refine V_aload_n hZ 2 dX5_hasCopyOf_35 rfl rfl (by first | rfl | exact isR_rf _) ?_
          refine V_acmp_ne (tgt := 59) hZ dX5_hasCopyOf_36 (by decide) (by first | rfl | exact isR_rf _) (by first | rfl | exact isR_rf _) (fun c1 => ?_) (fun c1 => ?_)
          · refine V_iincv hZ dX5_hasCopyOf_59 rfl (by decide) (by first | rfl | simp [okp, cat_rf, cat_ref, cat_int, cat_null]) (by first | exact nI_inc _ | rfl) ?_
            refine V.lvc (by simp only [List.set_cons_zero, List.set_cons_succ, Nat.reduceAdd]; rfl) ?_
            refine V_goto (tgt := 12) hZ dX5_hasCopyOf_62 (by decide) ?_
            have c2 : ¬ cpRc (cps S c) = r := fun z => c1 (by rw [z])
            exact ih (c + 1) (by omega) (by rw [← hf, fN_f (by simp [hasB, c2])]) (some (.ref (adC S c)))
          · have c2 : cpRc (cps S c) = r := (recIff R W (W_rec W hi) hr).mp (refIff.mp c1)
            refine V_aload hZ dX5_hasCopyOf_39 rfl (by first | rfl | exact isR_rf _) ?_
            refine V_getfield hZ fl_X5_215.r dX5_hasCopyOf_41 (by assumption) (by rfl) ?_
            refine V_iconst (v := 1) hZ dX5_hasCopyOf_44 (by decide) ?_
            refine V_icmp_ne (tgt := 59) hZ dX5_hasCopyOf_45 (by decide) (fun c3 => ?_) (fun c3 => ?_)
            · refine V_iincv hZ dX5_hasCopyOf_59 rfl (by decide) (by first | rfl | simp [okp, cat_rf, cat_ref, cat_int, cat_null]) (by first | exact nI_inc _ | rfl) ?_
              refine V.lvc (by simp only [List.set_cons_zero, List.set_cons_succ, Nat.reduceAdd]; rfl) ?_
              refine V_goto (tgt := 12) hZ dX5_hasCopyOf_62 (by decide) ?_
              exact ih (c + 1) (by omega) (by rw [← hf, fN_f (by simp [hasB, c3])]) (some (.ref (adC S c)))
            · refine V_aload hZ dX5_hasCopyOf_48 rfl (by first | rfl | exact isR_rf _) ?_
              refine V_getfield hZ fl_X5_202.r dX5_hasCopyOf_50 (by assumption) (by rfl) ?_
              refine V_aload_n hZ 1 dX5_hasCopyOf_53 rfl rfl (by first | rfl | exact isR_rf _) ?_
              refine V_acmp_ne (tgt := 59) hZ dX5_hasCopyOf_54 (by decide) (by first | rfl | exact isR_rf _) (by first | rfl | exact isR_rf _) (fun c4 => ?_) (fun c4 => ?_)
              · refine V_iincv hZ dX5_hasCopyOf_59 rfl (by decide) (by first | rfl | simp [okp, cat_rf, cat_ref, cat_int, cat_null]) (by first | exact nI_inc _ | rfl) ?_
                refine V.lvc (by simp only [List.set_cons_zero, List.set_cons_succ, Nat.reduceAdd]; rfl) ?_
                refine V_goto (tgt := 12) hZ dX5_hasCopyOf_62 (by decide) ?_
                have c5 : ¬ cpRd (cps S c) = some x := fun z => c4 (by rw [z]; rfl)
                exact ih (c + 1) (by omega) (by rw [← hf, fN_f (by simp [hasB, c5])]) (some (.ref (adC S c)))
              · have c5 : cpRd (cps S c) = some x := (rdMap R W (W_rdr W hi) (fun y hy => by cases hy; exact hx)).mp (rfIff.mp (c4.trans (show Value.ref (adD S x) = va_rf ((some x).map (adD S)) from rfl)))
                refine V_iconst (v := 1) hZ dX5_hasCopyOf_57 (by decide) ?_
                refine V_iret hZ hE rfl (by rfl) dX5_hasCopyOf_58 (by decide) (by decide) ?_
                exact ⟨by rw [← hf, fN_t (by simp [hasB, hi, c2, c3, c5])]; rfl, rfl⟩
        · refine V_aaldn hZ dX5_hasCopyOf_22 (by assumption) hcN (by decide) (v := .null) (rowf_ge hi) ?_
          refine V_astore hZ dX5_hasCopyOf_23 (by first | rfl | exact isR_rf _) (by decide) (by first | rfl | simp [okp, cat_rf, cat_ref, cat_int, cat_null]) ?_
          refine V.lvc (by simp only [List.set_cons_zero, List.set_cons_succ, Nat.reduceAdd]; rfl) ?_
          refine V_aload hZ dX5_hasCopyOf_25 rfl (by first | rfl | exact isR_rf _) ?_
          refine V_ifnullN (tgt := 59) hZ dX5_hasCopyOf_27 (by decide) ?_
          refine V_iincv hZ dX5_hasCopyOf_59 rfl (by decide) (by first | rfl | simp [okp, cat_rf, cat_ref, cat_int, cat_null]) (by first | exact nI_inc _ | rfl) ?_
          refine V.lvc (by simp only [List.set_cons_zero, List.set_cons_succ, Nat.reduceAdd]; rfl) ?_
          refine V_goto (tgt := 12) hZ dX5_hasCopyOf_62 (by decide) ?_
          exact ih (c + 1) (by omega) (by rw [← hf, fN_f (by simp [hasB, hi])]) (some .null)
  exact key 30 0 rfl rfl none
/-- copy c is aside for the reader o, of record r -/
def asideB (S : St) (o : Option Nat) (r : Nat) (c : Nat) : Bool := decide (c < nCp S ∧ cpPl (cps S c) = 2 ∧ cpRd (cps S c) = o ∧ cpRc (cps S c) = r)
theorem c_isAsideForS (R : Rep S h) (W : Wf S) {c r : Nat} {o : Option Nat} (hi : c < nCp S) (hr : r < nRc S) (ho : ∀ x, o = some x → x < nRd S) : Calls G yX1_isAsideFor cX1_isAsideFor 3 (.some .boolean) 0 0 0 0 [.ref (adC S c), va_rf (o.map (adD S)), .ref (adR S r)] h (qV (.int (b01 (asideB S o r c = true))) h) qX := by
  have e := c_isAsideFor G h (R.copy hi) (o.map (adD S)) (adR S r)
  have e2 : b01 (cpPl (cps S c) = 2 ∧ (cpRd (cps S c)).map (adD S) = o.map (adD S) ∧ adR S (cpRc (cps S c)) = adR S r) = b01 (asideB S o r c = true) := by
    have e3 : (cpPl (cps S c) = 2 ∧ (cpRd (cps S c)).map (adD S) = o.map (adD S) ∧ adR S (cpRc (cps S c)) = adR S r) ↔ asideB S o r c = true := by
      rw [rdMap R W (W_rdr W hi) ho, recIff R W (W_rec W hi) hr]
      simp [asideB, hi]
    simp only [b01, e3]
  rw [e2] at e
  exact e
theorem c_firstAside (R : Rep S h) (W : Wf S) {r : Nat} {o : Option Nat} (hr : r < nRc S) (ho : ∀ x, o = some x → x < nRd S) : Calls G yX5_firstAside cX5_firstAside 7 (.some (.object "BookplateHall$Copy")) 1 22 0 0 [.ref (aH S), va_rf (o.map (adD S)), .ref (adR S r)] h (qV (va_rf ((fN (asideB S o r) 30 0).map (adC S))) h) qX := by
  have h1 := R.hall
  have h2 := R.copies
  refine Calls_of1 (by decide +kernel) (by simp [cat_rf, cat_ref, cat_int, cat_null]) (by simp) (lv0 := [some (.ref (aH S)), some (va_rf (o.map (adD S))), some (.ref (adR S r)), none, none, none, none]) rfl ?_
  intro Z hG hZ hE hN
  subst hG
  refine V_aload_n hZ 0 dX5_firstAside_0 rfl rfl (by first | rfl | exact isR_rf _) ?_
  refine V_getfield hZ fl_X5_23.r dX5_firstAside_1 (by assumption) (by rfl) ?_
  refine V_astore_n hZ 3 rfl dX5_firstAside_4 (by first | rfl | exact isR_rf _) (by decide) (by first | rfl | simp [okp, cat_rf, cat_ref, cat_int, cat_null]) ?_
  refine V.lvc (by simp only [List.set_cons_zero, List.set_cons_succ, Nat.reduceAdd]; rfl) ?_
  refine V_aload_n hZ 3 dX5_firstAside_5 rfl rfl (by first | rfl | exact isR_rf _) ?_
  refine V_alenR hZ dX5_firstAside_6 (by assumption) ?_
  refine V_istore hZ dX5_firstAside_7 (by decide) (by first | rfl | simp [okp, cat_rf, cat_ref, cat_int, cat_null]) ?_
  refine V.lvc (by simp only [List.set_cons_zero, List.set_cons_succ, Nat.reduceAdd]; rfl) ?_
  refine V_iconst (v := 0) hZ dX5_firstAside_9 (by decide) ?_
  refine V_istore hZ dX5_firstAside_10 (by decide) (by first | rfl | simp [okp, cat_rf, cat_ref, cat_int, cat_null]) ?_
  refine V.lvc (by simp only [List.set_cons_zero, List.set_cons_succ, Nat.reduceAdd]; rfl) ?_
  have key : ∀ m c, c + m = 30 → fN (asideB S o r) m c = fN (asideB S o r) 30 0 → ∀ w, V Z 12 [some (.ref (aH S)), some (va_rf (o.map (adD S))), some (.ref (adR S r)), some (.ref (aCs S)), some (.int (nI 30)), some (.int (nI c)), w] [] h 0 0 := by
    intro m
    induction m with
    | zero =>
      intro c hcm hf w
      have hc : c = 30 := by omega
      subst hc
      refine V_iload hZ dX5_firstAside_12 rfl ?_
      refine V_iload hZ dX5_firstAside_14 rfl ?_
      refine V_icmp_ge (tgt := 49) hZ dX5_firstAside_16 (by decide) (fun cE => ?_) (fun cE => ?_)
      · refine V_null hZ dX5_firstAside_49 ?_
        refine V_aret hZ hE rfl (by first | rfl | exact isR_rf _) dX5_firstAside_50 (by decide) (by decide) ?_
        exact ⟨by rw [← hf]; rfl, rfl⟩
      · exact absurd (by decide) cE
    | succ m ih =>
      intro c hcm hf w
      have hcN : c < 30 := by omega
      refine V_iload hZ dX5_firstAside_12 rfl ?_
      refine V_iload hZ dX5_firstAside_14 rfl ?_
      refine V_icmp_ge (tgt := 49) hZ dX5_firstAside_16 (by decide) (fun cE => ?_) (fun cE => ?_)
      · have cE2 : 30 ≤ c := (nI_leI (a := 30) (by decide) (by omega)).mp cE
        omega
      · refine V_aload_n hZ 3 dX5_firstAside_19 rfl rfl (by first | rfl | exact isR_rf _) ?_
        refine V_iload hZ dX5_firstAside_20 rfl ?_
        by_cases hi : c < nCp S
        · refine V_aaldn hZ dX5_firstAside_22 (by assumption) hcN (by decide) (v := .ref (adC S c)) (rowf_lt hi) ?_
          refine V_astore hZ dX5_firstAside_23 (by first | rfl | exact isR_rf _) (by decide) (by first | rfl | simp [okp, cat_rf, cat_ref, cat_int, cat_null]) ?_
          refine V.lvc (by simp only [List.set_cons_zero, List.set_cons_succ, Nat.reduceAdd]; rfl) ?_
          refine V_aload hZ dX5_firstAside_25 rfl (by first | rfl | exact isR_rf _) ?_
          refine V_ifnullR hZ dX5_firstAside_27 ?_
          have h3 := R.copy hi
          refine V_aload hZ dX5_firstAside_30 rfl (by first | rfl | exact isR_rf _) ?_
          refine V_aload_n hZ 1 dX5_firstAside_32 rfl rfl (by first | rfl | exact isR_rf _) ?_
          refine V_aload_n hZ 2 dX5_firstAside_33 rfl rfl (by first | rfl | exact isR_rf _) ?_
          refine V_invVp hZ me_X1_isAsideFor mi_X1_isAsideFor ml_X5_368 (c_isAsideForS Z.1 R W hi hr ho) dX5_firstAside_34 rfl rfl (by assumption) rfl rfl ⟨by decide, by decide⟩ (by first | decide | simp [cat_rf, cat_ref, cat_int, cat_null]) ⟨by decide, by decide⟩ ?_
          refine V_if_eq (tgt := 43) hZ dX5_firstAside_37 (by decide) (fun c1 => ?_) (fun c1 => ?_)
          · refine V_iincv hZ dX5_firstAside_43 rfl (by decide) (by first | rfl | simp [okp, cat_rf, cat_ref, cat_int, cat_null]) (by first | exact nI_inc _ | rfl) ?_
            refine V.lvc (by simp only [List.set_cons_zero, List.set_cons_succ, Nat.reduceAdd]; rfl) ?_
            refine V_goto (tgt := 12) hZ dX5_firstAside_46 (by decide) ?_
            have c2 : asideB S o r c = false := by
              cases hz : asideB S o r c
              · rfl
              · exact absurd c1 (by simp [b01, hz])
            exact ih (c + 1) (by omega) (by rw [← hf, fN_f c2]) (some (.ref (adC S c)))
          · have c2 : asideB S o r c = true := by
              cases hz : asideB S o r c
              · exact absurd (by simp [b01, hz]) c1
              · rfl
            refine V_aload hZ dX5_firstAside_40 rfl (by first | rfl | exact isR_rf _) ?_
            refine V_aret hZ hE rfl (by first | rfl | exact isR_rf _) dX5_firstAside_42 (by decide) (by decide) ?_
            exact ⟨by rw [← hf, fN_t c2]; rfl, rfl⟩
        · refine V_aaldn hZ dX5_firstAside_22 (by assumption) hcN (by decide) (v := .null) (rowf_ge hi) ?_
          refine V_astore hZ dX5_firstAside_23 (by first | rfl | exact isR_rf _) (by decide) (by first | rfl | simp [okp, cat_rf, cat_ref, cat_int, cat_null]) ?_
          refine V.lvc (by simp only [List.set_cons_zero, List.set_cons_succ, Nat.reduceAdd]; rfl) ?_
          refine V_aload hZ dX5_firstAside_25 rfl (by first | rfl | exact isR_rf _) ?_
          refine V_ifnullN (tgt := 43) hZ dX5_firstAside_27 (by decide) ?_
          refine V_iincv hZ dX5_firstAside_43 rfl (by decide) (by first | rfl | simp [okp, cat_rf, cat_ref, cat_int, cat_null]) (by first | exact nI_inc _ | rfl) ?_
          refine V.lvc (by simp only [List.set_cons_zero, List.set_cons_succ, Nat.reduceAdd]; rfl) ?_
          refine V_goto (tgt := 12) hZ dX5_firstAside_46 (by decide) ?_
          exact ih (c + 1) (by omega) (by rw [← hf, fN_f (by simp [asideB, hi])]) (some .null)
  exact key 30 0 rfl rfl none
def inB (S : St) (r : Nat) (c : Nat) : Bool := decide (c < nCp S ∧ cpRc (cps S c) = r ∧ cpPl (cps S c) = 0)
theorem c_firstIn (R : Rep S h) (W : Wf S) {r : Nat} (hr : r < nRc S) : Calls G yX5_firstIn cX5_firstIn 6 (.some (.object "BookplateHall$Copy")) 0 0 0 0 [.ref (aH S), .ref (adR S r)] h (qV (va_rf ((fN (inB S r) 30 0).map (adC S))) h) qX := by
  have h1 := R.hall
  have h2 := R.copies
  refine Calls_of1 (by decide +kernel) (by simp [cat_rf, cat_ref, cat_int, cat_null]) (by simp) (lv0 := [some (.ref (aH S)), some (.ref (adR S r)), none, none, none, none]) rfl ?_
  intro Z hG hZ hE hN
  subst hG
  refine V_aload_n hZ 0 dX5_firstIn_0 rfl rfl (by first | rfl | exact isR_rf _) ?_
  refine V_getfield hZ fl_X5_23.r dX5_firstIn_1 (by assumption) (by rfl) ?_
  refine V_astore_n hZ 2 rfl dX5_firstIn_4 (by first | rfl | exact isR_rf _) (by decide) (by first | rfl | simp [okp, cat_rf, cat_ref, cat_int, cat_null]) ?_
  refine V.lvc (by simp only [List.set_cons_zero, List.set_cons_succ, Nat.reduceAdd]; rfl) ?_
  refine V_aload_n hZ 2 dX5_firstIn_5 rfl rfl (by first | rfl | exact isR_rf _) ?_
  refine V_alenR hZ dX5_firstIn_6 (by assumption) ?_
  refine V_istore_n hZ 3 rfl dX5_firstIn_7 (by decide) (by first | rfl | simp [okp, cat_rf, cat_ref, cat_int, cat_null]) ?_
  refine V.lvc (by simp only [List.set_cons_zero, List.set_cons_succ, Nat.reduceAdd]; rfl) ?_
  refine V_iconst (v := 0) hZ dX5_firstIn_8 (by decide) ?_
  refine V_istore hZ dX5_firstIn_9 (by decide) (by first | rfl | simp [okp, cat_rf, cat_ref, cat_int, cat_null]) ?_
  refine V.lvc (by simp only [List.set_cons_zero, List.set_cons_succ, Nat.reduceAdd]; rfl) ?_
  have key : ∀ m c, c + m = 30 → fN (inB S r) m c = fN (inB S r) 30 0 → ∀ w, V Z 11 [some (.ref (aH S)), some (.ref (adR S r)), some (.ref (aCs S)), some (.int (nI 30)), some (.int (nI c)), w] [] h 0 0 := by
    intro m
    induction m with
    | zero =>
      intro c hcm hf w
      have hc : c = 30 := by omega
      subst hc
      refine V_iload hZ dX5_firstIn_11 rfl ?_
      refine V_iload_n hZ 3 dX5_firstIn_13 rfl rfl ?_
      refine V_icmp_ge (tgt := 54) hZ dX5_firstIn_14 (by decide) (fun cE => ?_) (fun cE => ?_)
      · refine V_null hZ dX5_firstIn_54 ?_
        refine V_aret hZ hE rfl (by first | rfl | exact isR_rf _) dX5_firstIn_55 (by decide) (by decide) ?_
        exact ⟨by rw [← hf]; rfl, rfl⟩
      · exact absurd (by decide) cE
    | succ m ih =>
      intro c hcm hf w
      have hcN : c < 30 := by omega
      refine V_iload hZ dX5_firstIn_11 rfl ?_
      refine V_iload_n hZ 3 dX5_firstIn_13 rfl rfl ?_
      refine V_icmp_ge (tgt := 54) hZ dX5_firstIn_14 (by decide) (fun cE => ?_) (fun cE => ?_)
      · have cE2 : 30 ≤ c := (nI_leI (a := 30) (by decide) (by omega)).mp cE
        omega
      · refine V_aload_n hZ 2 dX5_firstIn_17 rfl rfl (by first | rfl | exact isR_rf _) ?_
        refine V_iload hZ dX5_firstIn_18 rfl ?_
        by_cases hi : c < nCp S
        · refine V_aaldn hZ dX5_firstIn_20 (by assumption) hcN (by decide) (v := .ref (adC S c)) (rowf_lt hi) ?_
          refine V_astore hZ dX5_firstIn_21 (by first | rfl | exact isR_rf _) (by decide) (by first | rfl | simp [okp, cat_rf, cat_ref, cat_int, cat_null]) ?_
          refine V.lvc (by simp only [List.set_cons_zero, List.set_cons_succ, Nat.reduceAdd]; rfl) ?_
          refine V_aload hZ dX5_firstIn_23 rfl (by first | rfl | exact isR_rf _) ?_
          refine V_ifnullR hZ dX5_firstIn_25 ?_
          have h3 := R.copy hi
          refine V_aload hZ dX5_firstIn_28 rfl (by first | rfl | exact isR_rf _) ?_
          refine V_getfield hZ fl_X5_192.r dX5_firstIn_30 (by assumption) (by rfl) ?_
          refine V_aload_n hZ 1 dX5_firstIn_33 rfl rfl (by first | rfl | exact isR_rf _) ?_
          refine V_acmp_ne (tgt := 48) hZ dX5_firstIn_34 (by decide) (by first | rfl | exact isR_rf _) (by first | rfl | exact isR_rf _) (fun c1 => ?_) (fun c1 => ?_)
          · refine V_iincv hZ dX5_firstIn_48 rfl (by decide) (by first | rfl | simp [okp, cat_rf, cat_ref, cat_int, cat_null]) (by first | exact nI_inc _ | rfl) ?_
            refine V.lvc (by simp only [List.set_cons_zero, List.set_cons_succ, Nat.reduceAdd]; rfl) ?_
            refine V_goto (tgt := 11) hZ dX5_firstIn_51 (by decide) ?_
            have c2 : ¬ cpRc (cps S c) = r := fun z => c1 (by rw [z])
            exact ih (c + 1) (by omega) (by rw [← hf, fN_f (by simp [inB, c2])]) (some (.ref (adC S c)))
          · have c2 : cpRc (cps S c) = r := (recIff R W (W_rec W hi) hr).mp (refIff.mp c1)
            refine V_aload hZ dX5_firstIn_37 rfl (by first | rfl | exact isR_rf _) ?_
            refine V_getfield hZ fl_X5_215.r dX5_firstIn_39 (by assumption) (by rfl) ?_
            refine V_if_ne (tgt := 48) hZ dX5_firstIn_42 (by decide) (fun c3 => ?_) (fun c3 => ?_)
            · refine V_iincv hZ dX5_firstIn_48 rfl (by decide) (by first | rfl | simp [okp, cat_rf, cat_ref, cat_int, cat_null]) (by first | exact nI_inc _ | rfl) ?_
              refine V.lvc (by simp only [List.set_cons_zero, List.set_cons_succ, Nat.reduceAdd]; rfl) ?_
              refine V_goto (tgt := 11) hZ dX5_firstIn_51 (by decide) ?_
              exact ih (c + 1) (by omega) (by rw [← hf, fN_f (by simp [inB, c3])]) (some (.ref (adC S c)))
            · refine V_aload hZ dX5_firstIn_45 rfl (by first | rfl | exact isR_rf _) ?_
              refine V_aret hZ hE rfl (by first | rfl | exact isR_rf _) dX5_firstIn_47 (by decide) (by decide) ?_
              exact ⟨by rw [← hf, fN_t (by simp [inB, hi, c2, c3])]; rfl, rfl⟩
        · refine V_aaldn hZ dX5_firstIn_20 (by assumption) hcN (by decide) (v := .null) (rowf_ge hi) ?_
          refine V_astore hZ dX5_firstIn_21 (by first | rfl | exact isR_rf _) (by decide) (by first | rfl | simp [okp, cat_rf, cat_ref, cat_int, cat_null]) ?_
          refine V.lvc (by simp only [List.set_cons_zero, List.set_cons_succ, Nat.reduceAdd]; rfl) ?_
          refine V_aload hZ dX5_firstIn_23 rfl (by first | rfl | exact isR_rf _) ?_
          refine V_ifnullN (tgt := 48) hZ dX5_firstIn_25 (by decide) ?_
          refine V_iincv hZ dX5_firstIn_48 rfl (by decide) (by first | rfl | simp [okp, cat_rf, cat_ref, cat_int, cat_null]) (by first | exact nI_inc _ | rfl) ?_
          refine V.lvc (by simp only [List.set_cons_zero, List.set_cons_succ, Nat.reduceAdd]; rfl) ?_
          refine V_goto (tgt := 11) hZ dX5_firstIn_51 (by decide) ?_
          exact ih (c + 1) (by omega) (by rw [← hf, fN_f (by simp [inB, hi])]) (some .null)
  exact key 30 0 rfl rfl none
/-- has x nothing aside of record r -/
def noneA (S : St) (r x : Nat) : Bool := (fN (asideB S (some x) r) 30 0).isNone
/-- the first of those who wait for r who has none aside -/
def nextW (S : St) (r : Nat) : Option Nat := (lin S r).find? (noneA S r)
theorem drop_some {l : List Nat} {c x : Nat} (hx : l[c]? = some x) : l.drop c = x :: l.drop (c + 1) := by
  obtain ⟨h1, h2⟩ := List.getElem?_eq_some_iff.mp hx
  rw [List.drop_eq_getElem_cons h1, h2]
theorem drop_none {l : List Nat} {c : Nat} (hx : l[c]? = none) : l.drop c = [] := List.drop_eq_nil_of_le (List.getElem?_eq_none_iff.mp hx)
theorem c_firstWithNoneAside (R : Rep S h) (W : Wf S) {r : Nat} (hr : r < nRc S) : Calls G yX5_firstWithNoneAside cX5_firstWithNoneAside 6 (.some (.object "BookplateHall$Reader")) 2 48 0 0 [.ref (aH S), .ref (adR S r)] h (qV (va_rf ((nextW S r).map (adD S))) h) qX := by
  have h1 := R.hall
  have h2 := R.rec hr
  have h3 := R.line hr
  have h4 := R.row hr
  refine Calls_of1 (by decide +kernel) (by simp [cat_rf, cat_ref, cat_int, cat_null]) (by simp) (lv0 := [some (.ref (aH S)), some (.ref (adR S r)), none, none, none, none]) rfl ?_
  intro Z hG hZ hE hN
  subst hG
  refine V_aload_n hZ 1 dX5_firstWithNoneAside_0 rfl rfl (by first | rfl | exact isR_rf _) ?_
  refine V_getfield hZ fl_X5_235 dX5_firstWithNoneAside_1 (by assumption) (by rfl) ?_
  refine V_getfield hZ fl_X5_378 dX5_firstWithNoneAside_4 (by assumption) (by rfl) ?_
  refine V_astore_n hZ 2 rfl dX5_firstWithNoneAside_7 (by first | rfl | exact isR_rf _) (by decide) (by first | rfl | simp [okp, cat_rf, cat_ref, cat_int, cat_null]) ?_
  refine V.lvc (by simp only [List.set_cons_zero, List.set_cons_succ, Nat.reduceAdd]; rfl) ?_
  refine V_aload_n hZ 2 dX5_firstWithNoneAside_8 rfl rfl (by first | rfl | exact isR_rf _) ?_
  refine V_alenR hZ dX5_firstWithNoneAside_9 (by assumption) ?_
  refine V_istore_n hZ 3 rfl dX5_firstWithNoneAside_10 (by decide) (by first | rfl | simp [okp, cat_rf, cat_ref, cat_int, cat_null]) ?_
  refine V.lvc (by simp only [List.set_cons_zero, List.set_cons_succ, Nat.reduceAdd]; rfl) ?_
  refine V_iconst (v := 0) hZ dX5_firstWithNoneAside_11 (by decide) ?_
  refine V_istore hZ dX5_firstWithNoneAside_12 (by decide) (by first | rfl | simp [okp, cat_rf, cat_ref, cat_int, cat_null]) ?_
  refine V.lvc (by simp only [List.set_cons_zero, List.set_cons_succ, Nat.reduceAdd]; rfl) ?_
  have key : ∀ m c, c + m = 8 → ((lin S r).drop c).find? (noneA S r) = nextW S r → ∀ w, V Z 14 [some (.ref (aH S)), some (.ref (adR S r)), some (.ref (adQ S r)), some (.int (nI 8)), some (.int (nI c)), w] [] h 0 0 := by
    intro m
    induction m with
    | zero =>
      intro c hcm hf w
      have hc : c = 8 := by omega
      subst hc
      refine V_iload hZ dX5_firstWithNoneAside_14 rfl ?_
      refine V_iload_n hZ 3 dX5_firstWithNoneAside_16 rfl rfl ?_
      refine V_icmp_ge (tgt := 50) hZ dX5_firstWithNoneAside_17 (by decide) (fun cE => ?_) (fun cE => ?_)
      · refine V_null hZ dX5_firstWithNoneAside_50 ?_
        refine V_aret hZ hE rfl (by first | rfl | exact isR_rf _) dX5_firstWithNoneAside_51 (by decide) (by decide) ?_
        rw [List.drop_eq_nil_of_le (W_lin W hr).1] at hf
        exact ⟨by rw [← hf]; rfl, rfl⟩
      · exact absurd (by decide) cE
    | succ m ih =>
      intro c hcm hf w
      have hcN : c < 8 := by omega
      refine V_iload hZ dX5_firstWithNoneAside_14 rfl ?_
      refine V_iload_n hZ 3 dX5_firstWithNoneAside_16 rfl rfl ?_
      refine V_icmp_ge (tgt := 50) hZ dX5_firstWithNoneAside_17 (by decide) (fun cE => ?_) (fun cE => ?_)
      · have cE2 : 8 ≤ c := (nI_leI (a := 8) (by decide) (by omega)).mp cE
        omega
      · refine V_aload_n hZ 2 dX5_firstWithNoneAside_20 rfl rfl (by first | rfl | exact isR_rf _) ?_
        refine V_iload hZ dX5_firstWithNoneAside_21 rfl ?_
        cases hx : (lin S r)[c]? with
        | none =>
          refine V_aaldn hZ dX5_firstWithNoneAside_23 (by assumption) hcN (by decide) (v := .null) (lnf_none hx) ?_
          refine V_astore hZ dX5_firstWithNoneAside_24 (by first | rfl | exact isR_rf _) (by decide) (by first | rfl | simp [okp, cat_rf, cat_ref, cat_int, cat_null]) ?_
          refine V.lvc (by simp only [List.set_cons_zero, List.set_cons_succ, Nat.reduceAdd]; rfl) ?_
          refine V_aload hZ dX5_firstWithNoneAside_26 rfl (by first | rfl | exact isR_rf _) ?_
          refine V_ifnullN (tgt := 44) hZ dX5_firstWithNoneAside_28 (by decide) ?_
          refine V_iincv hZ dX5_firstWithNoneAside_44 rfl (by decide) (by first | rfl | simp [okp, cat_rf, cat_ref, cat_int, cat_null]) (by first | exact nI_inc _ | rfl) ?_
          refine V.lvc (by simp only [List.set_cons_zero, List.set_cons_succ, Nat.reduceAdd]; rfl) ?_
          refine V_goto (tgt := 14) hZ dX5_firstWithNoneAside_47 (by decide) ?_
          rw [drop_none hx] at hf
          exact ih (c + 1) (by omega) (by rw [← hf, List.drop_eq_nil_of_le (by have := List.getElem?_eq_none_iff.mp hx; omega)]) (some .null)
        | some x =>
          refine V_aaldn hZ dX5_firstWithNoneAside_23 (by assumption) hcN (by decide) (v := .ref (adD S x)) (lnf_some hx) ?_
          refine V_astore hZ dX5_firstWithNoneAside_24 (by first | rfl | exact isR_rf _) (by decide) (by first | rfl | simp [okp, cat_rf, cat_ref, cat_int, cat_null]) ?_
          refine V.lvc (by simp only [List.set_cons_zero, List.set_cons_succ, Nat.reduceAdd]; rfl) ?_
          refine V_aload hZ dX5_firstWithNoneAside_26 rfl (by first | rfl | exact isR_rf _) ?_
          refine V_ifnullR hZ dX5_firstWithNoneAside_28 ?_
          have hxb : x < nRd S := (W_lin W hr).2 x (List.mem_of_getElem? hx)
          rw [drop_some hx] at hf
          refine V_aload_n hZ 0 dX5_firstWithNoneAside_31 rfl rfl (by first | rfl | exact isR_rf _) ?_
          refine V_aload hZ dX5_firstWithNoneAside_32 rfl (by first | rfl | exact isR_rf _) ?_
          refine V_aload_n hZ 1 dX5_firstWithNoneAside_34 rfl rfl (by first | rfl | exact isR_rf _) ?_
          refine V_invVp hZ me_X5_firstAside mi_X5_firstAside ml_X5_286 (c_firstAside Z.1 R W (o := some x) hr (fun y hy => by cases hy; exact hxb)) dX5_firstWithNoneAside_35 rfl rfl (by assumption) rfl rfl ⟨by decide, by decide⟩ (by first | decide | simp [cat_rf, cat_ref, cat_int, cat_null]) ⟨by decide, by decide⟩ ?_
          cases hz : fN (asideB S (some x) r) 30 0 with
          | none =>
            refine V_ifnonnullN hZ dX5_firstWithNoneAside_38 ?_
            refine V_aload hZ dX5_firstWithNoneAside_41 rfl (by first | rfl | exact isR_rf _) ?_
            refine V_aret hZ hE rfl (by first | rfl | exact isR_rf _) dX5_firstWithNoneAside_43 (by decide) (by decide) ?_
            rw [List.find?_cons_of_pos (by simp [noneA, hz])] at hf
            exact ⟨by rw [← hf]; rfl, rfl⟩
          | some y =>
            refine V_ifnonnullR (tgt := 44) hZ dX5_firstWithNoneAside_38 (by decide) ?_
            refine V_iincv hZ dX5_firstWithNoneAside_44 rfl (by decide) (by first | rfl | simp [okp, cat_rf, cat_ref, cat_int, cat_null]) (by first | exact nI_inc _ | rfl) ?_
            refine V.lvc (by simp only [List.set_cons_zero, List.set_cons_succ, Nat.reduceAdd]; rfl) ?_
            refine V_goto (tgt := 14) hZ dX5_firstWithNoneAside_47 (by decide) ?_
            rw [List.find?_cons_of_neg (by simp [noneA, hz])] at hf
            exact ih (c + 1) (by omega) hf (some (.ref (adD S x)))
  exact key 8 0 rfl rfl none
end

