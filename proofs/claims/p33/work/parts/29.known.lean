def qF : Option Value → HP → Prop := fun _ _ => False
def qT (E : String) (h : HP) : String → HP → Prop := fun e h' => e = E ∧ h' = h
/-! what is there first; what is asked by number -/
def ftB (S : St) (r : Nat) (o : Option Nat) (c : Nat) : Bool := decide (c < nCp S ∧ cpRc (cps S c) = r ∧ ¬ cpPl (cps S c) = 3) && (match o with
  | none => true
  | some d => decide (cpTh (cps S c) < cpTh (cps S d)))
def ftN (S : St) (r : Nat) : Nat → Option Nat
  | 0 => none
  | k + 1 => if ftB S r (ftN S r k) k = true then some k else ftN S r k
theorem ftN_t {S : St} {r k : Nat} (h : ftB S r (ftN S r k) k = true) : ftN S r (k + 1) = some k := by simp [ftN, h]
theorem ftN_f {S : St} {r k : Nat} (h : ftB S r (ftN S r k) k = false) : ftN S r (k + 1) = ftN S r k := by simp [ftN, h]
theorem ft_prop {S : St} {r : Nat} : ∀ {k d : Nat}, ftN S r k = some d → d < nCp S ∧ cpRc (cps S d) = r ∧ ¬ cpPl (cps S d) = 3 := by
  intro k
  induction k with
  | zero => intro d h; cases h
  | succ k ih =>
    intro d h
    cases hb : ftB S r (ftN S r k) k with
    | true =>
      rw [ftN_t hb] at h
      cases h
      simp only [ftB, Bool.and_eq_true, decide_eq_true_eq] at hb
      exact hb.1
    | false =>
      rw [ftN_f hb] at h
      exact ih h
theorem c_firstThere (G : GC) {h : HP} {S : St} (R : Rep S h) (W : Wf S) {r : Nat} (hr : r < nRc S) : Calls G yX5_firstThere cX5_firstThere 7 (.some (.object "BookplateHall$Copy")) 0 0 0 0 [.ref (aH S), .ref (adR S r)] h (qV (va_rf ((ftN S r 30).map (adC S))) h) qX := by
  have h1 := R.hall
  have h2 := R.copies
  refine Calls_of1 (by decide +kernel) (by simp [cat_rf, cat_ref, cat_int, cat_null]) (by simp) (lv0 := [some (.ref (aH S)), some (.ref (adR S r)), none, none, none, none, none]) rfl ?_
  intro Z hG hZ hE hN
  subst hG
  refine V_null hZ dX5_firstThere_0 ?_
  refine V_astore_n hZ 2 rfl dX5_firstThere_1 (by first | rfl | exact isR_rf _) (by decide) (by first | rfl | simp [okp, cat_rf, cat_ref, cat_int, cat_null]) ?_
  refine V.lvc (by simp only [List.set_cons_zero, List.set_cons_succ, Nat.reduceAdd]; rfl) ?_
  refine V_aload_n hZ 0 dX5_firstThere_2 rfl rfl (by first | rfl | exact isR_rf _) ?_
  refine V_getfield hZ fl_X5_23.r dX5_firstThere_3 (by assumption) (by rfl) ?_
  refine V_astore_n hZ 3 rfl dX5_firstThere_6 (by first | rfl | exact isR_rf _) (by decide) (by first | rfl | simp [okp, cat_rf, cat_ref, cat_int, cat_null]) ?_
  refine V.lvc (by simp only [List.set_cons_zero, List.set_cons_succ, Nat.reduceAdd]; rfl) ?_
  refine V_aload_n hZ 3 dX5_firstThere_7 rfl rfl (by first | rfl | exact isR_rf _) ?_
  refine V_alenR hZ dX5_firstThere_8 (by assumption) ?_
  refine V_istore hZ dX5_firstThere_9 (by decide) (by first | rfl | simp [okp, cat_rf, cat_ref, cat_int, cat_null]) ?_
  refine V.lvc (by simp only [List.set_cons_zero, List.set_cons_succ, Nat.reduceAdd]; rfl) ?_
  refine V_iconst (v := 0) hZ dX5_firstThere_11 (by decide) ?_
  refine V_istore hZ dX5_firstThere_12 (by decide) (by first | rfl | simp [okp, cat_rf, cat_ref, cat_int, cat_null]) ?_
  refine V.lvc (by simp only [List.set_cons_zero, List.set_cons_succ, Nat.reduceAdd]; rfl) ?_
  have key : ∀ m c, c + m = 30 → ∀ w, V Z 14 [some (.ref (aH S)), some (.ref (adR S r)), some (va_rf ((ftN S r c).map (adC S))), some (.ref (aCs S)), some (.int (nI 30)), some (.int (nI c)), w] [] h 0 0 := by
    intro m
    induction m with
    | zero =>
      intro c hcm  w
      have hc : c = 30 := by omega
      subst hc
      refine V_iload hZ dX5_firstThere_14 rfl ?_
      refine V_iload hZ dX5_firstThere_16 rfl ?_
      refine V_icmp_ge (tgt := 75) hZ dX5_firstThere_18 (by decide) (fun cE => ?_) (fun cE => ?_)
      · refine V_aload_n hZ 2 dX5_firstThere_75 rfl rfl (by first | rfl | exact isR_rf _) ?_
        refine V_aret hZ hE rfl (by first | rfl | exact isR_rf _) dX5_firstThere_76 (by decide) (by decide) ?_
        exact ⟨rfl, rfl⟩
      · exact absurd (by decide) cE
    | succ m ih =>
      intro c hcm  w
      have hcN : c < 30 := by omega
      refine V_iload hZ dX5_firstThere_14 rfl ?_
      refine V_iload hZ dX5_firstThere_16 rfl ?_
      refine V_icmp_ge (tgt := 75) hZ dX5_firstThere_18 (by decide) (fun cE => ?_) (fun cE => ?_)
      · have cE2 : 30 ≤ c := (nI_leI (a := 30) (by decide) (by omega)).mp cE
        omega
      · refine V_aload_n hZ 3 dX5_firstThere_21 rfl rfl (by first | rfl | exact isR_rf _) ?_
        refine V_iload hZ dX5_firstThere_22 rfl ?_
        by_cases hi : c < nCp S
        · refine V_aaldn hZ dX5_firstThere_24 (by assumption) hcN (by decide) (v := .ref (adC S c)) (rowf_lt hi) ?_
          refine V_astore hZ dX5_firstThere_25 (by first | rfl | exact isR_rf _) (by decide) (by first | rfl | simp [okp, cat_rf, cat_ref, cat_int, cat_null]) ?_
          refine V.lvc (by simp only [List.set_cons_zero, List.set_cons_succ, Nat.reduceAdd]; rfl) ?_
          refine V_aload hZ dX5_firstThere_27 rfl (by first | rfl | exact isR_rf _) ?_
          refine V_ifnullR hZ dX5_firstThere_29 ?_
          have h3 := R.copy hi
          refine V_aload hZ dX5_firstThere_32 rfl (by first | rfl | exact isR_rf _) ?_
          refine V_getfield hZ fl_X5_192.r dX5_firstThere_34 (by assumption) (by rfl) ?_
          refine V_aload_n hZ 1 dX5_firstThere_37 rfl rfl (by first | rfl | exact isR_rf _) ?_
          refine V_acmp_ne (tgt := 69) hZ dX5_firstThere_38 (by decide) (by first | rfl | exact isR_rf _) (by first | rfl | exact isR_rf _) (fun c1 => ?_) (fun c1 => ?_)
          · refine V_iincv hZ dX5_firstThere_69 rfl (by decide) (by first | rfl | simp [okp, cat_rf, cat_ref, cat_int, cat_null]) (by first | exact nI_inc _ | rfl) ?_
            refine V.lvc (by simp only [List.set_cons_zero, List.set_cons_succ, Nat.reduceAdd]; rfl) ?_
            refine V_goto (tgt := 14) hZ dX5_firstThere_72 (by decide) ?_
            have e := ih (c + 1) (by omega) (some (.ref (adC S c)))
            have c2 : ¬ cpRc (cps S c) = r := fun z => c1 (by rw [z])
            rw [ftN_f (by simp [ftB, c2])] at e
            exact e
          · have c2 : cpRc (cps S c) = r := (recIff R W (W_rec W hi) hr).mp (refIff.mp c1)
            refine V_aload hZ dX5_firstThere_41 rfl (by first | rfl | exact isR_rf _) ?_
            refine V_getfield hZ fl_X5_215.r dX5_firstThere_43 (by assumption) (by rfl) ?_
            refine V_iconst (v := 3) hZ dX5_firstThere_46 (by decide) ?_
            refine V_icmp_eq (tgt := 69) hZ dX5_firstThere_47 (by decide) (fun c3 => ?_) (fun c3 => ?_)
            · refine V_iincv hZ dX5_firstThere_69 rfl (by decide) (by first | rfl | simp [okp, cat_rf, cat_ref, cat_int, cat_null]) (by first | exact nI_inc _ | rfl) ?_
              refine V.lvc (by simp only [List.set_cons_zero, List.set_cons_succ, Nat.reduceAdd]; rfl) ?_
              refine V_goto (tgt := 14) hZ dX5_firstThere_72 (by decide) ?_
              have e := ih (c + 1) (by omega) (some (.ref (adC S c)))
              rw [ftN_f (by simp [ftB, c3])] at e
              exact e
            · refine V_aload_n hZ 2 dX5_firstThere_50 rfl rfl (by first | rfl | exact isR_rf _) ?_
              cases ho : ftN S r c with
              | none =>
                refine V_ifnullN (tgt := 66) hZ dX5_firstThere_51 (by decide) ?_
                refine V_aload hZ dX5_firstThere_66 rfl (by first | rfl | exact isR_rf _) ?_
                refine V_astore_n hZ 2 rfl dX5_firstThere_68 (by first | rfl | exact isR_rf _) (by decide) (by first | rfl | simp [okp, cat_rf, cat_ref, cat_int, cat_null]) ?_
                refine V.lvc (by simp only [List.set_cons_zero, List.set_cons_succ, Nat.reduceAdd]; rfl) ?_
                refine V_iincv hZ dX5_firstThere_69 rfl (by decide) (by first | rfl | simp [okp, cat_rf, cat_ref, cat_int, cat_null]) (by first | exact nI_inc _ | rfl) ?_
                refine V.lvc (by simp only [List.set_cons_zero, List.set_cons_succ, Nat.reduceAdd]; rfl) ?_
                refine V_goto (tgt := 14) hZ dX5_firstThere_72 (by decide) ?_
                have e := ih (c + 1) (by omega) (some (.ref (adC S c)))
                rw [ftN_t (by simp [ftB, ho, hi, c2, c3])] at e
                exact e
              | some d =>
                have hd := ft_prop ho
                have h5 := R.copy hd.1
                refine V_ifnullR hZ dX5_firstThere_51 ?_
                refine V_aload hZ dX5_firstThere_54 rfl (by first | rfl | exact isR_rf _) ?_
                refine V_getfield hZ fl_X5_398.r dX5_firstThere_56 (by assumption) (by rfl) ?_
                refine V_aload_n hZ 2 dX5_firstThere_59 rfl rfl (by first | rfl | exact isR_rf _) ?_
                refine V_getfield hZ fl_X5_398.r dX5_firstThere_60 (by assumption) (by rfl) ?_
                refine V_icmp_ge (tgt := 69) hZ dX5_firstThere_63 (by decide) (fun c4 => ?_) (fun c4 => ?_)
                · refine V_iincv hZ dX5_firstThere_69 rfl (by decide) (by first | rfl | simp [okp, cat_rf, cat_ref, cat_int, cat_null]) (by first | exact nI_inc _ | rfl) ?_
                  refine V.lvc (by simp only [List.set_cons_zero, List.set_cons_succ, Nat.reduceAdd]; rfl) ?_
                  refine V_goto (tgt := 14) hZ dX5_firstThere_72 (by decide) ?_
                  have e := ih (c + 1) (by omega) (some (.ref (adC S c)))
                  have c5 : ¬ cpTh (cps S c) < cpTh (cps S d) := Int32.not_lt.mpr c4
                  rw [ftN_f (by simp [ftB, ho, c5]), ho] at e
                  exact e
                · refine V_aload hZ dX5_firstThere_66 rfl (by first | rfl | exact isR_rf _) ?_
                  refine V_astore_n hZ 2 rfl dX5_firstThere_68 (by first | rfl | exact isR_rf _) (by decide) (by first | rfl | simp [okp, cat_rf, cat_ref, cat_int, cat_null]) ?_
                  refine V.lvc (by simp only [List.set_cons_zero, List.set_cons_succ, Nat.reduceAdd]; rfl) ?_
                  refine V_iincv hZ dX5_firstThere_69 rfl (by decide) (by first | rfl | simp [okp, cat_rf, cat_ref, cat_int, cat_null]) (by first | exact nI_inc _ | rfl) ?_
                  refine V.lvc (by simp only [List.set_cons_zero, List.set_cons_succ, Nat.reduceAdd]; rfl) ?_
                  refine V_goto (tgt := 14) hZ dX5_firstThere_72 (by decide) ?_
                  have e := ih (c + 1) (by omega) (some (.ref (adC S c)))
                  have c5 : cpTh (cps S c) < cpTh (cps S d) := Int32.not_le.mp c4
                  rw [ftN_t (by simp [ftB, ho, hi, c2, c3, c5])] at e
                  exact e
        · refine V_aaldn hZ dX5_firstThere_24 (by assumption) hcN (by decide) (v := .null) (rowf_ge hi) ?_
          refine V_astore hZ dX5_firstThere_25 (by first | rfl | exact isR_rf _) (by decide) (by first | rfl | simp [okp, cat_rf, cat_ref, cat_int, cat_null]) ?_
          refine V.lvc (by simp only [List.set_cons_zero, List.set_cons_succ, Nat.reduceAdd]; rfl) ?_
          refine V_aload hZ dX5_firstThere_27 rfl (by first | rfl | exact isR_rf _) ?_
          refine V_ifnullN (tgt := 69) hZ dX5_firstThere_29 (by decide) ?_
          refine V_iincv hZ dX5_firstThere_69 rfl (by decide) (by first | rfl | simp [okp, cat_rf, cat_ref, cat_int, cat_null]) (by first | exact nI_inc _ | rfl) ?_
          refine V.lvc (by simp only [List.set_cons_zero, List.set_cons_succ, Nat.reduceAdd]; rfl) ?_
          refine V_goto (tgt := 14) hZ dX5_firstThere_72 (by decide) ?_
          have e := ih (c + 1) (by omega) (some .null)
          rw [ftN_f (by simp [ftB, hi])] at e
          exact e
  exact key 30 0 rfl none
/-- those who wait get one each, in their order; the answer for x, and what is there when -/
def servN (x r : Nat) : List Nat → St → Int32 × St
  | [], T => (-1, T)
  | y :: l, T => if noneA T r y = true then
      match ftN T r 30 with
      | none => (-1, T)
      | some c => if y = x then (cpTh (cps T c), T) else servN x r l (setCp T c (thd (cps T c) (cpTh (cps T c) + daysN (rdKi (rds T y)))))
    else servN x r l T
theorem c_daysUntilServed (G : GC) {h : HP} {S : St} (R : Rep S h) (W : Wf S) {x r : Nat} (hx : x < nRd S) (hr : r < nRc S) : Calls G yX5_daysUntilServed cX5_daysUntilServed 8 (.some .int) 3 67 0 0 [.ref (aH S), .ref (adD S x), .ref (adR S r)] h (fun v h' => v = some (.int (servN x r (lin S r) (rkS S r)).1) ∧ Rep (servN x r (lin S r) (rkS S r)).2 h') qX := by
  have h1 := R.hall
  refine Calls_of1 (by decide +kernel) (by simp [cat_rf, cat_ref, cat_int, cat_null]) (by simp) (lv0 := [some (.ref (aH S)), some (.ref (adD S x)), some (.ref (adR S r)), none, none, none, none, none]) rfl ?_
  intro Z hG hZ hE hN
  subst hG
  refine V_aload_n hZ 0 dX5_daysUntilServed_0 rfl rfl (by first | rfl | exact isR_rf _) ?_
  refine V_aload_n hZ 2 dX5_daysUntilServed_1 rfl rfl (by first | rfl | exact isR_rf _) ?_
  refine V_invV hZ me_X5_reckonWhenThere mi_X5_reckonWhenThere ml_X5_391 (c_reckonWhenThere Z.1 R W hr) dX5_daysUntilServed_2 rfl rfl (by assumption) rfl rfl ⟨by decide, by decide⟩ (by first | decide | simp [cat_rf, cat_ref, cat_int, cat_null]) ⟨by decide, by decide⟩ (fun _ _ hq => hq.elim) ?_
  rintro _ h' ⟨rfl, R1⟩
  obtain ⟨a, ha⟩ : ∃ a, a = servN x r (lin S r) (rkS S r) := ⟨_, rfl⟩
  have hs := same5_rk (S := S) (r := r)
  have e1 := aH_same hs
  have e2 := adD_same hs
  have e3 := adR_same hs
  have W1 := wf_rk W (r := r)
  have hr1 : r < nRc (rkS S r) := by rw [nRc_same hs]; exact hr
  have hx1 : x < nRd (rkS S r) := by rw [nRd_same hs]; exact hx
  have hl1 : lin (rkS S r) r = lin S r := by
    have : ∀ k, lin (itN (rkStep r) k S) = lin S := by
      intro k
      induction k with
      | zero => rfl
      | succ k ih =>
        rw [← ih]
        show lin (rkStep r (itN (rkStep r) k S) k) = _
        unfold rkStep
        split <;> rfl
    unfold rkS
    rw [this 30]
  rw [← e1, ← e2, ← e3]
  obtain ⟨T0, hT0⟩ : ∃ T0, T0 = rkS S r := ⟨_, rfl⟩
  rw [← hT0] at R1 W1 hr1 hx1 hl1 ha ⊢
  have f1 := R1.hall
  have f2 := R1.rec hr1
  have f3 := R1.line hr1
  have f4 := R1.row hr1
  refine V_aload_n hZ 2 dX5_daysUntilServed_5 rfl rfl (by first | rfl | exact isR_rf _) ?_
  refine V_getfield hZ fl_X5_235 dX5_daysUntilServed_6 (by assumption) (by rfl) ?_
  refine V_getfield hZ fl_X5_378 dX5_daysUntilServed_9 (by assumption) (by rfl) ?_
  refine V_astore_n hZ 3 rfl dX5_daysUntilServed_12 (by first | rfl | exact isR_rf _) (by decide) (by first | rfl | simp [okp, cat_rf, cat_ref, cat_int, cat_null]) ?_
  refine V.lvc (by simp only [List.set_cons_zero, List.set_cons_succ, Nat.reduceAdd]; rfl) ?_
  refine V_aload_n hZ 3 dX5_daysUntilServed_13 rfl rfl (by first | rfl | exact isR_rf _) ?_
  refine V_alenR hZ dX5_daysUntilServed_14 (by assumption) ?_
  refine V_istore hZ dX5_daysUntilServed_15 (by decide) (by first | rfl | simp [okp, cat_rf, cat_ref, cat_int, cat_null]) ?_
  refine V.lvc (by simp only [List.set_cons_zero, List.set_cons_succ, Nat.reduceAdd]; rfl) ?_
  refine V_iconst (v := 0) hZ dX5_daysUntilServed_17 (by decide) ?_
  refine V_istore hZ dX5_daysUntilServed_18 (by decide) (by first | rfl | simp [okp, cat_rf, cat_ref, cat_int, cat_null]) ?_
  refine V.lvc (by simp only [List.set_cons_zero, List.set_cons_succ, Nat.reduceAdd]; rfl) ?_
  have key : ∀ m c, c + m = 8 → ∀ (T : St) (g : HP) (u : Option Value), Rep T g → Wf T → x < nRd T → r < nRc T → servN x r ((lin T r).drop c) T = a → ∀ w, V Z 20 [some (.ref (aH T)), some (.ref (adD T x)), some (.ref (adR T r)), some (.ref (adQ T r)), some (.int (nI 8)), some (.int (nI c)), w, u] [] g 0 0 := by
    intro m
    induction m with
    | zero =>
      intro c hcm T g u R W hx hr hT w
      have hc : c = 8 := by omega
      subst hc
      have g1 := R.hall
      have g2 := R.rec hr
      have g3 := R.line hr
      have g4 := R.row hr
      refine V_iload hZ dX5_daysUntilServed_20 rfl ?_
      refine V_iload hZ dX5_daysUntilServed_22 rfl ?_
      refine V_icmp_ge (tgt := 95) hZ dX5_daysUntilServed_24 (by decide) (fun cE => ?_) (fun cE => ?_)
      · refine V_iconst (v := -1) hZ dX5_daysUntilServed_95 (by decide) ?_
        refine V_iret hZ hE rfl (by rfl) dX5_daysUntilServed_96 (by decide) (by decide) ?_
        rw [List.drop_eq_nil_of_le (W_lin W hr).1] at hT
        rw [← hT0, ← ha, ← hT]
        exact ⟨rfl, R⟩
      · exact absurd (by decide) cE
    | succ m ih =>
      intro c hcm T g u R W hx hr hT w
      have hcN : c < 8 := by omega
      have g1 := R.hall
      have g2 := R.rec hr
      have g3 := R.line hr
      have g4 := R.row hr
      refine V_iload hZ dX5_daysUntilServed_20 rfl ?_
      refine V_iload hZ dX5_daysUntilServed_22 rfl ?_
      refine V_icmp_ge (tgt := 95) hZ dX5_daysUntilServed_24 (by decide) (fun cE => ?_) (fun cE => ?_)
      · have cE2 : 8 ≤ c := (nI_leI (a := 8) (by decide) (by omega)).mp cE
        omega
      · refine V_aload_n hZ 3 dX5_daysUntilServed_27 rfl rfl (by first | rfl | exact isR_rf _) ?_
        refine V_iload hZ dX5_daysUntilServed_28 rfl ?_
        cases hx' : (lin T r)[c]? with
        | none =>
          refine V_aaldn hZ dX5_daysUntilServed_30 (by assumption) hcN (by decide) (v := .null) (lnf_none hx') ?_
          refine V_astore hZ dX5_daysUntilServed_31 (by first | rfl | exact isR_rf _) (by decide) (by first | rfl | simp [okp, cat_rf, cat_ref, cat_int, cat_null]) ?_
          refine V.lvc (by simp only [List.set_cons_zero, List.set_cons_succ, Nat.reduceAdd]; rfl) ?_
          refine V_aload hZ dX5_daysUntilServed_33 rfl (by first | rfl | exact isR_rf _) ?_
          refine V_ifnullN (tgt := 89) hZ dX5_daysUntilServed_35 (by decide) ?_
          refine V_iincv hZ dX5_daysUntilServed_89 rfl (by decide) (by first | rfl | simp [okp, cat_rf, cat_ref, cat_int, cat_null]) (by first | exact nI_inc _ | rfl) ?_
          refine V.lvc (by simp only [List.set_cons_zero, List.set_cons_succ, Nat.reduceAdd]; rfl) ?_
          refine V_goto (tgt := 20) hZ dX5_daysUntilServed_92 (by decide) ?_
          rw [drop_none hx'] at hT
          refine ih (c + 1) (by omega) T g _ R W hx hr ?_ _
          rw [← hT, List.drop_eq_nil_of_le (by have := List.getElem?_eq_none_iff.mp hx'; omega)]
        | some x' =>
          refine V_aaldn hZ dX5_daysUntilServed_30 (by assumption) hcN (by decide) (v := .ref (adD T x')) (lnf_some hx') ?_
          refine V_astore hZ dX5_daysUntilServed_31 (by first | rfl | exact isR_rf _) (by decide) (by first | rfl | simp [okp, cat_rf, cat_ref, cat_int, cat_null]) ?_
          refine V.lvc (by simp only [List.set_cons_zero, List.set_cons_succ, Nat.reduceAdd]; rfl) ?_
          refine V_aload hZ dX5_daysUntilServed_33 rfl (by first | rfl | exact isR_rf _) ?_
          refine V_ifnullR hZ dX5_daysUntilServed_35 ?_
          have hxb : x' < nRd T := (W_lin W hr).2 x' (List.mem_of_getElem? hx')
          rw [drop_some hx'] at hT
          refine V_aload_n hZ 0 dX5_daysUntilServed_38 rfl rfl (by first | rfl | exact isR_rf _) ?_
          refine V_aload hZ dX5_daysUntilServed_39 rfl (by first | rfl | exact isR_rf _) ?_
          refine V_aload_n hZ 2 dX5_daysUntilServed_41 rfl rfl (by first | rfl | exact isR_rf _) ?_
          refine V_invVp hZ me_X5_firstAside mi_X5_firstAside ml_X5_286 (c_firstAside Z.1 R W (o := some x') hr (fun y hy => by cases hy; exact hxb)) dX5_daysUntilServed_42 rfl rfl (by assumption) rfl rfl ⟨by decide, by decide⟩ (by first | decide | simp [cat_rf, cat_ref, cat_int, cat_null]) ⟨by decide, by decide⟩ ?_
          cases hz : fN (asideB T (some x') r) 30 0 with
          | some y =>
            refine V_ifnonnullR (tgt := 89) hZ dX5_daysUntilServed_45 (by decide) ?_
            refine V_iincv hZ dX5_daysUntilServed_89 rfl (by decide) (by first | rfl | simp [okp, cat_rf, cat_ref, cat_int, cat_null]) (by first | exact nI_inc _ | rfl) ?_
            refine V.lvc (by simp only [List.set_cons_zero, List.set_cons_succ, Nat.reduceAdd]; rfl) ?_
            refine V_goto (tgt := 20) hZ dX5_daysUntilServed_92 (by decide) ?_
            refine ih (c + 1) (by omega) T g _ R W hx hr ?_ _
            rw [← hT]
            simp [servN, noneA, hz]
          | none =>
            refine V_ifnonnullN hZ dX5_daysUntilServed_45 ?_
            have hn : noneA T r x' = true := by simp [noneA, hz]
            refine V_aload_n hZ 0 dX5_daysUntilServed_48 rfl rfl (by first | rfl | exact isR_rf _) ?_
            refine V_aload_n hZ 2 dX5_daysUntilServed_49 rfl rfl (by first | rfl | exact isR_rf _) ?_
            refine V_invVp hZ me_X5_firstThere mi_X5_firstThere ml_X5_395 (c_firstThere Z.1 R W hr) dX5_daysUntilServed_50 rfl rfl (by assumption) rfl rfl ⟨by decide, by decide⟩ (by first | decide | simp [cat_rf, cat_ref, cat_int, cat_null]) ⟨by decide, by decide⟩ ?_
            refine V_astore hZ dX5_daysUntilServed_53 (by first | rfl | exact isR_rf _) (by decide) (by first | rfl | simp [okp, cat_rf, cat_ref, cat_int, cat_null]) ?_
            refine V.lvc (by simp only [List.set_cons_zero, List.set_cons_succ, Nat.reduceAdd]; rfl) ?_
            refine V_aload hZ dX5_daysUntilServed_55 rfl (by first | rfl | exact isR_rf _) ?_
            cases hf : ftN T r 30 with
            | none =>
              refine V_ifnonnullN hZ dX5_daysUntilServed_57 ?_
              refine V_iconst (v := -1) hZ dX5_daysUntilServed_60 (by decide) ?_
              refine V_iret hZ hE rfl (by rfl) dX5_daysUntilServed_61 (by decide) (by decide) ?_
              rw [← hT0, ← ha, ← hT]
              simp only [servN, hn, hf, if_true]
              exact ⟨by first | rfl | trivial, R⟩
            | some d =>
              have hd := ft_prop hf
              have g5 := R.copy hd.1
              refine V_ifnonnullR (tgt := 62) hZ dX5_daysUntilServed_57 (by decide) ?_
              refine V_aload hZ dX5_daysUntilServed_62 rfl (by first | rfl | exact isR_rf _) ?_
              refine V_aload_n hZ 1 dX5_daysUntilServed_64 rfl rfl (by first | rfl | exact isR_rf _) ?_
              refine V_acmp_ne (tgt := 74) hZ dX5_daysUntilServed_65 (by decide) (by first | rfl | exact isR_rf _) (by first | rfl | exact isR_rf _) (fun c1 => ?_) (fun c1 => ?_)
              · have c2 : ¬ x' = x := fun z => c1 (by rw [z])
                have g6 := R.rdr hxb
                refine V_aload hZ dX5_daysUntilServed_74 rfl (by first | rfl | exact isR_rf _) ?_
                refine V_dup hZ dX5_daysUntilServed_76 (by first | rfl | exact cat_rf _) ?_
                refine V_getfield hZ fl_X5_398.r dX5_daysUntilServed_77 (by assumption) (by rfl) ?_
                refine V_aload hZ dX5_daysUntilServed_80 rfl (by first | rfl | exact isR_rf _) ?_
                refine V_invVp hZ me_X3_daysOfALoan mi_X3_daysOfALoan ml_X5_184 (c_daysOfALoan Z.1 g g6) dX5_daysUntilServed_82 rfl rfl (by assumption) rfl rfl ⟨by decide, by decide⟩ (by first | decide | simp [cat_rf, cat_ref, cat_int, cat_null]) ⟨by decide, by decide⟩ ?_
                refine V_iadd hZ dX5_daysUntilServed_85 ?_
                refine V_putfield hZ fl_X5_398 dX5_daysUntilServed_86 (by first | assumption | exact hup_self _ _ _) (by first | rfl | exact nar_rf _ _) (by first | rfl | exact fits_rf _ _) (by simp) ?_
                refine V_iincv hZ dX5_daysUntilServed_89 rfl (by decide) (by first | rfl | simp [okp, cat_rf, cat_ref, cat_int, cat_null]) (by first | exact nI_inc _ | rfl) ?_
                refine V.lvc (by simp only [List.set_cons_zero, List.set_cons_succ, Nat.reduceAdd]; rfl) ?_
                refine V_goto (tgt := 20) hZ dX5_daysUntilServed_92 (by decide) ?_
                refine ih (c + 1) (by omega) (setCp T d (thd (cps T d) (cpTh (cps T d) + daysN (rdKi (rds T x'))))) _ _ (rep_cp R W hd.1 (thd (cps T d) (cpTh (cps T d) + daysN (rdKi (rds T x'))))) (wf_th W hd.1 _) hx hr ?_ _
                rw [← hT]
                simp only [servN, hn, hf, if_true, if_neg c2]
              · have c2 : x' = x := R.rdrInj W hxb hx (refIff.mp c1)
                refine V_aload hZ dX5_daysUntilServed_68 rfl (by first | rfl | exact isR_rf _) ?_
                refine V_getfield hZ fl_X5_398.r dX5_daysUntilServed_70 (by assumption) (by rfl) ?_
                refine V_iret hZ hE rfl (by rfl) dX5_daysUntilServed_73 (by decide) (by decide) ?_
                rw [← hT0, ← ha, ← hT]
                simp only [servN, hn, hf, if_true, if_pos c2]
                exact ⟨by first | rfl | trivial, R⟩
  exact key 8 0 rfl _ _ none R1 W1 hx1 hr1 (by rw [ha, hl1]; rfl) none

theorem c_knownName (G : GC) {h : HP} {S : St} (R : Rep S h) (W : Wf S) {i : Nat} (hi : i < nNm S) : Calls G yX5_knownName cX5_knownName 3 (.some (.object "BookplateHall$Name")) 6 90 0 0 [.ref (aH S), .int (nI i)] h (qV (.ref (adN S i)) h) qX := by
  have h1 := R.hall
  have h2 := R.names
  have hb : i < 16 := Nat.lt_of_lt_of_le hi W.1
  refine Calls_of1 (by decide +kernel) (by simp [cat_rf, cat_ref, cat_int, cat_null]) (by simp) (lv0 := [some (.ref (aH S)), some (.int (nI i)), none]) rfl ?_
  intro Z hG hZ hE hN
  subst hG
  refine V_iload_n hZ 1 dX5_knownName_0 rfl rfl ?_
  refine V_if_lt (tgt := 22) hZ dX5_knownName_1 (by decide) (fun c1 => ?_) (fun c1 => ?_)
  · exact absurd c1 (nI_pos (by omega))
  · refine V_iload_n hZ 1 dX5_knownName_4 rfl rfl ?_
    refine V_aload_n hZ 0 dX5_knownName_5 rfl rfl (by first | rfl | exact isR_rf _) ?_
    refine V_getfield hZ fl_X5_11.r dX5_knownName_6 (by assumption) (by rfl) ?_
    refine V_alenR hZ dX5_knownName_9 (by assumption) ?_
    refine V_icmp_ge (tgt := 22) hZ dX5_knownName_10 (by decide) (fun c2 => ?_) (fun c2 => ?_)
    · have := (nI_leI (a := 16) (by decide) (by omega)).mp c2
      omega
    · refine V_aload_n hZ 0 dX5_knownName_13 rfl rfl (by first | rfl | exact isR_rf _) ?_
      refine V_getfield hZ fl_X5_11.r dX5_knownName_14 (by assumption) (by rfl) ?_
      refine V_iload_n hZ 1 dX5_knownName_17 rfl rfl ?_
      refine V_aaldn hZ dX5_knownName_18 (by assumption) hb (by decide) (v := .ref (adN S i)) (rowf_lt hi) ?_
      refine V_goto (tgt := 23) hZ dX5_knownName_19 (by decide) ?_
      refine V_astore_n hZ 2 rfl dX5_knownName_23 (by first | rfl | exact isR_rf _) (by decide) (by first | rfl | simp [okp, cat_rf, cat_ref, cat_int, cat_null]) ?_
      refine V.lvc (by simp only [List.set_cons_zero, List.set_cons_succ, Nat.reduceAdd]; rfl) ?_
      refine V_aload_n hZ 2 dX5_knownName_24 rfl rfl (by first | rfl | exact isR_rf _) ?_
      refine V_ifnonnullR (tgt := 39) hZ dX5_knownName_25 (by decide) ?_
      refine V_aload_n hZ 2 dX5_knownName_39 rfl rfl (by first | rfl | exact isR_rf _) ?_
      refine V_aret hZ hE rfl (by first | rfl | exact isR_rf _) dX5_knownName_40 (by decide) (by decide) ?_
      exact ⟨rfl, rfl⟩
theorem t_knownName (G : GC) {h : HP} {S : St} (R : Rep S h) {p : Int32} (hp : ∀ i, i < nNm S → p ≠ nI i) : Calls G yX5_knownName cX5_knownName 3 (.some (.object "BookplateHall$Name")) 6 90 1 6 [.ref (aH S), .int p] h qF (qT eIO h) := by
  have h1 := R.hall
  have h2 := R.names
  refine Calls_of1 (by decide +kernel) (by simp [cat_rf, cat_ref, cat_int, cat_null]) (by simp) (lv0 := [some (.ref (aH S)), some (.int p), none]) rfl ?_
  intro Z hG hZ hE hN
  subst hG
  have tail : V Z 25 [some (.ref (aH S)), some (.int p), some .null] [.null] h 0 0 := by
    refine V_ifnonnullN hZ dX5_knownName_25 ?_
    refine V_throwW hZ hE hN tw_268_319_272 dX5_knownName_28 dX5_knownName_31 dX5_knownName_32 dX5_knownName_35 dX5_knownName_38 (by decide) (by first | decide | simp [cat_rf, cat_ref, cat_int, cat_null]) (by decide) (by decide) ?_
    exact ⟨rfl, rfl⟩
  refine V_iload_n hZ 1 dX5_knownName_0 rfl rfl ?_
  refine V_if_lt (tgt := 22) hZ dX5_knownName_1 (by decide) (fun c1 => ?_) (fun c1 => ?_)
  · refine V_null hZ dX5_knownName_22 ?_
    refine V_astore_n hZ 2 rfl dX5_knownName_23 (by first | rfl | exact isR_rf _) (by decide) (by first | rfl | simp [okp, cat_rf, cat_ref, cat_int, cat_null]) ?_
    refine V.lvc (by simp only [List.set_cons_zero, List.set_cons_succ, Nat.reduceAdd]; rfl) ?_
    refine V_aload_n hZ 2 dX5_knownName_24 rfl rfl (by first | rfl | exact isR_rf _) ?_
    exact tail
  · refine V_iload_n hZ 1 dX5_knownName_4 rfl rfl ?_
    refine V_aload_n hZ 0 dX5_knownName_5 rfl rfl (by first | rfl | exact isR_rf _) ?_
    refine V_getfield hZ fl_X5_11.r dX5_knownName_6 (by assumption) (by rfl) ?_
    refine V_alenR hZ dX5_knownName_9 (by assumption) ?_
    obtain ⟨j, hj, rfl⟩ := nI_of c1
    refine V_icmp_ge (tgt := 22) hZ dX5_knownName_10 (by decide) (fun c2 => ?_) (fun c2 => ?_)
    · refine V_null hZ dX5_knownName_22 ?_
      refine V_astore_n hZ 2 rfl dX5_knownName_23 (by first | rfl | exact isR_rf _) (by decide) (by first | rfl | simp [okp, cat_rf, cat_ref, cat_int, cat_null]) ?_
      refine V.lvc (by simp only [List.set_cons_zero, List.set_cons_succ, Nat.reduceAdd]; rfl) ?_
      refine V_aload_n hZ 2 dX5_knownName_24 rfl rfl (by first | rfl | exact isR_rf _) ?_
      exact tail
    · have c3 : ¬ 16 ≤ j := fun z => c2 ((nI_leI (a := 16) (by decide) hj).mpr z)
      have c4 : ¬ j < nNm S := fun z => hp j z rfl
      refine V_aload_n hZ 0 dX5_knownName_13 rfl rfl (by first | rfl | exact isR_rf _) ?_
      refine V_getfield hZ fl_X5_11.r dX5_knownName_14 (by assumption) (by rfl) ?_
      refine V_iload_n hZ 1 dX5_knownName_17 rfl rfl ?_
      refine V_aaldn hZ dX5_knownName_18 (by assumption) (show j < 16 by omega) (by decide) (v := .null) (rowf_ge c4) ?_
      refine V_goto (tgt := 23) hZ dX5_knownName_19 (by decide) ?_
      refine V_astore_n hZ 2 rfl dX5_knownName_23 (by first | rfl | exact isR_rf _) (by decide) (by first | rfl | simp [okp, cat_rf, cat_ref, cat_int, cat_null]) ?_
      refine V.lvc (by simp only [List.set_cons_zero, List.set_cons_succ, Nat.reduceAdd]; rfl) ?_
      refine V_aload_n hZ 2 dX5_knownName_24 rfl rfl (by first | rfl | exact isR_rf _) ?_
      exact tail
theorem c_knownRecord (G : GC) {h : HP} {S : St} (R : Rep S h) (W : Wf S) {i : Nat} (hi : i < nRc S) : Calls G yX5_knownRecord cX5_knownRecord 3 (.some (.object "BookplateHall$BookRecord")) 6 90 0 0 [.ref (aH S), .int (nI i)] h (qV (.ref (adR S i)) h) qX := by
  have h1 := R.hall
  have h2 := R.records
  have hb : i < 20 := Nat.lt_of_lt_of_le hi W.2.1
  refine Calls_of1 (by decide +kernel) (by simp [cat_rf, cat_ref, cat_int, cat_null]) (by simp) (lv0 := [some (.ref (aH S)), some (.int (nI i)), none]) rfl ?_
  intro Z hG hZ hE hN
  subst hG
  refine V_iload_n hZ 1 dX5_knownRecord_0 rfl rfl ?_
  refine V_if_lt (tgt := 22) hZ dX5_knownRecord_1 (by decide) (fun c1 => ?_) (fun c1 => ?_)
  · exact absurd c1 (nI_pos (by omega))
  · refine V_iload_n hZ 1 dX5_knownRecord_4 rfl rfl ?_
    refine V_aload_n hZ 0 dX5_knownRecord_5 rfl rfl (by first | rfl | exact isR_rf _) ?_
    refine V_getfield hZ fl_X5_17.r dX5_knownRecord_6 (by assumption) (by rfl) ?_
    refine V_alenR hZ dX5_knownRecord_9 (by assumption) ?_
    refine V_icmp_ge (tgt := 22) hZ dX5_knownRecord_10 (by decide) (fun c2 => ?_) (fun c2 => ?_)
    · have := (nI_leI (a := 20) (by decide) (by omega)).mp c2
      omega
    · refine V_aload_n hZ 0 dX5_knownRecord_13 rfl rfl (by first | rfl | exact isR_rf _) ?_
      refine V_getfield hZ fl_X5_17.r dX5_knownRecord_14 (by assumption) (by rfl) ?_
      refine V_iload_n hZ 1 dX5_knownRecord_17 rfl rfl ?_
      refine V_aaldn hZ dX5_knownRecord_18 (by assumption) hb (by decide) (v := .ref (adR S i)) (rowf_lt hi) ?_
      refine V_goto (tgt := 23) hZ dX5_knownRecord_19 (by decide) ?_
      refine V_astore_n hZ 2 rfl dX5_knownRecord_23 (by first | rfl | exact isR_rf _) (by decide) (by first | rfl | simp [okp, cat_rf, cat_ref, cat_int, cat_null]) ?_
      refine V.lvc (by simp only [List.set_cons_zero, List.set_cons_succ, Nat.reduceAdd]; rfl) ?_
      refine V_aload_n hZ 2 dX5_knownRecord_24 rfl rfl (by first | rfl | exact isR_rf _) ?_
      refine V_ifnonnullR (tgt := 39) hZ dX5_knownRecord_25 (by decide) ?_
      refine V_aload_n hZ 2 dX5_knownRecord_39 rfl rfl (by first | rfl | exact isR_rf _) ?_
      refine V_aret hZ hE rfl (by first | rfl | exact isR_rf _) dX5_knownRecord_40 (by decide) (by decide) ?_
      exact ⟨rfl, rfl⟩
theorem t_knownRecord (G : GC) {h : HP} {S : St} (R : Rep S h) {p : Int32} (hp : ∀ i, i < nRc S → p ≠ nI i) : Calls G yX5_knownRecord cX5_knownRecord 3 (.some (.object "BookplateHall$BookRecord")) 6 90 1 6 [.ref (aH S), .int p] h qF (qT eIO h) := by
  have h1 := R.hall
  have h2 := R.records
  refine Calls_of1 (by decide +kernel) (by simp [cat_rf, cat_ref, cat_int, cat_null]) (by simp) (lv0 := [some (.ref (aH S)), some (.int p), none]) rfl ?_
  intro Z hG hZ hE hN
  subst hG
  have tail : V Z 25 [some (.ref (aH S)), some (.int p), some .null] [.null] h 0 0 := by
    refine V_ifnonnullN hZ dX5_knownRecord_25 ?_
    refine V_throwW hZ hE hN tw_268_321_272 dX5_knownRecord_28 dX5_knownRecord_31 dX5_knownRecord_32 dX5_knownRecord_35 dX5_knownRecord_38 (by decide) (by first | decide | simp [cat_rf, cat_ref, cat_int, cat_null]) (by decide) (by decide) ?_
    exact ⟨rfl, rfl⟩
  refine V_iload_n hZ 1 dX5_knownRecord_0 rfl rfl ?_
  refine V_if_lt (tgt := 22) hZ dX5_knownRecord_1 (by decide) (fun c1 => ?_) (fun c1 => ?_)
  · refine V_null hZ dX5_knownRecord_22 ?_
    refine V_astore_n hZ 2 rfl dX5_knownRecord_23 (by first | rfl | exact isR_rf _) (by decide) (by first | rfl | simp [okp, cat_rf, cat_ref, cat_int, cat_null]) ?_
    refine V.lvc (by simp only [List.set_cons_zero, List.set_cons_succ, Nat.reduceAdd]; rfl) ?_
    refine V_aload_n hZ 2 dX5_knownRecord_24 rfl rfl (by first | rfl | exact isR_rf _) ?_
    exact tail
  · refine V_iload_n hZ 1 dX5_knownRecord_4 rfl rfl ?_
    refine V_aload_n hZ 0 dX5_knownRecord_5 rfl rfl (by first | rfl | exact isR_rf _) ?_
    refine V_getfield hZ fl_X5_17.r dX5_knownRecord_6 (by assumption) (by rfl) ?_
    refine V_alenR hZ dX5_knownRecord_9 (by assumption) ?_
    obtain ⟨j, hj, rfl⟩ := nI_of c1
    refine V_icmp_ge (tgt := 22) hZ dX5_knownRecord_10 (by decide) (fun c2 => ?_) (fun c2 => ?_)
    · refine V_null hZ dX5_knownRecord_22 ?_
      refine V_astore_n hZ 2 rfl dX5_knownRecord_23 (by first | rfl | exact isR_rf _) (by decide) (by first | rfl | simp [okp, cat_rf, cat_ref, cat_int, cat_null]) ?_
      refine V.lvc (by simp only [List.set_cons_zero, List.set_cons_succ, Nat.reduceAdd]; rfl) ?_
      refine V_aload_n hZ 2 dX5_knownRecord_24 rfl rfl (by first | rfl | exact isR_rf _) ?_
      exact tail
    · have c3 : ¬ 20 ≤ j := fun z => c2 ((nI_leI (a := 20) (by decide) hj).mpr z)
      have c4 : ¬ j < nRc S := fun z => hp j z rfl
      refine V_aload_n hZ 0 dX5_knownRecord_13 rfl rfl (by first | rfl | exact isR_rf _) ?_
      refine V_getfield hZ fl_X5_17.r dX5_knownRecord_14 (by assumption) (by rfl) ?_
      refine V_iload_n hZ 1 dX5_knownRecord_17 rfl rfl ?_
      refine V_aaldn hZ dX5_knownRecord_18 (by assumption) (show j < 20 by omega) (by decide) (v := .null) (rowf_ge c4) ?_
      refine V_goto (tgt := 23) hZ dX5_knownRecord_19 (by decide) ?_
      refine V_astore_n hZ 2 rfl dX5_knownRecord_23 (by first | rfl | exact isR_rf _) (by decide) (by first | rfl | simp [okp, cat_rf, cat_ref, cat_int, cat_null]) ?_
      refine V.lvc (by simp only [List.set_cons_zero, List.set_cons_succ, Nat.reduceAdd]; rfl) ?_
      refine V_aload_n hZ 2 dX5_knownRecord_24 rfl rfl (by first | rfl | exact isR_rf _) ?_
      exact tail
theorem c_knownCopy (G : GC) {h : HP} {S : St} (R : Rep S h) (W : Wf S) {i : Nat} (hi : i < nCp S) : Calls G yX5_knownCopy cX5_knownCopy 3 (.some (.object "BookplateHall$Copy")) 6 90 0 0 [.ref (aH S), .int (nI i)] h (qV (.ref (adC S i)) h) qX := by
  have h1 := R.hall
  have h2 := R.copies
  have hb : i < 30 := Nat.lt_of_lt_of_le hi W.2.2.1
  refine Calls_of1 (by decide +kernel) (by simp [cat_rf, cat_ref, cat_int, cat_null]) (by simp) (lv0 := [some (.ref (aH S)), some (.int (nI i)), none]) rfl ?_
  intro Z hG hZ hE hN
  subst hG
  refine V_iload_n hZ 1 dX5_knownCopy_0 rfl rfl ?_
  refine V_if_lt (tgt := 22) hZ dX5_knownCopy_1 (by decide) (fun c1 => ?_) (fun c1 => ?_)
  · exact absurd c1 (nI_pos (by omega))
  · refine V_iload_n hZ 1 dX5_knownCopy_4 rfl rfl ?_
    refine V_aload_n hZ 0 dX5_knownCopy_5 rfl rfl (by first | rfl | exact isR_rf _) ?_
    refine V_getfield hZ fl_X5_23.r dX5_knownCopy_6 (by assumption) (by rfl) ?_
    refine V_alenR hZ dX5_knownCopy_9 (by assumption) ?_
    refine V_icmp_ge (tgt := 22) hZ dX5_knownCopy_10 (by decide) (fun c2 => ?_) (fun c2 => ?_)
    · have := (nI_leI (a := 30) (by decide) (by omega)).mp c2
      omega
    · refine V_aload_n hZ 0 dX5_knownCopy_13 rfl rfl (by first | rfl | exact isR_rf _) ?_
      refine V_getfield hZ fl_X5_23.r dX5_knownCopy_14 (by assumption) (by rfl) ?_
      refine V_iload_n hZ 1 dX5_knownCopy_17 rfl rfl ?_
      refine V_aaldn hZ dX5_knownCopy_18 (by assumption) hb (by decide) (v := .ref (adC S i)) (rowf_lt hi) ?_
      refine V_goto (tgt := 23) hZ dX5_knownCopy_19 (by decide) ?_
      refine V_astore_n hZ 2 rfl dX5_knownCopy_23 (by first | rfl | exact isR_rf _) (by decide) (by first | rfl | simp [okp, cat_rf, cat_ref, cat_int, cat_null]) ?_
      refine V.lvc (by simp only [List.set_cons_zero, List.set_cons_succ, Nat.reduceAdd]; rfl) ?_
      refine V_aload_n hZ 2 dX5_knownCopy_24 rfl rfl (by first | rfl | exact isR_rf _) ?_
      refine V_ifnonnullR (tgt := 39) hZ dX5_knownCopy_25 (by decide) ?_
      refine V_aload_n hZ 2 dX5_knownCopy_39 rfl rfl (by first | rfl | exact isR_rf _) ?_
      refine V_aret hZ hE rfl (by first | rfl | exact isR_rf _) dX5_knownCopy_40 (by decide) (by decide) ?_
      exact ⟨rfl, rfl⟩
theorem t_knownCopy (G : GC) {h : HP} {S : St} (R : Rep S h) {p : Int32} (hp : ∀ i, i < nCp S → p ≠ nI i) : Calls G yX5_knownCopy cX5_knownCopy 3 (.some (.object "BookplateHall$Copy")) 6 90 1 6 [.ref (aH S), .int p] h qF (qT eIO h) := by
  have h1 := R.hall
  have h2 := R.copies
  refine Calls_of1 (by decide +kernel) (by simp [cat_rf, cat_ref, cat_int, cat_null]) (by simp) (lv0 := [some (.ref (aH S)), some (.int p), none]) rfl ?_
  intro Z hG hZ hE hN
  subst hG
  have tail : V Z 25 [some (.ref (aH S)), some (.int p), some .null] [.null] h 0 0 := by
    refine V_ifnonnullN hZ dX5_knownCopy_25 ?_
    refine V_throwW hZ hE hN tw_268_323_272 dX5_knownCopy_28 dX5_knownCopy_31 dX5_knownCopy_32 dX5_knownCopy_35 dX5_knownCopy_38 (by decide) (by first | decide | simp [cat_rf, cat_ref, cat_int, cat_null]) (by decide) (by decide) ?_
    exact ⟨rfl, rfl⟩
  refine V_iload_n hZ 1 dX5_knownCopy_0 rfl rfl ?_
  refine V_if_lt (tgt := 22) hZ dX5_knownCopy_1 (by decide) (fun c1 => ?_) (fun c1 => ?_)
  · refine V_null hZ dX5_knownCopy_22 ?_
    refine V_astore_n hZ 2 rfl dX5_knownCopy_23 (by first | rfl | exact isR_rf _) (by decide) (by first | rfl | simp [okp, cat_rf, cat_ref, cat_int, cat_null]) ?_
    refine V.lvc (by simp only [List.set_cons_zero, List.set_cons_succ, Nat.reduceAdd]; rfl) ?_
    refine V_aload_n hZ 2 dX5_knownCopy_24 rfl rfl (by first | rfl | exact isR_rf _) ?_
    exact tail
  · refine V_iload_n hZ 1 dX5_knownCopy_4 rfl rfl ?_
    refine V_aload_n hZ 0 dX5_knownCopy_5 rfl rfl (by first | rfl | exact isR_rf _) ?_
    refine V_getfield hZ fl_X5_23.r dX5_knownCopy_6 (by assumption) (by rfl) ?_
    refine V_alenR hZ dX5_knownCopy_9 (by assumption) ?_
    obtain ⟨j, hj, rfl⟩ := nI_of c1
    refine V_icmp_ge (tgt := 22) hZ dX5_knownCopy_10 (by decide) (fun c2 => ?_) (fun c2 => ?_)
    · refine V_null hZ dX5_knownCopy_22 ?_
      refine V_astore_n hZ 2 rfl dX5_knownCopy_23 (by first | rfl | exact isR_rf _) (by decide) (by first | rfl | simp [okp, cat_rf, cat_ref, cat_int, cat_null]) ?_
      refine V.lvc (by simp only [List.set_cons_zero, List.set_cons_succ, Nat.reduceAdd]; rfl) ?_
      refine V_aload_n hZ 2 dX5_knownCopy_24 rfl rfl (by first | rfl | exact isR_rf _) ?_
      exact tail
    · have c3 : ¬ 30 ≤ j := fun z => c2 ((nI_leI (a := 30) (by decide) hj).mpr z)
      have c4 : ¬ j < nCp S := fun z => hp j z rfl
      refine V_aload_n hZ 0 dX5_knownCopy_13 rfl rfl (by first | rfl | exact isR_rf _) ?_
      refine V_getfield hZ fl_X5_23.r dX5_knownCopy_14 (by assumption) (by rfl) ?_
      refine V_iload_n hZ 1 dX5_knownCopy_17 rfl rfl ?_
      refine V_aaldn hZ dX5_knownCopy_18 (by assumption) (show j < 30 by omega) (by decide) (v := .null) (rowf_ge c4) ?_
      refine V_goto (tgt := 23) hZ dX5_knownCopy_19 (by decide) ?_
      refine V_astore_n hZ 2 rfl dX5_knownCopy_23 (by first | rfl | exact isR_rf _) (by decide) (by first | rfl | simp [okp, cat_rf, cat_ref, cat_int, cat_null]) ?_
      refine V.lvc (by simp only [List.set_cons_zero, List.set_cons_succ, Nat.reduceAdd]; rfl) ?_
      refine V_aload_n hZ 2 dX5_knownCopy_24 rfl rfl (by first | rfl | exact isR_rf _) ?_
      exact tail
theorem c_knownReader (G : GC) {h : HP} {S : St} (R : Rep S h) (W : Wf S) {i : Nat} (hi : i < nRd S) : Calls G yX5_knownReader cX5_knownReader 3 (.some (.object "BookplateHall$Reader")) 6 90 0 0 [.ref (aH S), .int (nI i)] h (qV (.ref (adD S i)) h) qX := by
  have h1 := R.hall
  have h2 := R.readers
  have hb : i < 8 := Nat.lt_of_lt_of_le hi W.2.2.2.1
  refine Calls_of1 (by decide +kernel) (by simp [cat_rf, cat_ref, cat_int, cat_null]) (by simp) (lv0 := [some (.ref (aH S)), some (.int (nI i)), none]) rfl ?_
  intro Z hG hZ hE hN
  subst hG
  refine V_iload_n hZ 1 dX5_knownReader_0 rfl rfl ?_
  refine V_if_lt (tgt := 22) hZ dX5_knownReader_1 (by decide) (fun c1 => ?_) (fun c1 => ?_)
  · exact absurd c1 (nI_pos (by omega))
  · refine V_iload_n hZ 1 dX5_knownReader_4 rfl rfl ?_
    refine V_aload_n hZ 0 dX5_knownReader_5 rfl rfl (by first | rfl | exact isR_rf _) ?_
    refine V_getfield hZ fl_X5_29.r dX5_knownReader_6 (by assumption) (by rfl) ?_
    refine V_alenR hZ dX5_knownReader_9 (by assumption) ?_
    refine V_icmp_ge (tgt := 22) hZ dX5_knownReader_10 (by decide) (fun c2 => ?_) (fun c2 => ?_)
    · have := (nI_leI (a := 8) (by decide) (by omega)).mp c2
      omega
    · refine V_aload_n hZ 0 dX5_knownReader_13 rfl rfl (by first | rfl | exact isR_rf _) ?_
      refine V_getfield hZ fl_X5_29.r dX5_knownReader_14 (by assumption) (by rfl) ?_
      refine V_iload_n hZ 1 dX5_knownReader_17 rfl rfl ?_
      refine V_aaldn hZ dX5_knownReader_18 (by assumption) hb (by decide) (v := .ref (adD S i)) (rowf_lt hi) ?_
      refine V_goto (tgt := 23) hZ dX5_knownReader_19 (by decide) ?_
      refine V_astore_n hZ 2 rfl dX5_knownReader_23 (by first | rfl | exact isR_rf _) (by decide) (by first | rfl | simp [okp, cat_rf, cat_ref, cat_int, cat_null]) ?_
      refine V.lvc (by simp only [List.set_cons_zero, List.set_cons_succ, Nat.reduceAdd]; rfl) ?_
      refine V_aload_n hZ 2 dX5_knownReader_24 rfl rfl (by first | rfl | exact isR_rf _) ?_
      refine V_ifnonnullR (tgt := 39) hZ dX5_knownReader_25 (by decide) ?_
      refine V_aload_n hZ 2 dX5_knownReader_39 rfl rfl (by first | rfl | exact isR_rf _) ?_
      refine V_aret hZ hE rfl (by first | rfl | exact isR_rf _) dX5_knownReader_40 (by decide) (by decide) ?_
      exact ⟨rfl, rfl⟩
theorem t_knownReader (G : GC) {h : HP} {S : St} (R : Rep S h) {p : Int32} (hp : ∀ i, i < nRd S → p ≠ nI i) : Calls G yX5_knownReader cX5_knownReader 3 (.some (.object "BookplateHall$Reader")) 6 90 1 6 [.ref (aH S), .int p] h qF (qT eIO h) := by
  have h1 := R.hall
  have h2 := R.readers
  refine Calls_of1 (by decide +kernel) (by simp [cat_rf, cat_ref, cat_int, cat_null]) (by simp) (lv0 := [some (.ref (aH S)), some (.int p), none]) rfl ?_
  intro Z hG hZ hE hN
  subst hG
  have tail : V Z 25 [some (.ref (aH S)), some (.int p), some .null] [.null] h 0 0 := by
    refine V_ifnonnullN hZ dX5_knownReader_25 ?_
    refine V_throwW hZ hE hN tw_268_325_272 dX5_knownReader_28 dX5_knownReader_31 dX5_knownReader_32 dX5_knownReader_35 dX5_knownReader_38 (by decide) (by first | decide | simp [cat_rf, cat_ref, cat_int, cat_null]) (by decide) (by decide) ?_
    exact ⟨rfl, rfl⟩
  refine V_iload_n hZ 1 dX5_knownReader_0 rfl rfl ?_
  refine V_if_lt (tgt := 22) hZ dX5_knownReader_1 (by decide) (fun c1 => ?_) (fun c1 => ?_)
  · refine V_null hZ dX5_knownReader_22 ?_
    refine V_astore_n hZ 2 rfl dX5_knownReader_23 (by first | rfl | exact isR_rf _) (by decide) (by first | rfl | simp [okp, cat_rf, cat_ref, cat_int, cat_null]) ?_
    refine V.lvc (by simp only [List.set_cons_zero, List.set_cons_succ, Nat.reduceAdd]; rfl) ?_
    refine V_aload_n hZ 2 dX5_knownReader_24 rfl rfl (by first | rfl | exact isR_rf _) ?_
    exact tail
  · refine V_iload_n hZ 1 dX5_knownReader_4 rfl rfl ?_
    refine V_aload_n hZ 0 dX5_knownReader_5 rfl rfl (by first | rfl | exact isR_rf _) ?_
    refine V_getfield hZ fl_X5_29.r dX5_knownReader_6 (by assumption) (by rfl) ?_
    refine V_alenR hZ dX5_knownReader_9 (by assumption) ?_
    obtain ⟨j, hj, rfl⟩ := nI_of c1
    refine V_icmp_ge (tgt := 22) hZ dX5_knownReader_10 (by decide) (fun c2 => ?_) (fun c2 => ?_)
    · refine V_null hZ dX5_knownReader_22 ?_
      refine V_astore_n hZ 2 rfl dX5_knownReader_23 (by first | rfl | exact isR_rf _) (by decide) (by first | rfl | simp [okp, cat_rf, cat_ref, cat_int, cat_null]) ?_
      refine V.lvc (by simp only [List.set_cons_zero, List.set_cons_succ, Nat.reduceAdd]; rfl) ?_
      refine V_aload_n hZ 2 dX5_knownReader_24 rfl rfl (by first | rfl | exact isR_rf _) ?_
      exact tail
    · have c3 : ¬ 8 ≤ j := fun z => c2 ((nI_leI (a := 8) (by decide) hj).mpr z)
      have c4 : ¬ j < nRd S := fun z => hp j z rfl
      refine V_aload_n hZ 0 dX5_knownReader_13 rfl rfl (by first | rfl | exact isR_rf _) ?_
      refine V_getfield hZ fl_X5_29.r dX5_knownReader_14 (by assumption) (by rfl) ?_
      refine V_iload_n hZ 1 dX5_knownReader_17 rfl rfl ?_
      refine V_aaldn hZ dX5_knownReader_18 (by assumption) (show j < 8 by omega) (by decide) (v := .null) (rowf_ge c4) ?_
      refine V_goto (tgt := 23) hZ dX5_knownReader_19 (by decide) ?_
      refine V_astore_n hZ 2 rfl dX5_knownReader_23 (by first | rfl | exact isR_rf _) (by decide) (by first | rfl | simp [okp, cat_rf, cat_ref, cat_int, cat_null]) ?_
      refine V.lvc (by simp only [List.set_cons_zero, List.set_cons_succ, Nat.reduceAdd]; rfl) ?_
      refine V_aload_n hZ 2 dX5_knownReader_24 rfl rfl (by first | rfl | exact isR_rf _) ?_
      exact tail
theorem c_requireBetween (G : GC) (h : HP) {v a b : Int32} (h1 : ¬ v < a) (h2 : ¬ b < v) : Calls G yX5_requireBetween cX5_requireBetween 3 (.none : Option Jvm.ClassFile.FieldType) 6 90 0 0 [.int v, .int a, .int b] h (fun r h' => r = none ∧ h' = h) qX := by
  refine Calls_of1 (by decide +kernel) (by simp [cat_rf, cat_ref, cat_int, cat_null]) (by simp) (lv0 := [some (.int v), some (.int a), some (.int b)]) rfl ?_
  intro Z hG hZ hE hN
  subst hG
  refine V_iload_n hZ 0 dX5_requireBetween_0 rfl rfl ?_
  refine V_iload_n hZ 1 dX5_requireBetween_1 rfl rfl ?_
  refine V_icmp_lt (tgt := 10) hZ dX5_requireBetween_2 (by decide) (fun c1 => ?_) (fun c1 => ?_)
  · exact absurd c1 h1
  · refine V_iload_n hZ 0 dX5_requireBetween_5 rfl rfl ?_
    refine V_iload_n hZ 2 dX5_requireBetween_6 rfl rfl ?_
    refine V_icmp_le (tgt := 21) hZ dX5_requireBetween_7 (by decide) (fun c2 => ?_) (fun c2 => ?_)
    · refine V_vret hZ hE rfl dX5_requireBetween_21 (by decide) (by decide) ?_
      exact ⟨rfl, rfl⟩
    · exact absurd (Int32.not_le.mp c2) h2
theorem t_requireBetween (G : GC) (h : HP) {v a b : Int32} (h1 : v < a ∨ b < v) : Calls G yX5_requireBetween cX5_requireBetween 3 (.none : Option Jvm.ClassFile.FieldType) 6 90 1 6 [.int v, .int a, .int b] h qF (qT eIA h) := by
  refine Calls_of1 (by decide +kernel) (by simp [cat_rf, cat_ref, cat_int, cat_null]) (by simp) (lv0 := [some (.int v), some (.int a), some (.int b)]) rfl ?_
  intro Z hG hZ hE hN
  subst hG
  refine V_iload_n hZ 0 dX5_requireBetween_0 rfl rfl ?_
  refine V_iload_n hZ 1 dX5_requireBetween_1 rfl rfl ?_
  refine V_icmp_lt (tgt := 10) hZ dX5_requireBetween_2 (by decide) (fun c1 => ?_) (fun c1 => ?_)
  · refine V_throwW hZ hE hN tw_327_329_331 dX5_requireBetween_10 dX5_requireBetween_13 dX5_requireBetween_14 dX5_requireBetween_17 dX5_requireBetween_20 (by decide) (by first | decide | simp [cat_rf, cat_ref, cat_int, cat_null]) (by decide) (by decide) ?_
    exact ⟨rfl, rfl⟩
  · refine V_iload_n hZ 0 dX5_requireBetween_5 rfl rfl ?_
    refine V_iload_n hZ 2 dX5_requireBetween_6 rfl rfl ?_
    refine V_icmp_le (tgt := 21) hZ dX5_requireBetween_7 (by decide) (fun c2 => ?_) (fun c2 => ?_)
    · exact (h1.elim c1 (fun z => Int32.not_lt.mpr c2 z)).elim
    · refine V_throwW hZ hE hN tw_327_329_331 dX5_requireBetween_10 dX5_requireBetween_13 dX5_requireBetween_14 dX5_requireBetween_17 dX5_requireBetween_20 (by decide) (by first | decide | simp [cat_rf, cat_ref, cat_int, cat_null]) (by decide) (by decide) ?_
      exact ⟨rfl, rfl⟩

