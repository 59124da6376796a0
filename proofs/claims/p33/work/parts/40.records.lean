/-! are the records right -/
/-- without what soon keeps in the copies -/
def nrm (S : St) : St := sCps S (fun c => thd (cps S c) 0)
theorem wf_nrm {S : St} : Wf (nrm S) ↔ Wf S := Iff.rfl
theorem nrm_set {T : St} {c : Nat} {t : Int32} : nrm (setCp T c (thd (cps T c) t)) = nrm T := by
  unfold nrm
  have : (fun d => thd (va_up (cps T) c (thd (cps T c) t) d) 0) = fun d => thd (cps T d) 0 := by
    funext d
    by_cases hd : d = c
    · rw [hd, up_eq]
    · rw [up_ne hd]
  show (T.1, T.2.1, T.2.2.1, T.2.2.2.1, (fun d => thd (va_up (cps T) c (thd (cps T c) t) d) 0), T.2.2.2.2.2) = _
  rw [this]
theorem nrm_it {f : St → Nat → St} (hf : ∀ T c, nrm (f T c) = nrm T) (S : St) : ∀ k, nrm (itN f k S) = nrm S := by
  intro k
  induction k with
  | zero => rfl
  | succ k ih => rw [itN, hf, ih]
theorem nrm_rk {S : St} {r : Nat} : nrm (rkS S r) = nrm S := nrm_it (fun T c => by
  unfold rkStep
  split
  · exact nrm_set
  · rfl) S 30
theorem nrm_serv {x r : Nat} : ∀ (l : List Nat) (T : St), nrm (servN x r l T).2 = nrm T := by
  intro l
  induction l with
  | nil => intro T; rfl
  | cons y l ih =>
    intro T
    rw [servN]
    split
    · split
      · rfl
      · split
        · rfl
        · rw [ih, nrm_set]
    · exact ih T
theorem nrm_soon {S : St} {x r : Nat} : nrm (soonS S x r) = nrm S := by
  unfold soonS
  split
  · rw [nrm_serv, nrm_rk]
  · rfl
theorem nrm_aH {S T : St} (h : nrm T = nrm S) : aH T = aH S := by
  show aH (nrm T) = aH (nrm S); rw [h]
theorem nrm_wf {S T : St} (h : nrm T = nrm S) (W : Wf S) : Wf T := by
  have : Wf (nrm T) := by rw [h]; exact W
  exact this
theorem nrm_lin {S T : St} (h : nrm T = nrm S) : lin T = lin S := by
  show lin (nrm T) = lin (nrm S); rw [h]
theorem nrm_live {S T : St} (h : nrm T = nrm S) : live T = live S := by
  show live (nrm T) = live (nrm S); rw [h]
theorem nrm_nRc {S T : St} (h : nrm T = nrm S) : nRc T = nRc S := by
  show nRc (nrm T) = nRc (nrm S); rw [h]
theorem nrm_nCp {S T : St} (h : nrm T = nrm S) : nCp T = nCp S := by
  show nCp (nrm T) = nCp (nrm S); rw [h]
def anyB (P : Nat → Bool) : Nat → Bool
  | 0 => false
  | k + 1 => anyB P k || P k
abbrev i01 (b : Bool) : Int32 := if b = true then 1 else 0
theorem i01_or (a b : Bool) : i01 a ||| i01 b = i01 (a || b) := by cases a <;> cases b <;> decide
theorem cn_all {P : Nat → Bool} {n : Nat} (hP : ∀ c, n ≤ c → P c = false) : ∀ m c, c + m = 30 → n ≤ c → cn P c = cn P 30 := by
  intro m
  induction m with
  | zero => intro c hc _; rw [show c = 30 by omega]
  | succ m ih =>
    intro c hc hle
    rw [← ih (c + 1) (by omega) (by omega), cn_f (hP c hle)]
theorem any_all {P : Nat → Bool} {n : Nat} (hP : ∀ c, n ≤ c → P c = false) : ∀ m c, c + m = 30 → n ≤ c → anyB P c = anyB P 30 := by
  intro m
  induction m with
  | zero => intro c hc _; rw [show c = 30 by omega]
  | succ m ih =>
    intro c hc hle
    rw [← ih (c + 1) (by omega) (by omega)]
    simp [anyB, hP c hle]
/-- what is asked of one record -/
def RcOK (T : St) (i : Nat) : Prop :=
  live T (live T i) = live T i ∧
  (∀ x ∈ lin T (live T i), (anyB (inB T (live T i)) 30 = true → soonN T x (live T i) = 0) ∧ ¬ soonN T x (live T i) < -1 ∧ (soonN T x (live T i) < 0 → soonN T x (live T i) = -1 ∧ cn (notLostB T (live T i)) 30 = 0) ∧ 1 ≤ cn (waitsB T x) 20) ∧
  likeS T i i = 100 ∧ twinN T i 101 = -1 ∧ ¬ twinN T i 0 = nI (live T i)

theorem c_areRecordsRight (G : GC) {h : HP} {S : St} (R : Rep S h) (W : Wf S) (h3 : 3 ≤ nRc S) (hok : ∀ T, nrm T = nrm S → ∀ i, i < 3 → RcOK T i) : Calls G yL_areRecordsRight cL_areRecordsRight 8 (.some .boolean) 8 141 0 0 [.ref (aH S)] h (fun v h' => v = some (.int 1) ∧ ∃ T, nrm T = nrm S ∧ Rep T h') qX := by
  have hb := W.2.2.1
  have hbr := W.2.1
  refine Calls_of1 (by decide +kernel) (by simp [cat_rf, cat_ref, cat_int, cat_null]) (by simp) (lv0 := [some (.ref (aH S)), none, none, none, none, none, none, none]) rfl ?_
  intro Z hG hZ hE hN
  subst hG
  refine V_iconst (v := 0) hZ dL_areRecordsRight_0 (by decide) ?_
  refine V_istore_n hZ 1 rfl dL_areRecordsRight_1 (by decide) (by first | rfl | simp [okp, cat_rf, cat_ref, cat_int, cat_null]) ?_
  refine V.lvc (by simp only [List.set_cons_zero, List.set_cons_succ, Nat.reduceAdd]; rfl) ?_
  have key : ∀ m i, i + m = 3 → ∀ T g, nrm T = nrm S → Rep T g → ∀ w2 w3 w4 w5 w6 w7, V Z 2 [some (.ref (aH S)), some (.int (nI i)), w2, w3, w4, w5, w6, w7] [] g 0 0 := by
    intro m
    induction m with
    | zero =>
      intro i hi T g hT R1 w2 w3 w4 w5 w6 w7
      have hi2 : i = 3 := by omega
      subst hi2
      refine V_iload_n hZ 1 dL_areRecordsRight_2 rfl rfl ?_
      refine V_iconst (v := 3) hZ dL_areRecordsRight_3 (by decide) ?_
      refine V_icmp_ge (tgt := 272) hZ dL_areRecordsRight_4 (by decide) (fun _ => ?_) (fun z => absurd ((by decide)) z)
      refine V_iconst (v := 1) hZ dL_areRecordsRight_272 (by decide) ?_
      refine V_iret hZ hE rfl (by rfl) dL_areRecordsRight_273 (by decide) (by decide) ?_
      exact ⟨rfl, T, hT, R1⟩
    | succ m ih =>
      intro i hi T g hT R1 w2 w3 w4 w5 w6 w7
      have hi3 : i < 3 := by omega
      have W1 := nrm_wf hT W
      have hiR : i < nRc T := by rw [nrm_nRc hT]; omega
      have hlR := live_lt W1 hiR
      obtain ⟨k1, -, -, -, -⟩ := hok T hT i hi3
      have ih0 := ih
      have hT0 := hT
      refine V_iload_n hZ 1 dL_areRecordsRight_2 rfl rfl ?_
      refine V_iconst (v := 3) hZ dL_areRecordsRight_3 (by decide) ?_
      refine V_icmp_ge (tgt := 272) hZ dL_areRecordsRight_4 (by decide) (fun z => absurd z (nI_ge (a := i) (b := 3) hi3 (by decide))) (fun _ => ?_)
      rw [← nrm_aH hT]
      have g1 := R1.hall
      refine V_aload_n hZ 0 dL_areRecordsRight_7 rfl rfl (by first | rfl | exact isR_rf _) ?_
      refine V_iload_n hZ 1 dL_areRecordsRight_8 rfl rfl ?_
      refine V_iconst (v := 3) hZ dL_areRecordsRight_9 (by decide) ?_
      refine V_invVp hZ me_X5_ofRecord mi_X5_ofRecord ml_L_87 (c_ofRecord Z.1 R1 W1 (i := i) (k := 3) hiR (by decide)) dL_areRecordsRight_10 rfl rfl (by assumption) rfl rfl ⟨by decide, by decide⟩ (by first | decide | (simp [cat_rf, cat_ref, cat_int, cat_null]; done) | (simp [cat_rf, cat_ref, cat_int, cat_null, Value.category]; done)) ⟨by decide, by decide⟩ ?_
      generalize hl : live T i = l at *
      refine V.stc (st' := [.int (nI l)]) (by rw [← hl]; rfl) ?_
      refine V_istore_n hZ 2 rfl dL_areRecordsRight_13 (by decide) (by first | rfl | simp [okp, cat_rf, cat_ref, cat_int, cat_null]) ?_
      refine V.lvc (by simp only [List.set_cons_zero, List.set_cons_succ, Nat.reduceAdd]; rfl) ?_
      refine V_iconst (v := 0) hZ dL_areRecordsRight_14 (by decide) ?_
      refine V_istore_n hZ 3 rfl dL_areRecordsRight_15 (by decide) (by first | rfl | simp [okp, cat_rf, cat_ref, cat_int, cat_null]) ?_
      refine V.lvc (by simp only [List.set_cons_zero, List.set_cons_succ, Nat.reduceAdd]; rfl) ?_
      refine V_iconst (v := 0) hZ dL_areRecordsRight_16 (by decide) ?_
      refine V_istore hZ dL_areRecordsRight_17 (by decide) (by first | rfl | simp [okp, cat_rf, cat_ref, cat_int, cat_null]) ?_
      refine V.lvc (by simp only [List.set_cons_zero, List.set_cons_succ, Nat.reduceAdd]; rfl) ?_
      refine V_iconst (v := 0) hZ dL_areRecordsRight_19 (by decide) ?_
      refine V_istore hZ dL_areRecordsRight_20 (by decide) (by first | rfl | simp [okp, cat_rf, cat_ref, cat_int, cat_null]) ?_
      refine V.lvc (by simp only [List.set_cons_zero, List.set_cons_succ, Nat.reduceAdd]; rfl) ?_
      have nl : ∀ c, nCp T ≤ c → notLostB T l c = false := fun c hc => by simp [notLostB]; omega
      have ni : ∀ c, nCp T ≤ c → inB T l c = false := fun c hc => by simp [inB]; omega
      have hnc : nCp T ≤ 30 := W1.2.2.1
      have hnr : nRc T ≤ 20 := W1.2.1
      have key1 : ∀ m c, c + m = nCp T → V Z 22 [some (.ref (aH T)), some (.int (nI i)), some (.int (nI l)), some (.int (nI (cn (notLostB T l) c))), some (.int (i01 (anyB (inB T l) c))), some (.int (nI c)), w6, w7] [] g 0 0 := by
        intro m
        induction m with
        | zero =>
          intro c hc
          have hc2 : c = nCp T := by omega
          subst hc2
          rw [cn_all nl (30 - nCp T) _ (by omega) (Nat.le_refl _), any_all ni (30 - nCp T) _ (by omega) (Nat.le_refl _)]
          refine V_iload hZ dL_areRecordsRight_22 rfl ?_
          refine V_aload_n hZ 0 dL_areRecordsRight_24 rfl rfl (by first | rfl | exact isR_rf _) ?_
          refine V_iconst (v := 3) hZ dL_areRecordsRight_25 (by decide) ?_
          refine V_invVp hZ me_X5_many mi_X5_many ml_L_34 (c_many Z.1 R1 W1 (k := 3) (by decide)) dL_areRecordsRight_26 rfl rfl (by assumption) rfl rfl ⟨by decide, by decide⟩ (by first | decide | (simp [cat_rf, cat_ref, cat_int, cat_null]; done) | (simp [cat_rf, cat_ref, cat_int, cat_null, Value.category]; done)) ⟨by decide, by decide⟩ ?_
          refine V_icmp_ge (tgt := 86) hZ dL_areRecordsRight_29 (by decide) (fun _ => ?_) (fun z => absurd (Int32.le_refl _) z)
          refine V_aload_n hZ 0 dL_areRecordsRight_86 rfl rfl (by first | rfl | exact isR_rf _) ?_
          refine V_iload_n hZ 1 dL_areRecordsRight_87 rfl rfl ?_
          refine V_iconst (v := 4) hZ dL_areRecordsRight_88 (by decide) ?_
          refine V_invVp hZ me_X5_ofRecord mi_X5_ofRecord ml_L_87 (c_ofRecord Z.1 R1 W1 (i := i) (k := 4) hiR (by decide)) dL_areRecordsRight_89 rfl rfl (by assumption) rfl rfl ⟨by decide, by decide⟩ (by first | decide | (simp [cat_rf, cat_ref, cat_int, cat_null]; done) | (simp [cat_rf, cat_ref, cat_int, cat_null, Value.category]; done)) ⟨by decide, by decide⟩ ?_
          refine V_iload_n hZ 3 dL_areRecordsRight_92 rfl rfl ?_
          refine V_icmp_ne (tgt := 121) hZ dL_areRecordsRight_93 (by decide) (fun z => absurd ((show nI (cn (notLostB T (live T i)) 30) = _ by rw [hl])) z) (fun _ => ?_)
          refine V_aload_n hZ 0 dL_areRecordsRight_96 rfl rfl (by first | rfl | exact isR_rf _) ?_
          refine V_iload_n hZ 2 dL_areRecordsRight_97 rfl rfl ?_
          refine V_iconst (v := 3) hZ dL_areRecordsRight_98 (by decide) ?_
          refine V_invVp hZ me_X5_ofRecord mi_X5_ofRecord ml_L_87 (c_ofRecord Z.1 R1 W1 (i := l) (k := 3) hlR (by decide)) dL_areRecordsRight_99 rfl rfl (by assumption) rfl rfl ⟨by decide, by decide⟩ (by first | decide | (simp [cat_rf, cat_ref, cat_int, cat_null]; done) | (simp [cat_rf, cat_ref, cat_int, cat_null, Value.category]; done)) ⟨by decide, by decide⟩ ?_
          refine V_iload_n hZ 2 dL_areRecordsRight_102 rfl rfl ?_
          refine V_icmp_ne (tgt := 121) hZ dL_areRecordsRight_103 (by decide) (fun z => absurd (congrArg nI k1) z) (fun _ => ?_)
          refine V_aload_n hZ 0 dL_areRecordsRight_106 rfl rfl (by first | rfl | exact isR_rf _) ?_
          refine V_iload_n hZ 2 dL_areRecordsRight_107 rfl rfl ?_
          refine V_iconst (v := 5) hZ dL_areRecordsRight_108 (by decide) ?_
          refine V_invVp hZ me_X5_ofRecord mi_X5_ofRecord ml_L_87 (c_ofRecord Z.1 R1 W1 (i := l) (k := 5) hlR (by decide)) dL_areRecordsRight_109 rfl rfl (by assumption) rfl rfl ⟨by decide, by decide⟩ (by first | decide | (simp [cat_rf, cat_ref, cat_int, cat_null]; done) | (simp [cat_rf, cat_ref, cat_int, cat_null, Value.category]; done)) ⟨by decide, by decide⟩ ?_
          refine V_aload_n hZ 0 dL_areRecordsRight_112 rfl rfl (by first | rfl | exact isR_rf _) ?_
          refine V_iload_n hZ 1 dL_areRecordsRight_113 rfl rfl ?_
          refine V_iconst (v := 5) hZ dL_areRecordsRight_114 (by decide) ?_
          refine V_invVp hZ me_X5_ofRecord mi_X5_ofRecord ml_L_87 (c_ofRecord Z.1 R1 W1 (i := i) (k := 5) hiR (by decide)) dL_areRecordsRight_115 rfl rfl (by assumption) rfl rfl ⟨by decide, by decide⟩ (by first | decide | (simp [cat_rf, cat_ref, cat_int, cat_null]; done) | (simp [cat_rf, cat_ref, cat_int, cat_null, Value.category]; done)) ⟨by decide, by decide⟩ ?_
          refine V_icmp_eq (tgt := 123) hZ dL_areRecordsRight_118 (by decide) (fun _ => ?_) (fun z => absurd ((show nI (lin T (live T l)).length = nI (lin T (live T i)).length by rw [k1, hl])) z)
          refine V_iconst (v := 0) hZ dL_areRecordsRight_123 (by decide) ?_
          refine V_istore hZ dL_areRecordsRight_124 (by decide) (by first | rfl | simp [okp, cat_rf, cat_ref, cat_int, cat_null]) ?_
          refine V.lvc (by simp only [List.set_cons_zero, List.set_cons_succ, Nat.reduceAdd]; rfl) ?_
          have hlen : (lin S l).length ≤ 8 := by rw [← nrm_lin hT]; exact (W_lin W1 hlR).1
          have key2 : ∀ m k, k + m = (lin S l).length → ∀ T g, nrm T = nrm S → Rep T g → ∀ w6 w7, V Z 126 [some (.ref (aH S)), some (.int (nI i)), some (.int (nI l)), some (.int (nI (cn (notLostB S l) 30))), some (.int (i01 (anyB (inB S l) 30))), some (.int (nI k)), w6, w7] [] g 0 0 := by
            intro m
            induction m with
            | zero =>
              intro k hk T g hT R1 w6 w7
              have hl : live T i = l := by rw [← hl]; rw [nrm_live hT, ← nrm_live hT0]
              have W1 := nrm_wf hT W
              have hiR : i < nRc T := by rw [nrm_nRc hT]; omega
              obtain ⟨-, -, k3, k4, k5⟩ := hok T hT i hi3
              rw [hl] at k5
              rw [← nrm_aH hT]
              have g1 := R1.hall
              refine V_iload hZ dL_areRecordsRight_126 rfl ?_
              refine V_aload_n hZ 0 dL_areRecordsRight_128 rfl rfl (by first | rfl | exact isR_rf _) ?_
              refine V_iload_n hZ 1 dL_areRecordsRight_129 rfl rfl ?_
              refine V_iconst (v := 5) hZ dL_areRecordsRight_130 (by decide) ?_
              refine V_invVp hZ me_X5_ofRecord mi_X5_ofRecord ml_L_87 (c_ofRecord Z.1 R1 W1 (i := i) (k := 5) hiR (by decide)) dL_areRecordsRight_131 rfl rfl (by assumption) rfl rfl ⟨by decide, by decide⟩ (by first | decide | (simp [cat_rf, cat_ref, cat_int, cat_null]; done) | (simp [cat_rf, cat_ref, cat_int, cat_null, Value.category]; done)) ⟨by decide, by decide⟩ ?_
              refine V_icmp_ge (tgt := 232) hZ dL_areRecordsRight_134 (by decide) (fun _ => ?_) (fun z => absurd ((show nI (lin T (live T i)).length ≤ nI k by rw [hl, nrm_lin hT, show k = (lin S l).length by omega]; exact Int32.le_refl _)) z)
              refine V_aload_n hZ 0 dL_areRecordsRight_232 rfl rfl (by first | rfl | exact isR_rf _) ?_
              refine V_iload_n hZ 1 dL_areRecordsRight_233 rfl rfl ?_
              refine V_iload_n hZ 1 dL_areRecordsRight_234 rfl rfl ?_
              refine V_invVp hZ me_X5_likeness mi_X5_likeness ml_L_117 (c_likeness Z.1 R1 W1 (i := i) (j := i) hiR hiR) dL_areRecordsRight_235 rfl rfl (by assumption) rfl rfl ⟨by decide, by decide⟩ (by first | decide | (simp [cat_rf, cat_ref, cat_int, cat_null]; done) | (simp [cat_rf, cat_ref, cat_int, cat_null, Value.category]; done)) ⟨by decide, by decide⟩ ?_
              refine V_bipush (v := 100) hZ dL_areRecordsRight_238 (by decide) ?_
              refine V_icmp_ne (tgt := 264) hZ dL_areRecordsRight_240 (by decide) (fun z => absurd (k3) z) (fun _ => ?_)
              refine V_aload_n hZ 0 dL_areRecordsRight_243 rfl rfl (by first | rfl | exact isR_rf _) ?_
              refine V_iload_n hZ 1 dL_areRecordsRight_244 rfl rfl ?_
              refine V_bipush (v := 101) hZ dL_areRecordsRight_245 (by decide) ?_
              refine V_invVp hZ me_X5_twin mi_X5_twin ml_L_120 (c_twin Z.1 R1 W1 (i := i) hiR 101) dL_areRecordsRight_247 rfl rfl (by assumption) rfl rfl ⟨by decide, by decide⟩ (by first | decide | (simp [cat_rf, cat_ref, cat_int, cat_null]; done) | (simp [cat_rf, cat_ref, cat_int, cat_null, Value.category]; done)) ⟨by decide, by decide⟩ ?_
              refine V_iconst (v := -1) hZ dL_areRecordsRight_250 (by decide) ?_
              refine V_icmp_ne (tgt := 264) hZ dL_areRecordsRight_251 (by decide) (fun z => absurd (k4) z) (fun _ => ?_)
              refine V_aload_n hZ 0 dL_areRecordsRight_254 rfl rfl (by first | rfl | exact isR_rf _) ?_
              refine V_iload_n hZ 1 dL_areRecordsRight_255 rfl rfl ?_
              refine V_iconst (v := 0) hZ dL_areRecordsRight_256 (by decide) ?_
              refine V_invVp hZ me_X5_twin mi_X5_twin ml_L_120 (c_twin Z.1 R1 W1 (i := i) hiR 0) dL_areRecordsRight_257 rfl rfl (by assumption) rfl rfl ⟨by decide, by decide⟩ (by first | decide | (simp [cat_rf, cat_ref, cat_int, cat_null]; done) | (simp [cat_rf, cat_ref, cat_int, cat_null, Value.category]; done)) ⟨by decide, by decide⟩ ?_
              refine V_iload_n hZ 2 dL_areRecordsRight_260 rfl rfl ?_
              refine V_icmp_ne (tgt := 266) hZ dL_areRecordsRight_261 (by decide) (fun _ => ?_) (fun z => absurd z (k5))
              refine V_iincv hZ dL_areRecordsRight_266 rfl (by decide) (by first | rfl | simp [okp, cat_rf, cat_ref, cat_int, cat_null]) (by first | exact nI_inc _ | rfl) ?_
              refine V.lvc (by simp only [List.set_cons_zero, List.set_cons_succ, Nat.reduceAdd]; rfl) ?_
              refine V_goto (tgt := 2) hZ dL_areRecordsRight_269 (by decide) ?_
              rw [nrm_aH hT]
              exact ih0 (i + 1) (by omega) T g hT R1 _ _ _ _ _ _
            | succ m ih =>
              intro k hk T g hT R1 w6 w7
              have hl : live T i = l := by rw [← hl]; rw [nrm_live hT, ← nrm_live hT0]
              have W1 := nrm_wf hT W
              have hiR : i < nRc T := by rw [nrm_nRc hT]; omega
              have hlR := live_lt W1 hiR
              obtain ⟨k1, k2, -, -, -⟩ := hok T hT i hi3
              rw [hl] at k1 k2 hlR
              have hkl : k < (lin T l).length := by rw [nrm_lin hT]; omega
              obtain ⟨x, hx⟩ : ∃ x, (lin T l)[k]? = some x := ⟨_, List.getElem?_eq_getElem hkl⟩
              have hxm : x ∈ lin T l := List.mem_of_getElem? hx
              obtain ⟨b1, b2, b3, b4⟩ := k2 x hxm
              have hxR := (W_lin W1 hlR).2 x hxm
              have hx8 : x < 8 := Nat.lt_of_lt_of_le hxR W1.2.2.2.1
              have eN : cn (notLostB S l) 30 = cn (notLostB T l) 30 := by
                show cn (notLostB (nrm S) l) 30 = cn (notLostB (nrm T) l) 30; rw [hT]
              have eI : anyB (inB S l) 30 = anyB (inB T l) 30 := by
                show anyB (inB (nrm S) l) 30 = anyB (inB (nrm T) l) 30; rw [hT]
              rw [← nrm_aH hT]
              have g1 := R1.hall
              refine V_iload hZ dL_areRecordsRight_126 rfl ?_
              refine V_aload_n hZ 0 dL_areRecordsRight_128 rfl rfl (by first | rfl | exact isR_rf _) ?_
              refine V_iload_n hZ 1 dL_areRecordsRight_129 rfl rfl ?_
              refine V_iconst (v := 5) hZ dL_areRecordsRight_130 (by decide) ?_
              refine V_invVp hZ me_X5_ofRecord mi_X5_ofRecord ml_L_87 (c_ofRecord Z.1 R1 W1 (i := i) (k := 5) hiR (by decide)) dL_areRecordsRight_131 rfl rfl (by assumption) rfl rfl ⟨by decide, by decide⟩ (by first | decide | (simp [cat_rf, cat_ref, cat_int, cat_null]; done) | (simp [cat_rf, cat_ref, cat_int, cat_null, Value.category]; done)) ⟨by decide, by decide⟩ ?_
              refine V_icmp_ge (tgt := 232) hZ dL_areRecordsRight_134 (by decide) (fun z => absurd z ((show ¬ nI (lin T (live T i)).length ≤ nI k by rw [hl]; exact nI_ge hkl (by rw [nrm_lin hT]; omega)))) (fun _ => ?_)
              refine V_aload_n hZ 0 dL_areRecordsRight_137 rfl rfl (by first | rfl | exact isR_rf _) ?_
              refine V_iload_n hZ 1 dL_areRecordsRight_138 rfl rfl ?_
              refine V_iload hZ dL_areRecordsRight_139 rfl ?_
              refine V_invVp hZ me_X5_waiter mi_X5_waiter ml_L_114 (c_waiter Z.1 R1 W1 (i := i) (j := k) (x := x) hiR (by rw [hl]; exact hx)) dL_areRecordsRight_141 rfl rfl (by assumption) rfl rfl ⟨by decide, by decide⟩ (by first | decide | (simp [cat_rf, cat_ref, cat_int, cat_null]; done) | (simp [cat_rf, cat_ref, cat_int, cat_null, Value.category]; done)) ⟨by decide, by decide⟩ ?_
              refine V_istore hZ dL_areRecordsRight_144 (by decide) (by first | rfl | simp [okp, cat_rf, cat_ref, cat_int, cat_null]) ?_
              refine V.lvc (by simp only [List.set_cons_zero, List.set_cons_succ, Nat.reduceAdd]; rfl) ?_
              refine V_aload_n hZ 0 dL_areRecordsRight_146 rfl rfl (by first | rfl | exact isR_rf _) ?_
              refine V_iload hZ dL_areRecordsRight_147 rfl ?_
              refine V_iload_n hZ 1 dL_areRecordsRight_149 rfl rfl ?_
              refine V_invV hZ me_X5_soon mi_X5_soon ml_L_81 (c_soon Z.1 R1 W1 (x := x) (i := i) hxR hiR (by rw [hl]; exact hxm)) dL_areRecordsRight_150 rfl rfl (by assumption) rfl rfl ⟨by decide, by decide⟩ (by first | decide | (simp [cat_rf, cat_ref, cat_int, cat_null]; done) | (simp [cat_rf, cat_ref, cat_int, cat_null, Value.category]; done)) ⟨by decide, by decide⟩ (fun _ _ hq => hq.elim) ?_
              rintro _ g2 ⟨rfl, R2⟩
              rw [hl] at R2 ⊢
              have hT2 : nrm (soonS T x l) = nrm S := nrm_soon.trans hT
              have W2 := nrm_wf hT2 W
              have hiR2 : i < nRc (soonS T x l) := by rw [nrm_nRc hT2]; omega
              have hlR2 : l < nRc (soonS T x l) := by rw [nrm_nRc hT2, ← nrm_nRc hT]; exact hlR
              have hl2 : live (soonS T x l) l = l := by rw [nrm_live hT2, ← nrm_live hT]; exact k1
              have ln2 : lin (soonS T x l) = lin T := by rw [nrm_lin hT2, nrm_lin hT]
              have b5 : 1 ≤ cn (waitsB (soonS T x l) x) 20 := by
                show 1 ≤ cn (waitsB (nrm (soonS T x l)) x) 20; rw [nrm_soon]; exact b4
              have hxR2 : x < nRd (soonS T x l) := by
                show x < nRd (nrm (soonS T x l)); rw [nrm_soon]; exact hxR
              have eA : aH (soonS T x l) = aH T := nrm_aH nrm_soon
              have ih2 := ih (k + 1) (by omega) (soonS T x l) g2 hT2 R2
              generalize soonS T x l = T2 at *
              generalize soonN T x l = sv at *
              rw [← eA]
              have g2h := R2.hall
              refine V_istore hZ dL_areRecordsRight_153 (by decide) (by first | rfl | simp [okp, cat_rf, cat_ref, cat_int, cat_null]) ?_
              refine V.lvc (by simp only [List.set_cons_zero, List.set_cons_succ, Nat.reduceAdd]; rfl) ?_
              refine V_iload hZ dL_areRecordsRight_155 rfl ?_
              have J : V Z 201 [some (.ref (aH T2)), some (.int (nI i)), some (.int (nI l)), some (.int (nI (cn (notLostB S l) 30))), some (.int (i01 (anyB (inB S l) 30))), some (.int (nI k)), some (.int (nI x)), some (.int sv)] [] g2 0 0 := by
                refine V_aload_n hZ 0 dL_areRecordsRight_201 rfl rfl (by first | rfl | exact isR_rf _) ?_
                refine V_iload_n hZ 2 dL_areRecordsRight_202 rfl rfl ?_
                refine V_iload hZ dL_areRecordsRight_203 rfl ?_
                refine V_invVp hZ me_X5_waiter mi_X5_waiter ml_L_114 (c_waiter Z.1 R2 W2 (i := l) (j := k) (x := x) hlR2 (by rw [hl2, ln2]; exact hx)) dL_areRecordsRight_205 rfl rfl (by assumption) rfl rfl ⟨by decide, by decide⟩ (by first | decide | (simp [cat_rf, cat_ref, cat_int, cat_null]; done) | (simp [cat_rf, cat_ref, cat_int, cat_null, Value.category]; done)) ⟨by decide, by decide⟩ ?_
                refine V_iload hZ dL_areRecordsRight_208 rfl ?_
                refine V_icmp_ne (tgt := 224) hZ dL_areRecordsRight_210 (by decide) (fun z => absurd (rfl) z) (fun _ => ?_)
                refine V_aload_n hZ 0 dL_areRecordsRight_213 rfl rfl (by first | rfl | exact isR_rf _) ?_
                refine V_iload hZ dL_areRecordsRight_214 rfl ?_
                refine V_iconst (v := 3) hZ dL_areRecordsRight_216 (by decide) ?_
                refine V_invVp hZ me_X5_ofReader mi_X5_ofReader ml_L_102 (c_ofReader Z.1 R2 W2 (i := x) (k := 3) hxR2 (by decide)) dL_areRecordsRight_217 rfl rfl (by assumption) rfl rfl ⟨by decide, by decide⟩ (by first | decide | (simp [cat_rf, cat_ref, cat_int, cat_null]; done) | (simp [cat_rf, cat_ref, cat_int, cat_null, Value.category]; done)) ⟨by decide, by decide⟩ ?_
                refine V_iconst (v := 1) hZ dL_areRecordsRight_220 (by decide) ?_
                refine V_icmp_ge (tgt := 226) hZ dL_areRecordsRight_221 (by decide) (fun _ => ?_) (fun z => absurd ((show nI 1 ≤ nI (cn (waitsB T2 x) 20) from (nI_leI (by decide) (by have := cn_le (P := waitsB T2 x) 20; omega)).mpr b5)) z)
                refine V_iincv hZ dL_areRecordsRight_226 rfl (by decide) (by first | rfl | simp [okp, cat_rf, cat_ref, cat_int, cat_null]) (by first | exact nI_inc _ | rfl) ?_
                refine V.lvc (by simp only [List.set_cons_zero, List.set_cons_succ, Nat.reduceAdd]; rfl) ?_
                refine V_goto (tgt := 126) hZ dL_areRecordsRight_229 (by decide) ?_
                rw [eA, nrm_aH hT]
                exact ih2 _ _
              have J2 : V Z 165 [some (.ref (aH T2)), some (.int (nI i)), some (.int (nI l)), some (.int (nI (cn (notLostB S l) 30))), some (.int (i01 (anyB (inB S l) 30))), some (.int (nI k)), some (.int (nI x)), some (.int sv)] [] g2 0 0 := by
                refine V_iload hZ dL_areRecordsRight_165 rfl ?_
                refine V_iconst (v := -1) hZ dL_areRecordsRight_167 (by decide) ?_
                refine V_icmp_lt (tgt := 199) hZ dL_areRecordsRight_168 (by decide) (fun z => absurd z (b2)) (fun _ => ?_)
                refine V_iload hZ dL_areRecordsRight_171 rfl ?_
                refine V_iconst (v := -1) hZ dL_areRecordsRight_173 (by decide) ?_
                by_cases hs : sv < 0
                · obtain ⟨s1, s2⟩ := b3 hs
                  refine V_icmp_ne (tgt := 181) hZ dL_areRecordsRight_174 (by decide) (fun z => absurd (s1) z) (fun _ => ?_)
                  refine V_iconst (v := 1) hZ dL_areRecordsRight_177 (by decide) ?_
                  refine V_goto (tgt := 182) hZ dL_areRecordsRight_178 (by decide) ?_
                  refine V_iload_n hZ 3 dL_areRecordsRight_182 rfl rfl ?_
                  refine V_if_ne (tgt := 190) hZ dL_areRecordsRight_183 (by decide) (fun z => absurd ((by rw [eN, s2]; rfl)) z) (fun _ => ?_)
                  refine V_iconst (v := 1) hZ dL_areRecordsRight_186 (by decide) ?_
                  refine V_goto (tgt := 191) hZ dL_areRecordsRight_187 (by decide) ?_
                  refine V_icmp_eq (tgt := 201) hZ dL_areRecordsRight_191 (by decide) (fun _ => ?_) (fun z => absurd (rfl) z)
                  exact J
                · have s1 : ¬ sv = -1 := fun z => hs (by rw [z]; decide)
                  have s0 : 0 ≤ sv := by rw [Int32.le_iff_toInt_le]; rw [Int32.lt_iff_toInt_lt] at hs; omega
                  refine V_icmp_ne (tgt := 181) hZ dL_areRecordsRight_174 (by decide) (fun _ => ?_) (fun z => absurd z (s1))
                  refine V_iconst (v := 0) hZ dL_areRecordsRight_181 (by decide) ?_
                  refine V_iload_n hZ 3 dL_areRecordsRight_182 rfl rfl ?_
                  refine V_if_ne (tgt := 190) hZ dL_areRecordsRight_183 (by decide) (fun z1 => ?_) (fun z1 => ?_)
                  · refine V_iconst (v := 0) hZ dL_areRecordsRight_190 (by decide) ?_
                    refine V_icmp_eq (tgt := 201) hZ dL_areRecordsRight_191 (by decide) (fun _ => ?_) (fun z => absurd (rfl) z)
                    exact J
                  · refine V_iconst (v := 1) hZ dL_areRecordsRight_186 (by decide) ?_
                    refine V_goto (tgt := 191) hZ dL_areRecordsRight_187 (by decide) ?_
                    refine V_icmp_eq (tgt := 201) hZ dL_areRecordsRight_191 (by decide) (fun z => absurd z ((by decide))) (fun _ => ?_)
                    refine V_iload hZ dL_areRecordsRight_194 rfl ?_
                    refine V_if_ge (tgt := 201) hZ dL_areRecordsRight_196 (by decide) (fun _ => ?_) (fun z => absurd (s0) z)
                    exact J
              cases hz : anyB (inB S l) 30 with
              | false =>
                rw [hz] at J2
                refine V_if_eq (tgt := 165) hZ dL_areRecordsRight_157 (by decide) (fun _ => ?_) (fun z => absurd ((by decide)) z)
                exact J2
              | true =>
                rw [hz] at J2 eI
                refine V_if_eq (tgt := 165) hZ dL_areRecordsRight_157 (by decide) (fun z => absurd z ((by decide))) (fun _ => ?_)
                refine V_iload hZ dL_areRecordsRight_160 rfl ?_
                refine V_if_ne (tgt := 199) hZ dL_areRecordsRight_162 (by decide) (fun z => absurd (b1 eI.symm) z) (fun _ => ?_)
                exact J2
          have eN : cn (notLostB T l) 30 = cn (notLostB S l) 30 := by
            show cn (notLostB (nrm T) l) 30 = cn (notLostB (nrm S) l) 30; rw [hT0]
          have eI : anyB (inB T l) 30 = anyB (inB S l) 30 := by
            show anyB (inB (nrm T) l) 30 = anyB (inB (nrm S) l) 30; rw [hT0]
          rw [eN, eI, nrm_aH hT0]
          exact key2 _ 0 (Nat.zero_add _) T g hT0 R1 _ _
        | succ m ih =>
          intro c hc
          have hi : c < nCp T := by omega
          refine V_iload hZ dL_areRecordsRight_22 rfl ?_
          refine V_aload_n hZ 0 dL_areRecordsRight_24 rfl rfl (by first | rfl | exact isR_rf _) ?_
          refine V_iconst (v := 3) hZ dL_areRecordsRight_25 (by decide) ?_
          refine V_invVp hZ me_X5_many mi_X5_many ml_L_34 (c_many Z.1 R1 W1 (k := 3) (by decide)) dL_areRecordsRight_26 rfl rfl (by assumption) rfl rfl ⟨by decide, by decide⟩ (by first | decide | (simp [cat_rf, cat_ref, cat_int, cat_null]; done) | (simp [cat_rf, cat_ref, cat_int, cat_null, Value.category]; done)) ⟨by decide, by decide⟩ ?_
          refine V_icmp_ge (tgt := 86) hZ dL_areRecordsRight_29 (by decide) (fun z => absurd z (nI_ge hi (by omega))) (fun _ => ?_)
          refine V_aload_n hZ 0 dL_areRecordsRight_32 rfl rfl (by first | rfl | exact isR_rf _) ?_
          refine V_iload hZ dL_areRecordsRight_33 rfl ?_
          refine V_iconst (v := 0) hZ dL_areRecordsRight_35 (by decide) ?_
          refine V_invVp hZ me_X5_ofCopy mi_X5_ofCopy ml_L_66 (c_ofCopy Z.1 R1 W1 (i := c) (k := 0) hi (by decide)) dL_areRecordsRight_36 rfl rfl (by assumption) rfl rfl ⟨by decide, by decide⟩ (by first | decide | (simp [cat_rf, cat_ref, cat_int, cat_null]; done) | (simp [cat_rf, cat_ref, cat_int, cat_null, Value.category]; done)) ⟨by decide, by decide⟩ ?_
          refine V_iload_n hZ 2 dL_areRecordsRight_39 rfl rfl ?_
          have e := ih (c + 1) (by omega)
          have hcr := (W1.2.2.2.2.2.2 c hi).1
          refine V_icmp_ne (tgt := 80) hZ dL_areRecordsRight_40 (by decide) (fun c1 => ?_) (fun c1 => ?_)
          · refine V_iincv hZ dL_areRecordsRight_80 rfl (by decide) (by first | rfl | simp [okp, cat_rf, cat_ref, cat_int, cat_null]) (by first | exact nI_inc _ | rfl) ?_
            refine V.lvc (by simp only [List.set_cons_zero, List.set_cons_succ, Nat.reduceAdd]; rfl) ?_
            refine V_goto (tgt := 22) hZ dL_areRecordsRight_83 (by decide) ?_
            have c2 : ¬ cpRc (cps T c) = l := fun z => c1 (congrArg nI z)
            rw [cn_f (by simp [notLostB, c2]), show anyB (inB T l) (c + 1) = anyB (inB T l) c by simp [anyB, inB, c2]] at e
            exact e
          · have c2 : cpRc (cps T c) = l := nI_inj (by omega) (by omega) c1
            refine V_aload_n hZ 0 dL_areRecordsRight_43 rfl rfl (by first | rfl | exact isR_rf _) ?_
            refine V_iload hZ dL_areRecordsRight_44 rfl ?_
            refine V_iconst (v := 1) hZ dL_areRecordsRight_46 (by decide) ?_
            refine V_invVp hZ me_X5_ofCopy mi_X5_ofCopy ml_L_66 (c_ofCopy Z.1 R1 W1 (i := c) (k := 1) hi (by decide)) dL_areRecordsRight_47 rfl rfl (by assumption) rfl rfl ⟨by decide, by decide⟩ (by first | decide | (simp [cat_rf, cat_ref, cat_int, cat_null]; done) | (simp [cat_rf, cat_ref, cat_int, cat_null, Value.category]; done)) ⟨by decide, by decide⟩ ?_
            refine V_iconst (v := 3) hZ dL_areRecordsRight_50 (by decide) ?_
            refine V_icmp_ne (tgt := 57) hZ dL_areRecordsRight_51 (by decide) (fun c3 => ?_) (fun c3 => ?_)
            · have c4 : ¬ cpPl (cps T c) = 3 := c3
              refine V_iincv hZ dL_areRecordsRight_57 rfl (by decide) (by first | rfl | simp [okp, cat_rf, cat_ref, cat_int, cat_null]) (by first | exact nI_inc _ | rfl) ?_
              refine V.lvc (by simp only [List.set_cons_zero, List.set_cons_succ, Nat.reduceAdd]; rfl) ?_
              refine V_iload hZ dL_areRecordsRight_60 rfl ?_
              refine V_aload_n hZ 0 dL_areRecordsRight_62 rfl rfl (by first | rfl | exact isR_rf _) ?_
              refine V_iload hZ dL_areRecordsRight_63 rfl ?_
              refine V_iconst (v := 1) hZ dL_areRecordsRight_65 (by decide) ?_
              refine V_invVp hZ me_X5_ofCopy mi_X5_ofCopy ml_L_66 (c_ofCopy Z.1 R1 W1 (i := c) (k := 1) hi (by decide)) dL_areRecordsRight_66 rfl rfl (by assumption) rfl rfl ⟨by decide, by decide⟩ (by first | decide | (simp [cat_rf, cat_ref, cat_int, cat_null]; done) | (simp [cat_rf, cat_ref, cat_int, cat_null, Value.category]; done)) ⟨by decide, by decide⟩ ?_
              rw [cn_t (by simp [notLostB, c2, c4, hi]), show anyB (inB T l) (c + 1) = (anyB (inB T l) c || decide (cpPl (cps T c) = 0)) by simp [anyB, inB, c2, hi]] at e
              refine V_if_ne (tgt := 76) hZ dL_areRecordsRight_69 (by decide) (fun c5 => ?_) (fun c5 => ?_)
              · have c6 : ¬ cpPl (cps T c) = 0 := c5
                refine V_iconst (v := 0) hZ dL_areRecordsRight_76 (by decide) ?_
                refine V_ior hZ dL_areRecordsRight_77 ?_
                rw [show i01 (anyB (inB T l) c) ||| 0 = i01 (anyB (inB T l) c || decide (cpPl (cps T c) = 0)) by rw [decide_eq_false c6]; exact i01_or _ false]
                refine V_istore hZ dL_areRecordsRight_78 (by decide) (by first | rfl | simp [okp, cat_rf, cat_ref, cat_int, cat_null]) ?_
                refine V.lvc (by simp only [List.set_cons_zero, List.set_cons_succ, Nat.reduceAdd]; rfl) ?_
                refine V_iincv hZ dL_areRecordsRight_80 rfl (by decide) (by first | rfl | simp [okp, cat_rf, cat_ref, cat_int, cat_null]) (by first | exact nI_inc _ | rfl) ?_
                refine V.lvc (by simp only [List.set_cons_zero, List.set_cons_succ, Nat.reduceAdd]; rfl) ?_
                refine V_goto (tgt := 22) hZ dL_areRecordsRight_83 (by decide) ?_
                exact e
              · have c6 : cpPl (cps T c) = 0 := c5
                refine V_iconst (v := 1) hZ dL_areRecordsRight_72 (by decide) ?_
                refine V_goto (tgt := 77) hZ dL_areRecordsRight_73 (by decide) ?_
                refine V_ior hZ dL_areRecordsRight_77 ?_
                rw [show i01 (anyB (inB T l) c) ||| 1 = i01 (anyB (inB T l) c || decide (cpPl (cps T c) = 0)) by rw [decide_eq_true c6]; exact i01_or _ true]
                refine V_istore hZ dL_areRecordsRight_78 (by decide) (by first | rfl | simp [okp, cat_rf, cat_ref, cat_int, cat_null]) ?_
                refine V.lvc (by simp only [List.set_cons_zero, List.set_cons_succ, Nat.reduceAdd]; rfl) ?_
                refine V_iincv hZ dL_areRecordsRight_80 rfl (by decide) (by first | rfl | simp [okp, cat_rf, cat_ref, cat_int, cat_null]) (by first | exact nI_inc _ | rfl) ?_
                refine V.lvc (by simp only [List.set_cons_zero, List.set_cons_succ, Nat.reduceAdd]; rfl) ?_
                refine V_goto (tgt := 22) hZ dL_areRecordsRight_83 (by decide) ?_
                exact e
            · have c4 : cpPl (cps T c) = 3 := c3
              refine V_goto (tgt := 80) hZ dL_areRecordsRight_54 (by decide) ?_
              refine V_iincv hZ dL_areRecordsRight_80 rfl (by decide) (by first | rfl | simp [okp, cat_rf, cat_ref, cat_int, cat_null]) (by first | exact nI_inc _ | rfl) ?_
              refine V.lvc (by simp only [List.set_cons_zero, List.set_cons_succ, Nat.reduceAdd]; rfl) ?_
              refine V_goto (tgt := 22) hZ dL_areRecordsRight_83 (by decide) ?_
              rw [cn_f (by simp [notLostB, c4]), show anyB (inB T l) (c + 1) = anyB (inB T l) c by simp [anyB, inB, c4]] at e
              exact e
      have e := key1 (nCp T) 0 (by omega)
      exact e
  exact key 3 0 rfl S h rfl R _ _ _ _ _ _

