/-! laying together: its parts -/
theorem fN_some {P : Nat → Bool} : ∀ {m c d : Nat}, fN P m c = some d → P d = true := by
  intro m
  induction m with
  | zero => intro c d h; cases h
  | succ m ih =>
    intro c d h
    unfold fN at h
    split at h
    · rename_i hp
      cases h
      exact hp
    · exact ih h
theorem nd_len : ∀ (n : Nat) (l : List Nat), l.Nodup → (∀ y ∈ l, y < n) → l.length ≤ n := by
  intro n
  induction n with
  | zero =>
    intro l _ h
    cases l with
    | nil => exact Nat.le_refl _
    | cons a l => exact absurd (h a List.mem_cons_self) (Nat.not_lt_zero _)
  | succ n ih =>
    intro l hn h
    have h1 : (l.erase n).Nodup := hn.sublist List.erase_sublist
    have h2 : ∀ y ∈ l.erase n, y < n := by
      intro y hy
      have h3 := h y (List.mem_of_mem_erase hy)
      have h4 : y ≠ n := fun z => by subst z; exact (List.Nodup.not_mem_erase hn) hy
      omega
    have h5 := ih _ h1 h2
    by_cases hm : n ∈ l
    · rw [List.length_erase_of_mem hm] at h5; omega
    · rw [List.erase_of_not_mem hm] at h5; omega
theorem nd_lt {n x : Nat} {l : List Nat} (hn : l.Nodup) (h : ∀ y ∈ l, y < n) (hx : x < n) (hxl : x ∉ l) : l.length < n := by
  have := nd_len n (x :: l) (List.nodup_cons.mpr ⟨hxl, hn⟩) (fun y hy => by
    rcases List.mem_cons.mp hy with rfl | hy
    · exact hx
    · exact h y hy)
  exact this
abbrev recd (c : Cp) (b : Nat) : Cp := (cpPr c, b, cpPl c, cpRd c, cpDy c, cpRn c, cpTh c)
def mvcStep (a b : Nat) (T : St) (c : Nat) : St := if c < nCp T ∧ cpRc (cps T c) = a then setCp T c (recd (cps T c) b) else T
def mvcS (S : St) (a b : Nat) : St := itN (mvcStep a b) 30 S
theorem same5_mvcStep {T : St} {a b c : Nat} : same5 T (mvcStep a b T c) := by
  unfold mvcStep
  split <;> exact ⟨rfl, rfl, rfl⟩
theorem wf_mvcStep {T : St} (W : Wf T) {a b c : Nat} (hb : b < nRc T) : Wf (mvcStep a b T c) := by
  unfold mvcStep
  split
  · rename_i h
    exact wf_cp W hb (W_rdr W h.1) (W_asd W h.1)
  · exact W
theorem same5_mvc {S : St} {a b : Nat} : same5 S (mvcS S a b) := itN_same (fun T c => same5_mvcStep) 30
theorem nRc_same {S T : St} (h : same5 S T) : nRc T = nRc S := congrArg (fun z => z.2.1) h.2.1
theorem nCp_same {S T : St} (h : same5 S T) : nCp T = nCp S := congrArg (fun z => z.2.2.1) h.2.1
theorem nRd_same {S T : St} (h : same5 S T) : nRd T = nRd S := congrArg (fun z => z.2.2.2.1) h.2.1
theorem aH_same {S T : St} (h : same5 S T) : aH T = aH S := congrArg (fun z => z.1.1) h.1
theorem aCs_same {S T : St} (h : same5 S T) : aCs T = aCs S := congrArg (fun z => z.1.2.2.2.1) h.1
theorem adC_same {S T : St} (h : same5 S T) : adC T = adC S := congrArg (fun z => z.2.2.2.2.2.1) h.1
theorem adR_same {S T : St} (h : same5 S T) : adR T = adR S := congrArg (fun z => z.2.2.1) h.1
theorem adD_same {S T : St} (h : same5 S T) : adD T = adD S := congrArg (fun z => z.2.2.2.2.2.2) h.1
theorem wf_mvc {S : St} (W : Wf S) {a b : Nat} (hb : b < nRc S) : Wf (mvcS S a b) := by
  have : ∀ k, Wf (itN (mvcStep a b) k S) := by
    intro k
    induction k with
    | zero => exact W
    | succ k ih => exact wf_mvcStep ih (by rw [nRc_same (itN_same (fun T c => same5_mvcStep) k)]; exact hb)
  unfold mvcS
  exact this 30
theorem c_moveCopies (G : GC) {h : HP} {S : St} (R : Rep S h) (W : Wf S) {a b : Nat} (ha : a < nRc S) (hb : b < nRc S) : Calls G yX5_moveCopies cX5_moveCopies 7 (.none : Option Jvm.ClassFile.FieldType) 0 0 0 0 [.ref (aH S), .ref (adR S a), .ref (adR S b)] h (fun v h' => v = none ∧ Rep (mvcS S a b) h') qX := by
  have h1 := R.hall
  have h2 := R.copies
  refine Calls_of1 (by decide +kernel) (by simp [cat_rf, cat_ref, cat_int, cat_null]) (by simp) (lv0 := [some (.ref (aH S)), some (.ref (adR S a)), some (.ref (adR S b)), none, none, none, none]) rfl ?_
  intro Z hG hZ hE hN
  subst hG
  refine V_aload_n hZ 0 dX5_moveCopies_0 rfl rfl (by first | rfl | exact isR_rf _) ?_
  refine V_getfield hZ fl_X5_23.r dX5_moveCopies_1 (by assumption) (by rfl) ?_
  refine V_astore_n hZ 3 rfl dX5_moveCopies_4 (by first | rfl | exact isR_rf _) (by decide) (by first | rfl | simp [okp, cat_rf, cat_ref, cat_int, cat_null]) ?_
  refine V.lvc (by simp only [List.set_cons_zero, List.set_cons_succ, Nat.reduceAdd]; rfl) ?_
  refine V_aload_n hZ 3 dX5_moveCopies_5 rfl rfl (by first | rfl | exact isR_rf _) ?_
  refine V_alenR hZ dX5_moveCopies_6 (by assumption) ?_
  refine V_istore hZ dX5_moveCopies_7 (by decide) (by first | rfl | simp [okp, cat_rf, cat_ref, cat_int, cat_null]) ?_
  refine V.lvc (by simp only [List.set_cons_zero, List.set_cons_succ, Nat.reduceAdd]; rfl) ?_
  refine V_iconst (v := 0) hZ dX5_moveCopies_9 (by decide) ?_
  refine V_istore hZ dX5_moveCopies_10 (by decide) (by first | rfl | simp [okp, cat_rf, cat_ref, cat_int, cat_null]) ?_
  refine V.lvc (by simp only [List.set_cons_zero, List.set_cons_succ, Nat.reduceAdd]; rfl) ?_
  have key : ∀ m c, c + m = 30 → ∀ (T : St) (g : HP), Rep T g → Wf T → a < nRc T → b < nRc T → itN (mvcStep a b) c S = T → ∀ w, V Z 12 [some (.ref (aH T)), some (.ref (adR T a)), some (.ref (adR T b)), some (.ref (aCs T)), some (.int (nI 30)), some (.int (nI c)), w] [] g 0 0 := by
    intro m
    induction m with
    | zero =>
      intro c hcm T g R W ha hb hT w
      have hc : c = 30 := by omega
      subst hc
      have g1 := R.hall
      have g2 := R.copies
      refine V_iload hZ dX5_moveCopies_12 rfl ?_
      refine V_iload hZ dX5_moveCopies_14 rfl ?_
      refine V_icmp_ge (tgt := 51) hZ dX5_moveCopies_16 (by decide) (fun cE => ?_) (fun cE => ?_)
      · refine V_vret hZ hE rfl dX5_moveCopies_51 (by decide) (by decide) ?_
        exact ⟨rfl, by rw [show mvcS S a b = T from hT]; exact R⟩
      · exact absurd (by decide) cE
    | succ m ih =>
      intro c hcm T g R W ha hb hT w
      have hcN : c < 30 := by omega
      have g1 := R.hall
      have g2 := R.copies
      refine V_iload hZ dX5_moveCopies_12 rfl ?_
      refine V_iload hZ dX5_moveCopies_14 rfl ?_
      refine V_icmp_ge (tgt := 51) hZ dX5_moveCopies_16 (by decide) (fun cE => ?_) (fun cE => ?_)
      · have cE2 : 30 ≤ c := (nI_leI (a := 30) (by decide) (by omega)).mp cE
        omega
      · refine V_aload_n hZ 3 dX5_moveCopies_19 rfl rfl (by first | rfl | exact isR_rf _) ?_
        refine V_iload hZ dX5_moveCopies_20 rfl ?_
        by_cases hi : c < nCp T
        · refine V_aaldn hZ dX5_moveCopies_22 (by assumption) hcN (by decide) (v := .ref (adC T c)) (rowf_lt hi) ?_
          refine V_astore hZ dX5_moveCopies_23 (by first | rfl | exact isR_rf _) (by decide) (by first | rfl | simp [okp, cat_rf, cat_ref, cat_int, cat_null]) ?_
          refine V.lvc (by simp only [List.set_cons_zero, List.set_cons_succ, Nat.reduceAdd]; rfl) ?_
          refine V_aload hZ dX5_moveCopies_25 rfl (by first | rfl | exact isR_rf _) ?_
          refine V_ifnullR hZ dX5_moveCopies_27 ?_
          have g3 := R.copy hi
          refine V_aload hZ dX5_moveCopies_30 rfl (by first | rfl | exact isR_rf _) ?_
          refine V_getfield hZ fl_X5_192.r dX5_moveCopies_32 (by assumption) (by rfl) ?_
          refine V_aload_n hZ 1 dX5_moveCopies_35 rfl rfl (by first | rfl | exact isR_rf _) ?_
          refine V_acmp_ne (tgt := 45) hZ dX5_moveCopies_36 (by decide) (by first | rfl | exact isR_rf _) (by first | rfl | exact isR_rf _) (fun c1 => ?_) (fun c1 => ?_)
          · refine V_iincv hZ dX5_moveCopies_45 rfl (by decide) (by first | rfl | simp [okp, cat_rf, cat_ref, cat_int, cat_null]) (by first | exact nI_inc _ | rfl) ?_
            refine V.lvc (by simp only [List.set_cons_zero, List.set_cons_succ, Nat.reduceAdd]; rfl) ?_
            refine V_goto (tgt := 12) hZ dX5_moveCopies_48 (by decide) ?_
            have c2 : ¬ (c < nCp T ∧ cpRc (cps T c) = a) := fun z => c1 (by rw [z.2])
            exact ih (c + 1) (by omega) T g R W ha hb (by rw [itN, hT]; simp only [mvcStep, if_neg c2]) _
          · have c2 : c < nCp T ∧ cpRc (cps T c) = a := ⟨hi, (recIff R W (W_rec W hi) ha).mp (refIff.mp c1)⟩
            refine V_aload hZ dX5_moveCopies_39 rfl (by first | rfl | exact isR_rf _) ?_
            refine V_aload_n hZ 2 dX5_moveCopies_41 rfl rfl (by first | rfl | exact isR_rf _) ?_
            refine V_putfield hZ fl_X5_192 dX5_moveCopies_42 (by first | assumption | exact hup_self _ _ _) (by first | rfl | exact nar_rf _ _) (by first | rfl | exact fits_rf _ _) (by simp) ?_
            refine V_iincv hZ dX5_moveCopies_45 rfl (by decide) (by first | rfl | simp [okp, cat_rf, cat_ref, cat_int, cat_null]) (by first | exact nI_inc _ | rfl) ?_
            refine V.lvc (by simp only [List.set_cons_zero, List.set_cons_succ, Nat.reduceAdd]; rfl) ?_
            refine V_goto (tgt := 12) hZ dX5_moveCopies_48 (by decide) ?_
            exact ih (c + 1) (by omega) (setCp T c (recd (cps T c) b)) _ (rep_cp R W hi (recd (cps T c) b)) (wf_cp W hb (W_rdr W hi) (W_asd W hi)) ha hb (by rw [itN, hT]; simp only [mvcStep, if_pos c2]) _
        · refine V_aaldn hZ dX5_moveCopies_22 (by assumption) hcN (by decide) (v := .null) (rowf_ge hi) ?_
          refine V_astore hZ dX5_moveCopies_23 (by first | rfl | exact isR_rf _) (by decide) (by first | rfl | simp [okp, cat_rf, cat_ref, cat_int, cat_null]) ?_
          refine V.lvc (by simp only [List.set_cons_zero, List.set_cons_succ, Nat.reduceAdd]; rfl) ?_
          refine V_aload hZ dX5_moveCopies_25 rfl (by first | rfl | exact isR_rf _) ?_
          refine V_ifnullN (tgt := 45) hZ dX5_moveCopies_27 (by decide) ?_
          refine V_iincv hZ dX5_moveCopies_45 rfl (by decide) (by first | rfl | simp [okp, cat_rf, cat_ref, cat_int, cat_null]) (by first | exact nI_inc _ | rfl) ?_
          refine V.lvc (by simp only [List.set_cons_zero, List.set_cons_succ, Nat.reduceAdd]; rfl) ?_
          refine V_goto (tgt := 12) hZ dX5_moveCopies_48 (by decide) ?_
          exact ih (c + 1) (by omega) T g R W ha hb (by rw [itN, hT]; simp only [mvcStep, if_neg (show ¬ (c < nCp T ∧ cpRc (cps T c) = a) from fun z => hi z.1)]) _
  exact key 30 0 rfl _ _ R W ha hb rfl none
def mvwStep (b : Nat) (T : St) (x : Nat) : St := if (lin T b).contains x = true ∨ (fN (hasB T x b) 30 0).isSome = true then T else setLn T b (lin T b ++ [x])
def mvwS (S : St) (a b : Nat) : St := setLn ((lin S a).foldl (mvwStep b) S) a []
theorem mvwStep_lin {T : St} {a b x : Nat} (hab : a ≠ b) : lin (mvwStep b T x) a = lin T a := by
  unfold mvwStep
  split
  · rfl
  · show va_up (lin T) b _ a = _
    simp [va_up, hab]
theorem same5_mvwStep {T : St} {b x : Nat} : same5 T (mvwStep b T x) := by
  unfold mvwStep
  split <;> exact ⟨rfl, rfl, rfl⟩
theorem wf_mvwStep {T : St} (W : Wf T) {b x : Nat} (hb : b < nRc T) (hx : x < nRd T) : Wf (mvwStep b T x) := by
  unfold mvwStep
  split
  · exact W
  · rename_i h
    have hxl : x ∉ lin T b := fun z => h (Or.inl (by simpa using z))
    have hl := nd_lt (W_nod W hb) (fun y hy => Nat.lt_of_lt_of_le ((W_lin W hb).2 y hy) W.2.2.2.1) (Nat.lt_of_lt_of_le hx W.2.2.2.1) hxl
    refine wf_ln W (by simp; omega) (fun y hy => ?_) ?_
    · rcases List.mem_append.mp hy with h1 | h1
      · exact (W_lin W hb).2 y h1
      · rw [List.mem_singleton.mp h1]; exact hx
    · rw [List.nodup_append]
      refine ⟨W_nod W hb, by simp, fun y hy z hz => ?_⟩
      rw [List.mem_singleton.mp hz]
      exact fun e => hxl (by rw [← e]; exact hy)
theorem c_moveWaiters (G : GC) {h : HP} {S : St} (R : Rep S h) (W : Wf S) {a b : Nat} (ha : a < nRc S) (hb : b < nRc S) (hab : a ≠ b) : Calls G yX5_moveWaiters cX5_moveWaiters 7 (.none : Option Jvm.ClassFile.FieldType) 1 26 0 0 [.ref (aH S), .ref (adR S a), .ref (adR S b)] h (fun v h' => v = none ∧ Rep (mvwS S a b) h' ∧ Wf (mvwS S a b)) qX := by
  have h1 := R.hall
  have h2 := R.rec ha
  have h3 := R.line ha
  have h4 := R.row ha
  refine Calls_of1 (by decide +kernel) (by simp [cat_rf, cat_ref, cat_int, cat_null]) (by simp) (lv0 := [some (.ref (aH S)), some (.ref (adR S a)), some (.ref (adR S b)), none, none, none, none]) rfl ?_
  intro Z hG hZ hE hN
  subst hG
  refine V_aload_n hZ 1 dX5_moveWaiters_0 rfl rfl (by first | rfl | exact isR_rf _) ?_
  refine V_getfield hZ fl_X5_235 dX5_moveWaiters_1 (by assumption) (by rfl) ?_
  refine V_getfield hZ fl_X5_378 dX5_moveWaiters_4 (by assumption) (by rfl) ?_
  refine V_astore_n hZ 3 rfl dX5_moveWaiters_7 (by first | rfl | exact isR_rf _) (by decide) (by first | rfl | simp [okp, cat_rf, cat_ref, cat_int, cat_null]) ?_
  refine V.lvc (by simp only [List.set_cons_zero, List.set_cons_succ, Nat.reduceAdd]; rfl) ?_
  refine V_aload_n hZ 3 dX5_moveWaiters_8 rfl rfl (by first | rfl | exact isR_rf _) ?_
  refine V_alenR hZ dX5_moveWaiters_9 (by assumption) ?_
  refine V_istore hZ dX5_moveWaiters_10 (by decide) (by first | rfl | simp [okp, cat_rf, cat_ref, cat_int, cat_null]) ?_
  refine V.lvc (by simp only [List.set_cons_zero, List.set_cons_succ, Nat.reduceAdd]; rfl) ?_
  refine V_iconst (v := 0) hZ dX5_moveWaiters_12 (by decide) ?_
  refine V_istore hZ dX5_moveWaiters_13 (by decide) (by first | rfl | simp [okp, cat_rf, cat_ref, cat_int, cat_null]) ?_
  refine V.lvc (by simp only [List.set_cons_zero, List.set_cons_succ, Nat.reduceAdd]; rfl) ?_
  have key : ∀ m c, c + m = 8 → ∀ (T : St) (g : HP), Rep T g → Wf T → a < nRc T → b < nRc T → lin T a = lin S a → ((lin S a).take c).foldl (mvwStep b) S = T → ∀ w, V Z 15 [some (.ref (aH T)), some (.ref (adR T a)), some (.ref (adR T b)), some (.ref (adQ T a)), some (.int (nI 8)), some (.int (nI c)), w] [] g 0 0 := by
    intro m
    induction m with
    | zero =>
      intro c hcm T g R W ha hb hla hT w
      have hc : c = 8 := by omega
      subst hc
      have g1 := R.hall
      have g2 := R.rec ha
      have g3 := R.line ha
      have g4 := R.row ha
      have g5 := R.rec hb
      have g6 := R.line hb
      refine V_iload hZ dX5_moveWaiters_15 rfl ?_
      refine V_iload hZ dX5_moveWaiters_17 rfl ?_
      refine V_icmp_ge (tgt := 70) hZ dX5_moveWaiters_19 (by decide) (fun cE => ?_) (fun cE => ?_)
      · refine V_aload_n hZ 1 dX5_moveWaiters_70 rfl rfl (by first | rfl | exact isR_rf _) ?_
        refine V_getfield hZ fl_X5_235 dX5_moveWaiters_71 (by assumption) (by rfl) ?_
        refine V_invV hZ me_X4_clear mi_X4_clear ml_X5_382 (c_clear Z.1 g g3 g4 (W_lin W ha).1) dX5_moveWaiters_74 rfl rfl (by assumption) rfl rfl ⟨by decide, by decide⟩ (by first | decide | simp [cat_rf, cat_ref, cat_int, cat_null]) ⟨by decide, by decide⟩ (fun _ _ hq => hq.elim) ?_
        rintro _ _ ⟨rfl, rfl⟩
        refine V_vret hZ hE rfl dX5_moveWaiters_77 (by decide) (by decide) ?_
        have e : mvwS S a b = setLn T a [] := by
          unfold mvwS
          rw [← hT, List.take_of_length_le (by rw [← hla]; exact (W_lin W ha).1)]
        rw [e]
        exact ⟨rfl, rep_ln R ha [], wf_ln W (Nat.zero_le _) (fun y hy => by cases hy) List.nodup_nil⟩
      · exact absurd (by decide) cE
    | succ m ih =>
      intro c hcm T g R W ha hb hla hT w
      have hcN : c < 8 := by omega
      have g1 := R.hall
      have g2 := R.rec ha
      have g3 := R.line ha
      have g4 := R.row ha
      have g5 := R.rec hb
      have g6 := R.line hb
      refine V_iload hZ dX5_moveWaiters_15 rfl ?_
      refine V_iload hZ dX5_moveWaiters_17 rfl ?_
      refine V_icmp_ge (tgt := 70) hZ dX5_moveWaiters_19 (by decide) (fun cE => ?_) (fun cE => ?_)
      · have cE2 : 8 ≤ c := (nI_leI (a := 8) (by decide) (by omega)).mp cE
        omega
      · refine V_aload_n hZ 3 dX5_moveWaiters_22 rfl rfl (by first | rfl | exact isR_rf _) ?_
        refine V_iload hZ dX5_moveWaiters_23 rfl ?_
        cases hx : (lin T a)[c]? with
        | none =>
          refine V_aaldn hZ dX5_moveWaiters_25 (by assumption) hcN (by decide) (v := .null) (lnf_none hx) ?_
          refine V_astore hZ dX5_moveWaiters_26 (by first | rfl | exact isR_rf _) (by decide) (by first | rfl | simp [okp, cat_rf, cat_ref, cat_int, cat_null]) ?_
          refine V.lvc (by simp only [List.set_cons_zero, List.set_cons_succ, Nat.reduceAdd]; rfl) ?_
          refine V_aload hZ dX5_moveWaiters_28 rfl (by first | rfl | exact isR_rf _) ?_
          refine V_ifnullN (tgt := 64) hZ dX5_moveWaiters_30 (by decide) ?_
          refine V_iincv hZ dX5_moveWaiters_64 rfl (by decide) (by first | rfl | simp [okp, cat_rf, cat_ref, cat_int, cat_null]) (by first | exact nI_inc _ | rfl) ?_
          refine V.lvc (by simp only [List.set_cons_zero, List.set_cons_succ, Nat.reduceAdd]; rfl) ?_
          refine V_goto (tgt := 15) hZ dX5_moveWaiters_67 (by decide) ?_
          have hxS : (lin S a)[c]? = none := by rw [← hla]; exact hx
          exact ih (c + 1) (by omega) T g R W ha hb hla (by rw [List.take_add_one, hxS]; simpa using hT) _
        | some x =>
          refine V_aaldn hZ dX5_moveWaiters_25 (by assumption) hcN (by decide) (v := .ref (adD T x)) (lnf_some hx) ?_
          refine V_astore hZ dX5_moveWaiters_26 (by first | rfl | exact isR_rf _) (by decide) (by first | rfl | simp [okp, cat_rf, cat_ref, cat_int, cat_null]) ?_
          refine V.lvc (by simp only [List.set_cons_zero, List.set_cons_succ, Nat.reduceAdd]; rfl) ?_
          refine V_aload hZ dX5_moveWaiters_28 rfl (by first | rfl | exact isR_rf _) ?_
          refine V_ifnullR hZ dX5_moveWaiters_30 ?_
          have hxb : x < nRd T := (W_lin W ha).2 x (List.mem_of_getElem? hx)
          have hxS : (lin S a)[c]? = some x := by rw [← hla]; exact hx
          have ht : ((lin S a).take (c + 1)).foldl (mvwStep b) S = mvwStep b T x := by rw [List.take_add_one, hxS, List.foldl_append, hT]; rfl
          refine V_aload_n hZ 2 dX5_moveWaiters_33 rfl rfl (by first | rfl | exact isR_rf _) ?_
          refine V_getfield hZ fl_X5_235 dX5_moveWaiters_34 (by assumption) (by rfl) ?_
          refine V_aload hZ dX5_moveWaiters_37 rfl (by first | rfl | exact isR_rf _) ?_
          refine V_invVp hZ me_X4_holds mi_X4_holds ml_X5_239 (c_holdsS Z.1 R W hb (o := some x) (fun y hy => by cases hy; exact hxb)) dX5_moveWaiters_39 rfl rfl (by assumption) rfl rfl ⟨by decide, by decide⟩ (by first | decide | simp [cat_rf, cat_ref, cat_int, cat_null]) ⟨by decide, by decide⟩ ?_
          refine V_if_ne (tgt := 64) hZ dX5_moveWaiters_42 (by decide) (fun c1 => ?_) (fun c1 => ?_)
          · refine V_iincv hZ dX5_moveWaiters_64 rfl (by decide) (by first | rfl | simp [okp, cat_rf, cat_ref, cat_int, cat_null]) (by first | exact nI_inc _ | rfl) ?_
            refine V.lvc (by simp only [List.set_cons_zero, List.set_cons_succ, Nat.reduceAdd]; rfl) ?_
            refine V_goto (tgt := 15) hZ dX5_moveWaiters_67 (by decide) ?_
            have c2 : (lin T b).contains x = true := b01_nz c1
            exact ih (c + 1) (by omega) T g R W ha hb hla (by rw [ht]; simp only [mvwStep, if_pos (Or.inl c2)]) _
          · have c2 : ¬ (lin T b).contains x = true := b01_z c1
            refine V_aload_n hZ 0 dX5_moveWaiters_45 rfl rfl (by first | rfl | exact isR_rf _) ?_
            refine V_aload hZ dX5_moveWaiters_46 rfl (by first | rfl | exact isR_rf _) ?_
            refine V_aload_n hZ 2 dX5_moveWaiters_48 rfl rfl (by first | rfl | exact isR_rf _) ?_
            refine V_invVp hZ me_X5_hasCopyOf mi_X5_hasCopyOf ml_X5_245 (c_hasCopyOf Z.1 R W hxb hb) dX5_moveWaiters_49 rfl rfl (by assumption) rfl rfl ⟨by decide, by decide⟩ (by first | decide | simp [cat_rf, cat_ref, cat_int, cat_null]) ⟨by decide, by decide⟩ ?_
            refine V_if_ne (tgt := 64) hZ dX5_moveWaiters_52 (by decide) (fun c3 => ?_) (fun c3 => ?_)
            · refine V_iincv hZ dX5_moveWaiters_64 rfl (by decide) (by first | rfl | simp [okp, cat_rf, cat_ref, cat_int, cat_null]) (by first | exact nI_inc _ | rfl) ?_
              refine V.lvc (by simp only [List.set_cons_zero, List.set_cons_succ, Nat.reduceAdd]; rfl) ?_
              refine V_goto (tgt := 15) hZ dX5_moveWaiters_67 (by decide) ?_
              have c4 := b01_nz c3
              exact ih (c + 1) (by omega) T g R W ha hb hla (by rw [ht]; simp only [mvwStep, if_pos (Or.inr c4)]) _
            · have c4 := b01_z c3
              have c5 : ¬ ((lin T b).contains x = true ∨ (fN (hasB T x b) 30 0).isSome = true) := fun z => z.elim c2 c4
              have hxl : x ∉ lin T b := fun z => c2 (by simpa using z)
              have hl := nd_lt (W_nod W hb) (fun y hy => Nat.lt_of_lt_of_le ((W_lin W hb).2 y hy) W.2.2.2.1) (Nat.lt_of_lt_of_le hxb W.2.2.2.1) hxl
              refine V_aload_n hZ 2 dX5_moveWaiters_55 rfl rfl (by first | rfl | exact isR_rf _) ?_
              refine V_getfield hZ fl_X5_235 dX5_moveWaiters_56 (by assumption) (by rfl) ?_
              refine V_aload hZ dX5_moveWaiters_59 rfl (by first | rfl | exact isR_rf _) ?_
              refine V_invV hZ me_X4_join mi_X4_join ml_X5_251 (c_join Z.1 g g6 (R.row hb) hl (R.rdr hxb)) dX5_moveWaiters_61 rfl rfl (by assumption) rfl rfl ⟨by decide, by decide⟩ (by first | decide | simp [cat_rf, cat_ref, cat_int, cat_null]) ⟨by decide, by decide⟩ (fun _ _ hq => hq.elim) ?_
              rintro _ _ ⟨rfl, rfl⟩
              refine V_iincv hZ dX5_moveWaiters_64 rfl (by decide) (by first | rfl | simp [okp, cat_rf, cat_ref, cat_int, cat_null]) (by first | exact nI_inc _ | rfl) ?_
              refine V.lvc (by simp only [List.set_cons_zero, List.set_cons_succ, Nat.reduceAdd]; rfl) ?_
              refine V_goto (tgt := 15) hZ dX5_moveWaiters_67 (by decide) ?_
              have R2 := rep_ln R hb (lin T b ++ [x])
              simp only [List.length_append, List.length_singleton] at R2
              have e : mvwStep b T x = setLn T b (lin T b ++ [x]) := by unfold mvwStep; rw [if_neg c5]
              have W2 := wf_mvwStep W hb hxb
              rw [e] at W2
              exact ih (c + 1) (by omega) (setLn T b (lin T b ++ [x])) _ R2 W2 ha hb (by rw [← hla]; show va_up (lin T) b _ a = _; simp [va_up, hab]) (by rw [ht, e]) _
  exact key 8 0 rfl _ _ R W ha hb rfl rfl none
def rightB (T : St) (c : Nat) : Bool := holdsB (cpRd (cps T c)) (lin T (cpRc (cps T c))) && decide (fN (asideB T (cpRd (cps T c)) (cpRc (cps T c))) 30 0 = some c)
theorem c_isRightlyAside (G : GC) {h : HP} {S : St} (R : Rep S h) (W : Wf S) {c : Nat} (hi : c < nCp S) : Calls G yX5_isRightlyAside cX5_isRightlyAside 2 (.some .boolean) 2 48 0 0 [.ref (aH S), .ref (adC S c)] h (qV (.int (b01 (rightB S c = true))) h) qX := by
  have h3 := R.copy hi
  have hr := W_rec W hi
  have h4 := R.rec hr
  have h5 := R.line hr
  have h1 := R.hall
  refine Calls_of1 (by decide +kernel) (by simp [cat_rf, cat_ref, cat_int, cat_null]) (by simp) (lv0 := [some (.ref (aH S)), some (.ref (adC S c))]) rfl ?_
  intro Z hG hZ hE hN
  subst hG
  refine V_aload_n hZ 1 dX5_isRightlyAside_0 rfl rfl (by first | rfl | exact isR_rf _) ?_
  refine V_getfield hZ fl_X5_192.r dX5_isRightlyAside_1 (by assumption) (by rfl) ?_
  refine V_getfield hZ fl_X5_235 dX5_isRightlyAside_4 (by assumption) (by rfl) ?_
  refine V_aload_n hZ 1 dX5_isRightlyAside_7 rfl rfl (by first | rfl | exact isR_rf _) ?_
  refine V_getfield hZ fl_X5_202.r dX5_isRightlyAside_8 (by assumption) (by rfl) ?_
  refine V_invVp hZ me_X4_holds mi_X4_holds ml_X5_239 (c_holdsS Z.1 R W hr (W_rdr W hi)) dX5_isRightlyAside_11 rfl rfl (by assumption) rfl rfl ⟨by decide, by decide⟩ (by first | decide | simp [cat_rf, cat_ref, cat_int, cat_null]) ⟨by decide, by decide⟩ ?_
  refine V_if_eq (tgt := 37) hZ dX5_isRightlyAside_14 (by decide) (fun c1 => ?_) (fun c1 => ?_)
  · refine V_iconst (v := 0) hZ dX5_isRightlyAside_37 (by decide) ?_
    refine V_iret hZ hE rfl (by rfl) dX5_isRightlyAside_38 (by decide) (by decide) ?_
    have c2 := b01_z c1
    exact ⟨by simp [rightB, b01, c2], rfl⟩
  · have c2 := b01_nz c1
    refine V_aload_n hZ 0 dX5_isRightlyAside_17 rfl rfl (by first | rfl | exact isR_rf _) ?_
    refine V_aload_n hZ 1 dX5_isRightlyAside_18 rfl rfl (by first | rfl | exact isR_rf _) ?_
    refine V_getfield hZ fl_X5_202.r dX5_isRightlyAside_19 (by assumption) (by rfl) ?_
    refine V_aload_n hZ 1 dX5_isRightlyAside_22 rfl rfl (by first | rfl | exact isR_rf _) ?_
    refine V_getfield hZ fl_X5_192.r dX5_isRightlyAside_23 (by assumption) (by rfl) ?_
    refine V_invVp hZ me_X5_firstAside mi_X5_firstAside ml_X5_286 (c_firstAside Z.1 R W hr (W_rdr W hi)) dX5_isRightlyAside_26 rfl rfl (by assumption) rfl rfl ⟨by decide, by decide⟩ (by first | decide | simp [cat_rf, cat_ref, cat_int, cat_null]) ⟨by decide, by decide⟩ ?_
    refine V_aload_n hZ 1 dX5_isRightlyAside_29 rfl rfl (by first | rfl | exact isR_rf _) ?_
    refine V_acmp_ne (tgt := 37) hZ dX5_isRightlyAside_30 (by decide) (by first | rfl | exact isR_rf _) (by first | rfl | exact isR_rf _) (fun c3 => ?_) (fun c3 => ?_)
    · refine V_iconst (v := 0) hZ dX5_isRightlyAside_37 (by decide) ?_
      refine V_iret hZ hE rfl (by rfl) dX5_isRightlyAside_38 (by decide) (by decide) ?_
      have c4 : ¬ fN (asideB S (cpRd (cps S c)) (cpRc (cps S c))) 30 0 = some c := fun z => c3 (by rw [z]; rfl)
      exact ⟨by simp [rightB, b01, c4], rfl⟩
    · refine V_iconst (v := 1) hZ dX5_isRightlyAside_33 (by decide) ?_
      refine V_goto (tgt := 38) hZ dX5_isRightlyAside_34 (by decide) ?_
      refine V_iret hZ hE rfl (by rfl) dX5_isRightlyAside_38 (by decide) (by decide) ?_
      have c4 : fN (asideB S (cpRd (cps S c)) (cpRc (cps S c))) 30 0 = some c := by
        cases hz : fN (asideB S (cpRd (cps S c)) (cpRc (cps S c))) 30 0 with
        | none => rw [hz] at c3; cases c3
        | some d =>
          rw [hz] at c3
          have hd := fN_some hz
          simp only [asideB, decide_eq_true_eq] at hd
          have : adC S d = adC S c := Value.ref.inj c3
          rw [R.copyInj W hd.1 hi this]
      exact ⟨by simp [rightB, b01, c2, c4], rfl⟩
def wrStep (T : St) (c : Nat) : St := if c < nCp T ∧ cpPl (cps T c) = 2 ∧ rightB T c = false then freeS T c else T
def wrS (S : St) : St := itN wrStep 30 S
def inStep (T : St) (c : Nat) : St := if c < nCp T ∧ cpPl (cps T c) = 0 then freeS T c else T
def inS (S : St) : St := itN inStep 30 S
theorem same5_wrStep {T : St} {c : Nat} : same5 T (wrStep T c) := by
  unfold wrStep
  split <;> exact ⟨rfl, rfl, rfl⟩
theorem wf_wrStep {T : St} {c : Nat} (W : Wf T) : Wf (wrStep T c) := by
  unfold wrStep
  split
  · rename_i h; exact wf_free W h.1
  · exact W
theorem same5_inStep {T : St} {c : Nat} : same5 T (inStep T c) := by
  unfold inStep
  split <;> exact ⟨rfl, rfl, rfl⟩
theorem wf_inStep {T : St} {c : Nat} (W : Wf T) : Wf (inStep T c) := by
  unfold inStep
  split
  · rename_i h; exact wf_free W h.1
  · exact W
theorem same5_wr {S : St} : same5 S (wrS S) := itN_same (fun T c => same5_wrStep) 30
theorem same5_in {S : St} : same5 S (inS S) := itN_same (fun T c => same5_inStep) 30
theorem wf_wr {S : St} (W : Wf S) : Wf (wrS S) := itN_wf (fun T c h => wf_wrStep h) W 30
theorem wf_in {S : St} (W : Wf S) : Wf (inS S) := itN_wf (fun T c h => wf_inStep h) W 30
theorem c_freeThoseWronglyAside (G : GC) {h : HP} {S : St} (R : Rep S h) (W : Wf S) : Calls G yX5_freeThoseWronglyAside cX5_freeThoseWronglyAside 5 (.none : Option Jvm.ClassFile.FieldType) 4 95 0 0 [.ref (aH S)] h (fun v h' => v = none ∧ Rep (wrS S) h') qX := by
  have h1 := R.hall
  have h2 := R.copies
  refine Calls_of1 (by decide +kernel) (by simp [cat_rf, cat_ref, cat_int, cat_null]) (by simp) (lv0 := [some (.ref (aH S)), none, none, none, none]) rfl ?_
  intro Z hG hZ hE hN
  subst hG
  refine V_aload_n hZ 0 dX5_freeThoseWronglyAside_0 rfl rfl (by first | rfl | exact isR_rf _) ?_
  refine V_getfield hZ fl_X5_23.r dX5_freeThoseWronglyAside_1 (by assumption) (by rfl) ?_
  refine V_astore_n hZ 1 rfl dX5_freeThoseWronglyAside_4 (by first | rfl | exact isR_rf _) (by decide) (by first | rfl | simp [okp, cat_rf, cat_ref, cat_int, cat_null]) ?_
  refine V.lvc (by simp only [List.set_cons_zero, List.set_cons_succ, Nat.reduceAdd]; rfl) ?_
  refine V_aload_n hZ 1 dX5_freeThoseWronglyAside_5 rfl rfl (by first | rfl | exact isR_rf _) ?_
  refine V_alenR hZ dX5_freeThoseWronglyAside_6 (by assumption) ?_
  refine V_istore_n hZ 2 rfl dX5_freeThoseWronglyAside_7 (by decide) (by first | rfl | simp [okp, cat_rf, cat_ref, cat_int, cat_null]) ?_
  refine V.lvc (by simp only [List.set_cons_zero, List.set_cons_succ, Nat.reduceAdd]; rfl) ?_
  refine V_iconst (v := 0) hZ dX5_freeThoseWronglyAside_8 (by decide) ?_
  refine V_istore_n hZ 3 rfl dX5_freeThoseWronglyAside_9 (by decide) (by first | rfl | simp [okp, cat_rf, cat_ref, cat_int, cat_null]) ?_
  refine V.lvc (by simp only [List.set_cons_zero, List.set_cons_succ, Nat.reduceAdd]; rfl) ?_
  have key : ∀ m c, c + m = 30 → ∀ (T : St) (g : HP), Rep T g → Wf T → itN wrStep c S = T → ∀ w, V Z 10 [some (.ref (aH T)), some (.ref (aCs T)), some (.int (nI 30)), some (.int (nI c)), w] [] g 0 0 := by
    intro m
    induction m with
    | zero =>
      intro c hcm T g R W hT w
      have hc : c = 30 := by omega
      subst hc
      have g1 := R.hall
      have g2 := R.copies
      refine V_iload_n hZ 3 dX5_freeThoseWronglyAside_10 rfl rfl ?_
      refine V_iload_n hZ 2 dX5_freeThoseWronglyAside_11 rfl rfl ?_
      refine V_icmp_ge (tgt := 55) hZ dX5_freeThoseWronglyAside_12 (by decide) (fun cE => ?_) (fun cE => ?_)
      · refine V_vret hZ hE rfl dX5_freeThoseWronglyAside_55 (by decide) (by decide) ?_
        exact ⟨rfl, by rw [show wrS S = T from hT]; exact R⟩
      · exact absurd (by decide) cE
    | succ m ih =>
      intro c hcm T g R W hT w
      have hcN : c < 30 := by omega
      have g1 := R.hall
      have g2 := R.copies
      refine V_iload_n hZ 3 dX5_freeThoseWronglyAside_10 rfl rfl ?_
      refine V_iload_n hZ 2 dX5_freeThoseWronglyAside_11 rfl rfl ?_
      refine V_icmp_ge (tgt := 55) hZ dX5_freeThoseWronglyAside_12 (by decide) (fun cE => ?_) (fun cE => ?_)
      · have cE2 : 30 ≤ c := (nI_leI (a := 30) (by decide) (by omega)).mp cE
        omega
      · refine V_aload_n hZ 1 dX5_freeThoseWronglyAside_15 rfl rfl (by first | rfl | exact isR_rf _) ?_
        refine V_iload_n hZ 3 dX5_freeThoseWronglyAside_16 rfl rfl ?_
        by_cases hi : c < nCp T
        · refine V_aaldn hZ dX5_freeThoseWronglyAside_17 (by assumption) hcN (by decide) (v := .ref (adC T c)) (rowf_lt hi) ?_
          refine V_astore hZ dX5_freeThoseWronglyAside_18 (by first | rfl | exact isR_rf _) (by decide) (by first | rfl | simp [okp, cat_rf, cat_ref, cat_int, cat_null]) ?_
          refine V.lvc (by simp only [List.set_cons_zero, List.set_cons_succ, Nat.reduceAdd]; rfl) ?_
          refine V_aload hZ dX5_freeThoseWronglyAside_20 rfl (by first | rfl | exact isR_rf _) ?_
          refine V_ifnullR hZ dX5_freeThoseWronglyAside_22 ?_
          have g3 := R.copy hi
          refine V_aload hZ dX5_freeThoseWronglyAside_25 rfl (by first | rfl | exact isR_rf _) ?_
          refine V_getfield hZ fl_X5_215.r dX5_freeThoseWronglyAside_27 (by assumption) (by rfl) ?_
          refine V_iconst (v := 2) hZ dX5_freeThoseWronglyAside_30 (by decide) ?_
          refine V_icmp_ne (tgt := 49) hZ dX5_freeThoseWronglyAside_31 (by decide) (fun c1 => ?_) (fun c1 => ?_)
          · refine V_iincv hZ dX5_freeThoseWronglyAside_49 rfl (by decide) (by first | rfl | simp [okp, cat_rf, cat_ref, cat_int, cat_null]) (by first | exact nI_inc _ | rfl) ?_
            refine V.lvc (by simp only [List.set_cons_zero, List.set_cons_succ, Nat.reduceAdd]; rfl) ?_
            refine V_goto (tgt := 10) hZ dX5_freeThoseWronglyAside_52 (by decide) ?_
            exact ih (c + 1) (by omega) T g R W (by rw [itN, hT]; simp only [wrStep, if_neg (show ¬ (c < nCp T ∧ cpPl (cps T c) = 2 ∧ rightB T c = false) from fun z => c1 z.2.1)]) _
          · refine V_aload_n hZ 0 dX5_freeThoseWronglyAside_34 rfl rfl (by first | rfl | exact isR_rf _) ?_
            refine V_aload hZ dX5_freeThoseWronglyAside_35 rfl (by first | rfl | exact isR_rf _) ?_
            refine V_invVp hZ me_X5_isRightlyAside mi_X5_isRightlyAside ml_X5_385 (c_isRightlyAside Z.1 R W hi) dX5_freeThoseWronglyAside_37 rfl rfl (by assumption) rfl rfl ⟨by decide, by decide⟩ (by first | decide | simp [cat_rf, cat_ref, cat_int, cat_null]) ⟨by decide, by decide⟩ ?_
            refine V_if_ne (tgt := 49) hZ dX5_freeThoseWronglyAside_40 (by decide) (fun c2 => ?_) (fun c2 => ?_)
            · refine V_iincv hZ dX5_freeThoseWronglyAside_49 rfl (by decide) (by first | rfl | simp [okp, cat_rf, cat_ref, cat_int, cat_null]) (by first | exact nI_inc _ | rfl) ?_
              refine V.lvc (by simp only [List.set_cons_zero, List.set_cons_succ, Nat.reduceAdd]; rfl) ?_
              refine V_goto (tgt := 10) hZ dX5_freeThoseWronglyAside_52 (by decide) ?_
              have c3 := b01_nz c2
              exact ih (c + 1) (by omega) T g R W (by rw [itN, hT]; simp only [wrStep, if_neg (show ¬ (c < nCp T ∧ cpPl (cps T c) = 2 ∧ rightB T c = false) from fun z => by rw [c3] at z; cases z.2.2)]) _
            · have c3 : rightB T c = false := by
                have := b01_z c2
                cases hz : rightB T c
                · rfl
                · exact absurd hz this
              refine V_aload_n hZ 0 dX5_freeThoseWronglyAside_43 rfl rfl (by first | rfl | exact isR_rf _) ?_
              refine V_aload hZ dX5_freeThoseWronglyAside_44 rfl (by first | rfl | exact isR_rf _) ?_
              refine V_invV hZ me_X5_free mi_X5_free ml_X5_144 (c_free Z.1 R W hi) dX5_freeThoseWronglyAside_46 rfl rfl (by assumption) rfl rfl ⟨by decide, by decide⟩ (by first | decide | simp [cat_rf, cat_ref, cat_int, cat_null]) ⟨by decide, by decide⟩ (fun _ _ hq => hq.elim) ?_
              rintro _ g' ⟨rfl, R'⟩
              refine V_iincv hZ dX5_freeThoseWronglyAside_49 rfl (by decide) (by first | rfl | simp [okp, cat_rf, cat_ref, cat_int, cat_null]) (by first | exact nI_inc _ | rfl) ?_
              refine V.lvc (by simp only [List.set_cons_zero, List.set_cons_succ, Nat.reduceAdd]; rfl) ?_
              refine V_goto (tgt := 10) hZ dX5_freeThoseWronglyAside_52 (by decide) ?_
              exact ih (c + 1) (by omega) (freeS T c) g' R' (wf_free W hi) (by rw [itN, hT]; simp only [wrStep, if_pos (show c < nCp T ∧ cpPl (cps T c) = 2 ∧ rightB T c = false from ⟨hi, c1, c3⟩)]) _
        · refine V_aaldn hZ dX5_freeThoseWronglyAside_17 (by assumption) hcN (by decide) (v := .null) (rowf_ge hi) ?_
          refine V_astore hZ dX5_freeThoseWronglyAside_18 (by first | rfl | exact isR_rf _) (by decide) (by first | rfl | simp [okp, cat_rf, cat_ref, cat_int, cat_null]) ?_
          refine V.lvc (by simp only [List.set_cons_zero, List.set_cons_succ, Nat.reduceAdd]; rfl) ?_
          refine V_aload hZ dX5_freeThoseWronglyAside_20 rfl (by first | rfl | exact isR_rf _) ?_
          refine V_ifnullN (tgt := 49) hZ dX5_freeThoseWronglyAside_22 (by decide) ?_
          refine V_iincv hZ dX5_freeThoseWronglyAside_49 rfl (by decide) (by first | rfl | simp [okp, cat_rf, cat_ref, cat_int, cat_null]) (by first | exact nI_inc _ | rfl) ?_
          refine V.lvc (by simp only [List.set_cons_zero, List.set_cons_succ, Nat.reduceAdd]; rfl) ?_
          refine V_goto (tgt := 10) hZ dX5_freeThoseWronglyAside_52 (by decide) ?_
          exact ih (c + 1) (by omega) T g R W (by rw [itN, hT]; simp only [wrStep, if_neg (show ¬ (c < nCp T ∧ cpPl (cps T c) = 2 ∧ rightB T c = false) from fun z => hi z.1)]) _
  exact key 30 0 rfl _ _ R W rfl none
theorem c_freeThoseIn (G : GC) {h : HP} {S : St} (R : Rep S h) (W : Wf S) : Calls G yX5_freeThoseIn cX5_freeThoseIn 5 (.none : Option Jvm.ClassFile.FieldType) 4 95 0 0 [.ref (aH S)] h (fun v h' => v = none ∧ Rep (inS S) h') qX := by
  have h1 := R.hall
  have h2 := R.copies
  refine Calls_of1 (by decide +kernel) (by simp [cat_rf, cat_ref, cat_int, cat_null]) (by simp) (lv0 := [some (.ref (aH S)), none, none, none, none]) rfl ?_
  intro Z hG hZ hE hN
  subst hG
  refine V_aload_n hZ 0 dX5_freeThoseIn_0 rfl rfl (by first | rfl | exact isR_rf _) ?_
  refine V_getfield hZ fl_X5_23.r dX5_freeThoseIn_1 (by assumption) (by rfl) ?_
  refine V_astore_n hZ 1 rfl dX5_freeThoseIn_4 (by first | rfl | exact isR_rf _) (by decide) (by first | rfl | simp [okp, cat_rf, cat_ref, cat_int, cat_null]) ?_
  refine V.lvc (by simp only [List.set_cons_zero, List.set_cons_succ, Nat.reduceAdd]; rfl) ?_
  refine V_aload_n hZ 1 dX5_freeThoseIn_5 rfl rfl (by first | rfl | exact isR_rf _) ?_
  refine V_alenR hZ dX5_freeThoseIn_6 (by assumption) ?_
  refine V_istore_n hZ 2 rfl dX5_freeThoseIn_7 (by decide) (by first | rfl | simp [okp, cat_rf, cat_ref, cat_int, cat_null]) ?_
  refine V.lvc (by simp only [List.set_cons_zero, List.set_cons_succ, Nat.reduceAdd]; rfl) ?_
  refine V_iconst (v := 0) hZ dX5_freeThoseIn_8 (by decide) ?_
  refine V_istore_n hZ 3 rfl dX5_freeThoseIn_9 (by decide) (by first | rfl | simp [okp, cat_rf, cat_ref, cat_int, cat_null]) ?_
  refine V.lvc (by simp only [List.set_cons_zero, List.set_cons_succ, Nat.reduceAdd]; rfl) ?_
  have key : ∀ m c, c + m = 30 → ∀ (T : St) (g : HP), Rep T g → Wf T → itN inStep c S = T → ∀ w, V Z 10 [some (.ref (aH T)), some (.ref (aCs T)), some (.int (nI 30)), some (.int (nI c)), w] [] g 0 0 := by
    intro m
    induction m with
    | zero =>
      intro c hcm T g R W hT w
      have hc : c = 30 := by omega
      subst hc
      have g1 := R.hall
      have g2 := R.copies
      refine V_iload_n hZ 3 dX5_freeThoseIn_10 rfl rfl ?_
      refine V_iload_n hZ 2 dX5_freeThoseIn_11 rfl rfl ?_
      refine V_icmp_ge (tgt := 45) hZ dX5_freeThoseIn_12 (by decide) (fun cE => ?_) (fun cE => ?_)
      · refine V_vret hZ hE rfl dX5_freeThoseIn_45 (by decide) (by decide) ?_
        exact ⟨rfl, by rw [show inS S = T from hT]; exact R⟩
      · exact absurd (by decide) cE
    | succ m ih =>
      intro c hcm T g R W hT w
      have hcN : c < 30 := by omega
      have g1 := R.hall
      have g2 := R.copies
      refine V_iload_n hZ 3 dX5_freeThoseIn_10 rfl rfl ?_
      refine V_iload_n hZ 2 dX5_freeThoseIn_11 rfl rfl ?_
      refine V_icmp_ge (tgt := 45) hZ dX5_freeThoseIn_12 (by decide) (fun cE => ?_) (fun cE => ?_)
      · have cE2 : 30 ≤ c := (nI_leI (a := 30) (by decide) (by omega)).mp cE
        omega
      · refine V_aload_n hZ 1 dX5_freeThoseIn_15 rfl rfl (by first | rfl | exact isR_rf _) ?_
        refine V_iload_n hZ 3 dX5_freeThoseIn_16 rfl rfl ?_
        by_cases hi : c < nCp T
        · refine V_aaldn hZ dX5_freeThoseIn_17 (by assumption) hcN (by decide) (v := .ref (adC T c)) (rowf_lt hi) ?_
          refine V_astore hZ dX5_freeThoseIn_18 (by first | rfl | exact isR_rf _) (by decide) (by first | rfl | simp [okp, cat_rf, cat_ref, cat_int, cat_null]) ?_
          refine V.lvc (by simp only [List.set_cons_zero, List.set_cons_succ, Nat.reduceAdd]; rfl) ?_
          refine V_aload hZ dX5_freeThoseIn_20 rfl (by first | rfl | exact isR_rf _) ?_
          refine V_ifnullR hZ dX5_freeThoseIn_22 ?_
          have g3 := R.copy hi
          refine V_aload hZ dX5_freeThoseIn_25 rfl (by first | rfl | exact isR_rf _) ?_
          refine V_getfield hZ fl_X5_215.r dX5_freeThoseIn_27 (by assumption) (by rfl) ?_
          refine V_if_ne (tgt := 39) hZ dX5_freeThoseIn_30 (by decide) (fun c1 => ?_) (fun c1 => ?_)
          · refine V_iincv hZ dX5_freeThoseIn_39 rfl (by decide) (by first | rfl | simp [okp, cat_rf, cat_ref, cat_int, cat_null]) (by first | exact nI_inc _ | rfl) ?_
            refine V.lvc (by simp only [List.set_cons_zero, List.set_cons_succ, Nat.reduceAdd]; rfl) ?_
            refine V_goto (tgt := 10) hZ dX5_freeThoseIn_42 (by decide) ?_
            exact ih (c + 1) (by omega) T g R W (by rw [itN, hT]; simp only [inStep, if_neg (show ¬ (c < nCp T ∧ cpPl (cps T c) = 0) from fun z => c1 z.2)]) _
          · refine V_aload_n hZ 0 dX5_freeThoseIn_33 rfl rfl (by first | rfl | exact isR_rf _) ?_
            refine V_aload hZ dX5_freeThoseIn_34 rfl (by first | rfl | exact isR_rf _) ?_
            refine V_invV hZ me_X5_free mi_X5_free ml_X5_144 (c_free Z.1 R W hi) dX5_freeThoseIn_36 rfl rfl (by assumption) rfl rfl ⟨by decide, by decide⟩ (by first | decide | simp [cat_rf, cat_ref, cat_int, cat_null]) ⟨by decide, by decide⟩ (fun _ _ hq => hq.elim) ?_
            rintro _ g' ⟨rfl, R'⟩
            refine V_iincv hZ dX5_freeThoseIn_39 rfl (by decide) (by first | rfl | simp [okp, cat_rf, cat_ref, cat_int, cat_null]) (by first | exact nI_inc _ | rfl) ?_
            refine V.lvc (by simp only [List.set_cons_zero, List.set_cons_succ, Nat.reduceAdd]; rfl) ?_
            refine V_goto (tgt := 10) hZ dX5_freeThoseIn_42 (by decide) ?_
            exact ih (c + 1) (by omega) (freeS T c) g' R' (wf_free W hi) (by rw [itN, hT]; simp only [inStep, if_pos (show c < nCp T ∧ cpPl (cps T c) = 0 from ⟨hi, c1⟩)]) _
        · refine V_aaldn hZ dX5_freeThoseIn_17 (by assumption) hcN (by decide) (v := .null) (rowf_ge hi) ?_
          refine V_astore hZ dX5_freeThoseIn_18 (by first | rfl | exact isR_rf _) (by decide) (by first | rfl | simp [okp, cat_rf, cat_ref, cat_int, cat_null]) ?_
          refine V.lvc (by simp only [List.set_cons_zero, List.set_cons_succ, Nat.reduceAdd]; rfl) ?_
          refine V_aload hZ dX5_freeThoseIn_20 rfl (by first | rfl | exact isR_rf _) ?_
          refine V_ifnullN (tgt := 39) hZ dX5_freeThoseIn_22 (by decide) ?_
          refine V_iincv hZ dX5_freeThoseIn_39 rfl (by decide) (by first | rfl | simp [okp, cat_rf, cat_ref, cat_int, cat_null]) (by first | exact nI_inc _ | rfl) ?_
          refine V.lvc (by simp only [List.set_cons_zero, List.set_cons_succ, Nat.reduceAdd]; rfl) ?_
          refine V_goto (tgt := 10) hZ dX5_freeThoseIn_42 (by decide) ?_
          exact ih (c + 1) (by omega) T g R W (by rw [itN, hT]; simp only [inStep, if_neg (show ¬ (c < nCp T ∧ cpPl (cps T c) = 0) from fun z => hi z.1)]) _
  exact key 30 0 rfl _ _ R W rfl none

