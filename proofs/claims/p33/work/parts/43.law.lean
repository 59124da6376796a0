/-! the law -/
/-- what is asked of the whole at the checks -/
def ChkOK (S : St) : Prop := (∀ c, c < nCp S → CpOK S c) ∧ 3 ≤ nRc S ∧ (∀ i, i < 3 → RcOK S i) ∧ nRd S = 4 ∧ (∀ x, x < 4 → RdOK S x) ∧ (∃ w, w < 161 ∧ smN (waitF S) 20 = w ∧ sm (fun x => factD S x 3) 4 = nI w) ∧ totN S 9 = sm (fun x => factD S x 2) 4 ∧ totN S 6 = sm (fun x => factD S x 1) 4 ∧ totN S 7 = sm (fun x => factD S x 4) 4
/-- a library just opened: one name, j readers, k records -/
def Op (j k : Nat) (S : St) : Prop := Wf S ∧ nNm S = 1 ∧ nRd S = j ∧ nRc S = k ∧ nCp S = 0 ∧ tdy S = 0 ∧ (∀ x, x < j → ∃ y, y ≤ 1 ∧ rds S x = (nI y, 0)) ∧ (∀ i, i < k → lin S i = [] ∧ ∃ o t, (o = none ∨ o = some 0) ∧ 1 ≤ t ∧ t ≤ 100 ∧ rcs S i = (o, nI t, nI 50, none, 0))
/-- what the invariant must give: PI after t turns -/
def Pur (PI : Nat → St → Prop) : Prop :=
  (∀ S, Op 4 3 S → PI 0 S) ∧ (∀ t S, PI t S → Wf S ∧ ¬ totN S 2 < 1) ∧ (∀ t S, t < 60 → PI t S → AoAll (PI (t + 1)) S) ∧ (∀ t S, t ≤ 60 → PI t S → ChkOK S) ∧ (∀ t S T, nrm T = nrm S → PI t S → PI t T)
theorem cellK : ∀ t, t < 60 → (3 : Int32) + (nI t - nI t / 26 * 26) = nI (3 + t % 26) := by decide +kernel
theorem op_name {S : St} {q : Nat} (W : Wf S) (h1 : nNm S = 0) (h2 : nRd S = 0) (h3 : nRc S = 0) (h4 : nCp S = 0) (h5 : tdy S = 0) : Op 0 0 (addNm S q) :=
  ⟨wf_addNm W (by omega), by show nNm S + 1 = 1; omega, h2, h3, h4, h5, fun x hx => absurd hx (Nat.not_lt_zero _), fun i hi => absurd hi (Nat.not_lt_zero _)⟩
theorem op_rd {S : St} {j q y : Nat} (O : Op j 0 S) (hj : j < 4) (hy : y ≤ 1) : Op (j + 1) 0 (addRd S q (nI y, 0)) := by
  obtain ⟨W, h1, h2, h3, h4, h5, h6, h7⟩ := O
  refine ⟨wf_addRd W (by omega), h1, by show nRd S + 1 = j + 1; omega, h3, h4, h5, fun x hx => ?_, fun i hi => absurd hi (Nat.not_lt_zero _)⟩
  show ∃ y', y' ≤ 1 ∧ va_up (rds S) (nRd S) (nI y, 0) x = (nI y', 0)
  by_cases hxj : x = nRd S
  · rw [hxj, up_eq]; exact ⟨y, hy, rfl⟩
  · rw [up_ne hxj]; exact h6 x (by omega)
theorem op_rc {S : St} {k q q2 q3 t : Nat} {o : Option Nat} (O : Op 4 k S) (hk : k < 3) (ho : o = none ∨ o = some 0) (ht1 : 1 ≤ t) (ht2 : t ≤ 100) : Op 4 (k + 1) (addRc S q q2 q3 (o, nI t, nI 50, none, 0)) := by
  obtain ⟨W, h1, h2, h3, h4, h5, h6, h7⟩ := O
  refine ⟨wf_addRc W (by omega) (fun j hj => ?_) (fun j hj => by cases hj), h1, h2, by show nRc S + 1 = k + 1; omega, h4, h5, h6, fun i hi => ?_⟩
  · rcases ho with rfl | rfl
    · cases hj
    · cases hj; omega
  · show va_up (lin S) (nRc S) [] i = [] ∧ ∃ o' t', (o' = none ∨ o' = some 0) ∧ 1 ≤ t' ∧ t' ≤ 100 ∧ va_up (rcs S) (nRc S) (o, nI t, nI 50, none, 0) i = (o', nI t', nI 50, none, 0)
    by_cases hij : i = nRc S
    · rw [hij, up_eq, up_eq]; exact ⟨rfl, o, t, ho, ht1, ht2, rfl⟩
    · rw [up_ne hij, up_ne hij]; exact h7 i (by omega)
theorem wf_00 {q p1 p2 p3 p4 : Nat} : Wf (S00 q p1 p2 p3 p4) :=
  ⟨by show 0 ≤ 16; omega, by show 0 ≤ 20; omega, by show 0 ≤ 30; omega, by show 0 ≤ 8; omega, fun i hi => absurd hi (Nat.not_lt_zero _), fun i hi => absurd hi (Nat.not_lt_zero _), fun i hi => absurd hi (Nat.not_lt_zero _)⟩
theorem nrm_dig {S T : St} (h : nrm T = nrm S) : digN T = digN S := by
  have key : ∀ S, digN (nrm S) = digN S := fun S => rfl
  rw [← key T, ← key S, h]
theorem orN_o {n : Nat} (hn : n < 2) : ∃ o, (o = none ∨ o = some 0) ∧ nI n - 1 = orN o := by
  rcases (by omega : n = 0 ∨ n = 1) with rfl | rfl
  · exact ⟨none, Or.inl rfl, by decide⟩
  · exact ⟨some 0, Or.inr rfl, by decide⟩
theorem cmp_self (x : Int64) : lg_cmp x x = 0 := by simp [lg_cmp]
theorem law_V {Z : ZC} {PI : Nat → St → Prop} (P : Pur PI) (hZ : OKz Z RL cL_law 8 12 442 600130 7301080) (hL : Z.1.2.2.2.2.1 < 2 ^ 31) {h0 : HP} (hend : ∀ (lv : List (Option Value)) (h : HP) (k n : Nat), k ≤ 600130 → n ≤ 7301080 → V Z 226 lv [.int 1] h k n) : V Z 0 [some (.ref Z.1.2.2.2.1), none, none, none, none, none, none, none] [] h0 0 0 := by
  obtain ⟨pStart, pWf, pTurn, pChk, pNrm⟩ := P
  have turns : ∀ m t, t + m = 60 → ∀ S h, Rep S h → PI t S → ∀ w3 w4 w5 w6 w7 k n, k ≤ 1000 + 8 * t → n ≤ 10000 + 80 * t → V Z 91 [some (.ref Z.1.2.2.2.1), some (.ref (aH S)), some (.int (nI t)), w3, w4, w5, w6, w7] [] h k n := by
    intro m
    induction m with
    | zero =>
      intro t ht S h R I w3 w4 w5 w6 w7 k n hk hn
      have ht2 : t = 60 := by omega
      subst ht2
      refine V_iload_n hZ 2 dL_law_91 rfl rfl ?_
      refine V_bipush (v := 60) hZ dL_law_92 (by decide) ?_
      refine V_icmp_ge (tgt := 225) hZ dL_law_94 (by decide) (fun _ => ?_) (fun z => absurd ((by decide)) z)
      refine V_iconst (v := 1) hZ dL_law_225 (by decide) ?_
      exact hend _ _ _ _ (by omega) (by omega)
    | succ m ih =>
      intro t ht S h R I w3 w4 w5 w6 w7 k n hk hn
      have htl : t < 60 := by omega
      have g0 := R.hall
      obtain ⟨W, lv1⟩ := pWf t S I
      refine V_iload_n hZ 2 dL_law_91 rfl rfl ?_
      refine V_bipush (v := 60) hZ dL_law_92 (by decide) ?_
      refine V_icmp_ge (tgt := 225) hZ dL_law_94 (by decide) (fun z => absurd z (nI_ge (a := t) (b := 60) htl (by decide))) (fun _ => ?_)
      refine V_aload_n hZ 0 dL_law_97 rfl rfl (by first | rfl | exact isR_rf _) ?_
      refine V_iconst (v := 3) hZ dL_law_98 (by decide) ?_
      refine V_iload_n hZ 2 dL_law_99 rfl rfl ?_
      refine V_bipush (v := 26) hZ dL_law_100 (by decide) ?_
      refine V_irem hZ (by decide) dL_law_102 ?_
      refine V_iadd hZ dL_law_103 ?_
      rw [cellK t htl]
      refine V_invS hZ me_L_cell ms_L_cell ml_L_16 (c_cell Z.1 hL h (k := 3 + t % 26) (by omega)) dL_law_104 rfl rfl ⟨by decide, by decide⟩ (by first | decide | (simp [cat_rf, cat_ref, cat_int, cat_null]; done) | (simp [cat_rf, cat_ref, cat_int, cat_null, Value.category]; done)) ⟨by omega, by omega⟩ (fun _ _ hq => hq.elim) ?_
      rintro _ h ⟨rfl, xv, rfl⟩
      refine V_iload_n hZ 2 dL_law_107 rfl rfl ?_
      refine V_bipush (v := 26) hZ dL_law_108 (by decide) ?_
      refine V_idiv hZ (by decide) dL_law_110 ?_
      refine V_bipush (v := 6) hZ dL_law_111 (by decide) ?_
      refine V_imul hZ dL_law_113 ?_
      refine V_ishr hZ dL_law_114 ?_
      refine V_istore_n hZ 3 rfl dL_law_115 (by decide) (by first | rfl | simp [okp, cat_rf, cat_ref, cat_int, cat_null]) ?_
      refine V.lvc (by simp only [List.set_cons_zero, List.set_cons_succ, Nat.reduceAdd]; rfl) ?_
      refine V_aload_n hZ 1 dL_law_116 rfl rfl (by first | rfl | exact isR_rf _) ?_
      refine V_iconst (v := 0) hZ dL_law_117 (by decide) ?_
      refine V_invVp hZ me_X5_many mi_X5_many ml_L_34 (c_many Z.1 R W (k := 0) (by decide)) dL_law_118 rfl rfl (by assumption) rfl rfl ⟨by decide, by decide⟩ (by first | decide | (simp [cat_rf, cat_ref, cat_int, cat_null]; done) | (simp [cat_rf, cat_ref, cat_int, cat_null, Value.category]; done)) ⟨by omega, by omega⟩ ?_
      refine V_istore hZ dL_law_121 (by decide) (by first | rfl | simp [okp, cat_rf, cat_ref, cat_int, cat_null]) ?_
      refine V.lvc (by simp only [List.set_cons_zero, List.set_cons_succ, Nat.reduceAdd]; rfl) ?_
      refine V_aload_n hZ 1 dL_law_123 rfl rfl (by first | rfl | exact isR_rf _) ?_
      refine V_iconst (v := 3) hZ dL_law_124 (by decide) ?_
      refine V_invVp hZ me_X5_many mi_X5_many ml_L_34 (c_many Z.1 R W (k := 3) (by decide)) dL_law_125 rfl rfl (by assumption) rfl rfl ⟨by decide, by decide⟩ (by first | decide | (simp [cat_rf, cat_ref, cat_int, cat_null]; done) | (simp [cat_rf, cat_ref, cat_int, cat_null, Value.category]; done)) ⟨by omega, by omega⟩ ?_
      refine V_istore hZ dL_law_128 (by decide) (by first | rfl | simp [okp, cat_rf, cat_ref, cat_int, cat_null]) ?_
      refine V.lvc (by simp only [List.set_cons_zero, List.set_cons_succ, Nat.reduceAdd]; rfl) ?_
      refine V_aload_n hZ 1 dL_law_130 rfl rfl (by first | rfl | exact isR_rf _) ?_
      refine V_iload_n hZ 3 dL_law_131 rfl rfl ?_
      refine V_invSH (a := 2) hZ cw_act me_L_below.2.1 ⟨by decide, by decide, by decide +kernel⟩ ms_L_act ml_L_37 (c_act Z.1 R W (pTurn t S htl I) _) dL_law_132 rfl rfl ⟨by decide, by decide⟩ (by first | decide | (simp [cat_rf, cat_ref, cat_int, cat_null]; done)) ⟨by omega, by omega⟩ (fun _ _ hq => hq.elim) ?_
      rintro _ g ⟨rfl, T, R2, I2, W2, na, nt, nc, nr, nd⟩
      obtain ⟨-, lv2⟩ := pWf (t + 1) T I2
      rw [← na]
      have g1 := R2.hall
      refine V_if_eq (tgt := 167) hZ dL_law_135 (by decide) (fun z => absurd z ((by decide))) (fun _ => ?_)
      refine V_aload_n hZ 1 dL_law_138 rfl rfl (by first | rfl | exact isR_rf _) ?_
      refine V_iconst (v := 0) hZ dL_law_139 (by decide) ?_
      refine V_invVp hZ me_X5_many mi_X5_many ml_L_34 (c_many Z.1 R2 W2 (k := 0) (by decide)) dL_law_140 rfl rfl (by assumption) rfl rfl ⟨by decide, by decide⟩ (by first | decide | (simp [cat_rf, cat_ref, cat_int, cat_null]; done) | (simp [cat_rf, cat_ref, cat_int, cat_null, Value.category]; done)) ⟨by omega, by omega⟩ ?_
      refine V_iload hZ dL_law_143 rfl ?_
      refine V_icmp_lt (tgt := 167) hZ dL_law_145 (by decide) (fun z => absurd z (nt)) (fun _ => ?_)
      refine V_aload_n hZ 1 dL_law_148 rfl rfl (by first | rfl | exact isR_rf _) ?_
      refine V_iconst (v := 3) hZ dL_law_149 (by decide) ?_
      refine V_invVp hZ me_X5_many mi_X5_many ml_L_34 (c_many Z.1 R2 W2 (k := 3) (by decide)) dL_law_150 rfl rfl (by assumption) rfl rfl ⟨by decide, by decide⟩ (by first | decide | (simp [cat_rf, cat_ref, cat_int, cat_null]; done) | (simp [cat_rf, cat_ref, cat_int, cat_null, Value.category]; done)) ⟨by omega, by omega⟩ ?_
      refine V_iload hZ dL_law_153 rfl ?_
      refine V_icmp_lt (tgt := 167) hZ dL_law_155 (by decide) (fun z => absurd z (nI_nlt nc (Nat.lt_of_le_of_lt W2.2.2.1 (by decide)))) (fun _ => ?_)
      refine V_aload_n hZ 1 dL_law_158 rfl rfl (by first | rfl | exact isR_rf _) ?_
      refine V_iconst (v := 2) hZ dL_law_159 (by decide) ?_
      refine V_invVp hZ me_X5_many mi_X5_many ml_L_34 (c_many Z.1 R2 W2 (k := 2) (by decide)) dL_law_160 rfl rfl (by assumption) rfl rfl ⟨by decide, by decide⟩ (by first | decide | (simp [cat_rf, cat_ref, cat_int, cat_null]; done) | (simp [cat_rf, cat_ref, cat_int, cat_null, Value.category]; done)) ⟨by omega, by omega⟩ ?_
      refine V_iconst (v := 1) hZ dL_law_163 (by decide) ?_
      refine V_icmp_ge (tgt := 169) hZ dL_law_164 (by decide) (fun _ => ?_) (fun z => absurd ((by rw [Int32.lt_iff_toInt_lt] at lv2; rw [Int32.le_iff_toInt_le]; omega)) z)
      refine V_iload_n hZ 2 dL_law_169 rfl rfl ?_
      refine V_bipush (v := 6) hZ dL_law_170 (by decide) ?_
      refine V_irem hZ (by decide) dL_law_172 ?_
      refine V_iconst (v := 5) hZ dL_law_173 (by decide) ?_
      have nx : ∀ (T' : St) (g' : HP), Rep T' g' → PI (t + 1) T' → aH T' = aH T → ∀ w3 w4 w5 w6 w7 k' n', k' ≤ k + 4 → n' ≤ n + 21 → V Z 219 [some (.ref Z.1.2.2.2.1), some (.ref (aH T)), some (.int (nI t)), w3, w4, w5, w6, w7] [] g' k' n' := by
        intro T' g' R' I' ha w3 w4 w5 w6 w7 k' n' hk' hn'
        refine V_iincv hZ dL_law_219 rfl (by decide) (by first | rfl | simp [okp, cat_rf, cat_ref, cat_int, cat_null]) (by first | exact nI_inc _ | rfl) ?_
        refine V.lvc (by simp only [List.set_cons_zero, List.set_cons_succ, Nat.reduceAdd]; rfl) ?_
        refine V_goto (tgt := 91) hZ dL_law_222 (by decide) ?_
        rw [← ha]
        exact ih (t + 1) (by omega) T' g' R' I' _ _ _ _ _ _ _ (by omega) (by omega)
      refine V_icmp_eq (tgt := 180) hZ dL_law_174 (by decide) (fun cm => ?_) (fun cm => ?_)
      · have ok := pChk (t + 1) T (by omega) I2
        obtain ⟨o1, o2, -, -⟩ := ok
        refine V_aload_n hZ 1 dL_law_180 rfl rfl (by first | rfl | exact isR_rf _) ?_
        refine V_invVp hZ me_X5_digest mi_X5_digest ml_L_41 (c_digest Z.1 R2 W2) dL_law_181 rfl rfl (by assumption) rfl rfl ⟨by decide, by decide⟩ (by first | decide | (simp [cat_rf, cat_ref, cat_int, cat_null]; done) | (simp [cat_rf, cat_ref, cat_int, cat_null, Value.category]; done)) ⟨by omega, by omega⟩ ?_
        refine V_lstore hZ dL_law_184 (by decide) (by first | rfl | simp [okp, cat_rf, cat_ref, cat_int, cat_null]) ?_
        refine V.lvc (by simp only [List.set_cons_zero, List.set_cons_succ, Nat.reduceAdd]; rfl) ?_
        refine V_aload_n hZ 1 dL_law_186 rfl rfl (by first | rfl | exact isR_rf _) ?_
        refine V_invS hZ me_L_areCopiesRight ms_L_areCopiesRight ml_L_45 (c_areCopiesRight Z.1 R2 W2 o1) dL_law_187 rfl rfl ⟨by decide, by decide⟩ (by first | decide | (simp [cat_rf, cat_ref, cat_int, cat_null]; done) | (simp [cat_rf, cat_ref, cat_int, cat_null, Value.category]; done)) ⟨by omega, by omega⟩ (fun _ _ hq => hq.elim) ?_
        rintro _ g2 ⟨rfl, R3⟩
        have g3 := R3.hall
        refine V_if_eq (tgt := 217) hZ dL_law_190 (by decide) (fun z => absurd z ((by decide))) (fun _ => ?_)
        refine V_aload_n hZ 1 dL_law_193 rfl rfl (by first | rfl | exact isR_rf _) ?_
        refine V_invS hZ me_L_areRecordsRight ms_L_areRecordsRight ml_L_49 (c_areRecordsRight Z.1 R3 W2 o2 (fun T' hT' i hi => (pChk (t + 1) T' (by omega) (pNrm _ _ _ hT' I2)).2.2.1 i hi)) dL_law_194 rfl rfl ⟨by decide, by decide⟩ (by first | decide | (simp [cat_rf, cat_ref, cat_int, cat_null]; done) | (simp [cat_rf, cat_ref, cat_int, cat_null, Value.category]; done)) ⟨by omega, by omega⟩ (fun _ _ hq => hq.elim) ?_
        rintro _ g4 ⟨rfl, T', hT', R4⟩
        have I3 := pNrm _ _ _ hT' I2
        obtain ⟨W3, -⟩ := pWf (t + 1) T' I3
        obtain ⟨-, -, -, o4, o5, ⟨w, o6, o7, o8⟩, o9, o10, o11⟩ := pChk (t + 1) T' (by omega) I3
        have ha := nrm_aH hT'
        rw [← ha]
        have g5 := R4.hall
        refine V_if_eq (tgt := 217) hZ dL_law_197 (by decide) (fun z => absurd z ((by decide))) (fun _ => ?_)
        refine V_aload_n hZ 1 dL_law_200 rfl rfl (by first | rfl | exact isR_rf _) ?_
        refine V_invSp hZ me_L_areReadersRight ms_L_areReadersRight ml_L_52 (c_areReadersRight Z.1 R4 W3 o4 o5 o6 o7 o8 o9 o10 o11) dL_law_201 rfl rfl ⟨by decide, by decide⟩ (by first | decide | (simp [cat_rf, cat_ref, cat_int, cat_null]; done) | (simp [cat_rf, cat_ref, cat_int, cat_null, Value.category]; done)) ⟨by omega, by omega⟩ ?_
        refine V_if_eq (tgt := 217) hZ dL_law_204 (by decide) (fun z => absurd z ((by decide))) (fun _ => ?_)
        refine V_aload_n hZ 1 dL_law_207 rfl rfl (by first | rfl | exact isR_rf _) ?_
        refine V_invVp hZ me_X5_digest mi_X5_digest ml_L_41 (c_digest Z.1 R4 W3) dL_law_208 rfl rfl (by assumption) rfl rfl ⟨by decide, by decide⟩ (by first | decide | (simp [cat_rf, cat_ref, cat_int, cat_null]; done) | (simp [cat_rf, cat_ref, cat_int, cat_null, Value.category]; done)) ⟨by omega, by omega⟩ ?_
        rw [nrm_dig hT']
        refine V_lload hZ dL_law_211 rfl ?_
        refine V_lcmp hZ dL_law_213 ?_
        refine V_if_eq (tgt := 219) hZ dL_law_214 (by decide) (fun _ => ?_) (fun z => absurd (cmp_self _) z)
        rw [ha]
        exact nx T' g4 R4 I3 ha _ _ _ _ _ _ _ (by omega) (by omega)
      · refine V_goto (tgt := 219) hZ dL_law_177 (by decide) ?_
        exact nx T g R2 I2 rfl _ _ _ _ _ _ _ (by omega) (by omega)
  have recs : ∀ m i, i + m = 3 → ∀ S h, Rep S h → Op 4 i S → ∀ w3 w4 w5 w6 w7 k n, k ≤ 100 + 8 * i → n ≤ 1000 + 80 * i → V Z 44 [some (.ref Z.1.2.2.2.1), some (.ref (aH S)), some (.int (nI i)), w3, w4, w5, w6, w7] [] h k n := by
    intro m
    induction m with
    | zero =>
      intro i hi S h R O w3 w4 w5 w6 w7 k n hk hn
      have hi2 : i = 3 := by omega
      subst hi2
      refine V_iload_n hZ 2 dL_law_44 rfl rfl ?_
      refine V_iconst (v := 3) hZ dL_law_45 (by decide) ?_
      refine V_icmp_ge (tgt := 89) hZ dL_law_46 (by decide) (fun _ => ?_) (fun z => absurd ((by decide)) z)
      refine V_iconst (v := 0) hZ dL_law_89 (by decide) ?_
      refine V_istore_n hZ 2 rfl dL_law_90 (by decide) (by first | rfl | simp [okp, cat_rf, cat_ref, cat_int, cat_null]) ?_
      refine V.lvc (by simp only [List.set_cons_zero, List.set_cons_succ, Nat.reduceAdd]; rfl) ?_
      exact turns 60 0 rfl S h R (pStart S O) _ _ _ _ _ _ _ (by omega) (by omega)
    | succ m ih =>
      intro i hi S h R O w3 w4 w5 w6 w7 k n hk hn
      have hil : i < 3 := by omega
      have g0 := R.hall
      obtain ⟨W, h1, h2, h3, -⟩ := id O
      refine V_iload_n hZ 2 dL_law_44 rfl rfl ?_
      refine V_iconst (v := 3) hZ dL_law_45 (by decide) ?_
      refine V_icmp_ge (tgt := 89) hZ dL_law_46 (by decide) (fun z => absurd z (nI_ge (a := i) (b := 3) hil (by decide))) (fun _ => ?_)
      refine V_aload_n hZ 1 dL_law_49 rfl rfl (by first | rfl | exact isR_rf _) ?_
      refine V_aload_n hZ 0 dL_law_50 rfl rfl (by first | rfl | exact isR_rf _) ?_
      refine V_iconst (v := 1) hZ dL_law_51 (by decide) ?_
      refine V_invS hZ me_L_cell ms_L_cell ml_L_16 (c_cell Z.1 hL h (k := 1) (by decide)) dL_law_52 rfl rfl ⟨by decide, by decide⟩ (by first | decide | (simp [cat_rf, cat_ref, cat_int, cat_null]; done) | (simp [cat_rf, cat_ref, cat_int, cat_null, Value.category]; done)) ⟨by omega, by omega⟩ (fun _ _ hq => hq.elim) ?_
      rintro _ h ⟨rfl, x1, rfl⟩
      refine V_iload_n hZ 2 dL_law_55 rfl rfl ?_
      refine V_ishr hZ dL_law_56 ?_
      refine V_iconst (v := 2) hZ dL_law_57 (by decide) ?_
      refine V_invSp hZ me_L_below ms_L_below ml_L_22 (c_below Z.1 h _ (n := 2) (by decide) (by decide)) dL_law_58 rfl rfl ⟨by decide, by decide⟩ (by first | decide | (simp [cat_rf, cat_ref, cat_int, cat_null]; done) | (simp [cat_rf, cat_ref, cat_int, cat_null, Value.category]; done)) ⟨by omega, by omega⟩ ?_
      have hb := bl_lt (x1 >>> (nI i &&& 31)) (n := 2) (by decide)
      generalize bl (x1 >>> (nI i &&& 31)) 2 = b at hb ⊢
      obtain ⟨o, ho, ho2⟩ := orN_o hb
      refine V_iconst (v := 1) hZ dL_law_61 (by decide) ?_
      refine V_isub hZ dL_law_62 ?_
      rw [ho2]
      refine V_iconst (v := 1) hZ dL_law_63 (by decide) ?_
      refine V_aload_n hZ 0 dL_law_64 rfl rfl (by first | rfl | exact isR_rf _) ?_
      refine V_iconst (v := 2) hZ dL_law_65 (by decide) ?_
      refine V_invS hZ me_L_cell ms_L_cell ml_L_16 (c_cell Z.1 hL h (k := 2) (by decide)) dL_law_66 rfl rfl ⟨by decide, by decide⟩ (by first | decide | (simp [cat_rf, cat_ref, cat_int, cat_null]; done) | (simp [cat_rf, cat_ref, cat_int, cat_null, Value.category]; done)) ⟨by omega, by omega⟩ (fun _ _ hq => hq.elim) ?_
      rintro _ h ⟨rfl, x2, rfl⟩
      refine V_iload_n hZ 2 dL_law_69 rfl rfl ?_
      refine V_ishr hZ dL_law_70 ?_
      refine V_bipush (v := 100) hZ dL_law_71 (by decide) ?_
      refine V_invSp hZ me_L_below ms_L_below ml_L_22 (c_below Z.1 h _ (n := 100) (by decide) (by decide)) dL_law_73 rfl rfl ⟨by decide, by decide⟩ (by first | decide | (simp [cat_rf, cat_ref, cat_int, cat_null]; done) | (simp [cat_rf, cat_ref, cat_int, cat_null, Value.category]; done)) ⟨by omega, by omega⟩ ?_
      have hp := bl_lt (x2 >>> (nI i &&& 31)) (n := 100) (by decide)
      generalize bl (x2 >>> (nI i &&& 31)) 100 = p at hp ⊢
      refine V_iadd hZ dL_law_76 ?_
      refine V_bipush (v := 50) hZ dL_law_77 (by decide) ?_
      refine V.stc (st' := [.int (nI 50), .int (nI (1 + p)), .int (orN o), .ref (aH S)]) (by rw [← nI_add]; rfl) ?_
      have hov : ∀ x, o = some x → x < nNm S := fun x hx => by
        rcases ho with rfl | rfl
        · cases hx
        · cases hx; omega
      refine V_invV hZ me_X5_record mi_X5_record ml_L_30 (c_record Z.1 R W (by omega) (o := o) hov (t := 1 + p) (y := 50) (by omega) (by omega) (by decide)) dL_law_79 rfl rfl (by assumption) rfl rfl ⟨by decide, by decide⟩ (by first | decide | (simp [cat_rf, cat_ref, cat_int, cat_null]; done) | (simp [cat_rf, cat_ref, cat_int, cat_null, Value.category]; done)) ⟨by omega, by omega⟩ (fun _ _ hq => hq.elim) ?_
      rintro _ g ⟨rfl, q, q2, q3, R2⟩
      have O2 := op_rc (q := q) (q2 := q2) (q3 := q3) O hil ho (t := 1 + p) (by omega) (by omega)
      have ha : aH (addRc S q q2 q3 (o, nI (1 + p), nI 50, none, 0)) = aH S := rfl
      generalize addRc S q q2 q3 (o, nI (1 + p), nI 50, none, 0) = T at *
      refine V_pop hZ dL_law_82 (by first | rfl | exact cat_rf _) ?_
      refine V_iincv hZ dL_law_83 rfl (by decide) (by first | rfl | simp [okp, cat_rf, cat_ref, cat_int, cat_null]) (by first | exact nI_inc _ | rfl) ?_
      refine V.lvc (by simp only [List.set_cons_zero, List.set_cons_succ, Nat.reduceAdd]; rfl) ?_
      refine V_goto (tgt := 44) hZ dL_law_86 (by decide) ?_
      rw [← ha]
      exact ih (i + 1) (by omega) T g R2 O2 _ _ _ _ _ _ _ (by omega) (by omega)
  have rdrs : ∀ m i, i + m = 4 → ∀ S h, Rep S h → Op i 0 S → ∀ w3 w4 w5 w6 w7 k n, k ≤ 20 + 8 * i → n ≤ 200 + 80 * i → V Z 15 [some (.ref Z.1.2.2.2.1), some (.ref (aH S)), some (.int (nI i)), w3, w4, w5, w6, w7] [] h k n := by
    intro m
    induction m with
    | zero =>
      intro i hi S h R O w3 w4 w5 w6 w7 k n hk hn
      have hi2 : i = 4 := by omega
      subst hi2
      refine V_iload_n hZ 2 dL_law_15 rfl rfl ?_
      refine V_iconst (v := 4) hZ dL_law_16 (by decide) ?_
      refine V_icmp_ge (tgt := 42) hZ dL_law_17 (by decide) (fun _ => ?_) (fun z => absurd ((by decide)) z)
      refine V_iconst (v := 0) hZ dL_law_42 (by decide) ?_
      refine V_istore_n hZ 2 rfl dL_law_43 (by decide) (by first | rfl | simp [okp, cat_rf, cat_ref, cat_int, cat_null]) ?_
      refine V.lvc (by simp only [List.set_cons_zero, List.set_cons_succ, Nat.reduceAdd]; rfl) ?_
      exact recs 3 0 rfl S h R O _ _ _ _ _ _ _ (by omega) (by omega)
    | succ m ih =>
      intro i hi S h R O w3 w4 w5 w6 w7 k n hk hn
      have hil : i < 4 := by omega
      have g0 := R.hall
      obtain ⟨W, h1, h2, h3, -⟩ := id O
      refine V_iload_n hZ 2 dL_law_15 rfl rfl ?_
      refine V_iconst (v := 4) hZ dL_law_16 (by decide) ?_
      refine V_icmp_ge (tgt := 42) hZ dL_law_17 (by decide) (fun z => absurd z (nI_ge (a := i) (b := 4) hil (by decide))) (fun _ => ?_)
      refine V_aload_n hZ 1 dL_law_20 rfl rfl (by first | rfl | exact isR_rf _) ?_
      refine V_aload_n hZ 0 dL_law_21 rfl rfl (by first | rfl | exact isR_rf _) ?_
      refine V_iconst (v := 0) hZ dL_law_22 (by decide) ?_
      refine V_invS hZ me_L_cell ms_L_cell ml_L_16 (c_cell Z.1 hL h (k := 0) (by decide)) dL_law_23 rfl rfl ⟨by decide, by decide⟩ (by first | decide | (simp [cat_rf, cat_ref, cat_int, cat_null]; done) | (simp [cat_rf, cat_ref, cat_int, cat_null, Value.category]; done)) ⟨by omega, by omega⟩ (fun _ _ hq => hq.elim) ?_
      rintro _ h ⟨rfl, x1, rfl⟩
      refine V_iload_n hZ 2 dL_law_26 rfl rfl ?_
      refine V_ishr hZ dL_law_27 ?_
      refine V_iconst (v := 2) hZ dL_law_28 (by decide) ?_
      refine V_invSp hZ me_L_below ms_L_below ml_L_22 (c_below Z.1 h _ (n := 2) (by decide) (by decide)) dL_law_29 rfl rfl ⟨by decide, by decide⟩ (by first | decide | (simp [cat_rf, cat_ref, cat_int, cat_null]; done) | (simp [cat_rf, cat_ref, cat_int, cat_null, Value.category]; done)) ⟨by omega, by omega⟩ ?_
      have hb := bl_lt (x1 >>> (nI i &&& 31)) (n := 2) (by decide)
      generalize bl (x1 >>> (nI i &&& 31)) 2 = b at hb ⊢
      refine V_invV hZ me_X5_reader mi_X5_reader ml_L_26 (c_reader Z.1 R W (by omega) (k := b) (by omega)) dL_law_32 rfl rfl (by assumption) rfl rfl ⟨by decide, by decide⟩ (by first | decide | (simp [cat_rf, cat_ref, cat_int, cat_null]; done) | (simp [cat_rf, cat_ref, cat_int, cat_null, Value.category]; done)) ⟨by omega, by omega⟩ (fun _ _ hq => hq.elim) ?_
      rintro _ g ⟨rfl, q, R2⟩
      have O2 := op_rd (q := q) O hil (y := b) (by omega)
      have ha : aH (addRd S q (nI b, 0)) = aH S := rfl
      generalize addRd S q (nI b, 0) = T at *
      refine V_pop hZ dL_law_35 (by first | rfl | exact cat_rf _) ?_
      refine V_iincv hZ dL_law_36 rfl (by decide) (by first | rfl | simp [okp, cat_rf, cat_ref, cat_int, cat_null]) (by first | exact nI_inc _ | rfl) ?_
      refine V.lvc (by simp only [List.set_cons_zero, List.set_cons_succ, Nat.reduceAdd]; rfl) ?_
      refine V_goto (tgt := 15) hZ dL_law_39 (by decide) ?_
      rw [← ha]
      exact ih (i + 1) (by omega) T g R2 O2 _ _ _ _ _ _ _ (by omega) (by omega)
  refine V_new hZ nw_L_9 dL_law_0 (by decide) (by decide) (fun q hq => ?_)
  refine V_dup hZ dL_law_3 (by first | rfl | exact cat_rf _) ?_
  have e1 : hup h0 q (.inr (5, [.null, .null, .null, .null, .int 0, .int 0, .int 0, .int 0, .int 0])) q = some (.inr (5, [.null, .null, .null, .null, .int 0, .int 0, .int 0, .int 0, .int 0])) := hup_self _ _ _
  refine V_invI hZ me_X5_init mc_X5_init rfl ml_L_11 (c_X5_init Z.1 e1) dL_law_4 rfl rfl ⟨by decide, by decide⟩ (by first | decide | (simp [cat_rf, cat_ref, cat_int, cat_null]; done) | (simp [cat_rf, cat_ref, cat_int, cat_null, Value.category]; done)) ⟨by omega, by omega⟩ (fun _ _ hq => hq.elim) ?_
  rintro _ h ⟨rfl, p1, p2, p3, p4, R⟩
  have ha : aH (S00 q p1 p2 p3 p4) = q := rfl
  have W := wf_00 (q := q) (p1 := p1) (p2 := p2) (p3 := p3) (p4 := p4)
  have g0 := R.hall
  refine V_astore_n hZ 1 rfl dL_law_7 (by first | rfl | exact isR_rf _) (by decide) (by first | rfl | simp [okp, cat_rf, cat_ref, cat_int, cat_null]) ?_
  refine V.lvc (by simp only [List.set_cons_zero, List.set_cons_succ, Nat.reduceAdd]; rfl) ?_
  refine V_aload_n hZ 1 dL_law_8 rfl rfl (by first | rfl | exact isR_rf _) ?_
  refine V_invV hZ me_X5_name mi_X5_name ml_L_12 (c_name Z.1 R W (show 0 < 16 by decide)) dL_law_9 rfl rfl (by assumption) rfl rfl ⟨by decide, by decide⟩ (by first | decide | (simp [cat_rf, cat_ref, cat_int, cat_null]; done) | (simp [cat_rf, cat_ref, cat_int, cat_null, Value.category]; done)) ⟨by omega, by omega⟩ (fun _ _ hq => hq.elim) ?_
  rintro _ g ⟨rfl, q2, R2⟩
  have O2 := op_name (q := q2) W rfl rfl rfl rfl rfl
  have ha2 : aH (addNm (S00 q p1 p2 p3 p4) q2) = q := rfl
  generalize addNm (S00 q p1 p2 p3 p4) q2 = T at *
  subst ha2
  refine V_pop hZ dL_law_12 (by first | rfl | exact cat_rf _) ?_
  refine V_iconst (v := 0) hZ dL_law_13 (by decide) ?_
  refine V_istore_n hZ 2 rfl dL_law_14 (by decide) (by first | rfl | simp [okp, cat_rf, cat_ref, cat_int, cat_null]) ?_
  refine V.lvc (by simp only [List.set_cons_zero, List.set_cons_succ, Nat.reduceAdd]; rfl) ?_
  exact rdrs 4 0 rfl T g R2 O2 _ _ _ _ _ _ _ (by omega) (by omega)

