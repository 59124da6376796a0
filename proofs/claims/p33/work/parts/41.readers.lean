/-! are the readers right -/
/-- what is asked of one reader -/
def RdOK (S : St) (x : Nat) : Prop :=
  ¬ 2 + 2 * factD S x 0 < factD S x 1 ∧ ¬ factD S x 1 < factD S x 5 ∧ ¬ factD S x 3 < factD S x 4 ∧ ¬ factD S x 2 < 0 ∧
  ¬ totN S 5 + factD S x 4 < nI (cn (mayB S x) 30) ∧ (nI (cn (mayB S x) 30) ≤ 0 ∨ (¬ 50 < factD S x 2 ∧ ¬ 0 < factD S x 5)) ∧ factD S x 6 ≤ 40 * factD S x 5
def mwD (w : Nat) : UInt64 := FP.ddiv (FP.i2d (nI w)) (FP.i2d (nI 4))
def mwE (w : Nat) : UInt64 := FP.dmul (mwD w) (FP.i2d (nI 4))
def mwF (w : Nat) : UInt64 := FP.dsub (mwE w) (FP.i2d (nI w))
theorem mw_all : ∀ w, w < 161 → mwD w &&& 0x7fffffffffffffff ≤ 0x7ff0000000000000 ∧ mwE w &&& 0x7fffffffffffffff ≤ 0x7ff0000000000000 ∧ mwF w &&& 0x7fffffffffffffff ≤ 0x7ff0000000000000 ∧ Op.cmpValue (FP.dcmp (mwF w &&& 0x7fffffffffffffff) 4517329193108106637) .g < 0 := by decide +kernel

theorem c_areReadersRight (G : GC) {h : HP} {S : St} (R : Rep S h) (W : Wf S) (h4 : nRd S = 4) (hok : ∀ x, x < 4 → RdOK S x) {w : Nat} (hw : w < 161) (hw1 : smN (waitF S) 20 = w) (hw2 : sm (fun x => factD S x 3) 4 = nI w) (hs : totN S 9 = sm (fun x => factD S x 2) 4) (hh : totN S 6 = sm (fun x => factD S x 1) 4) (ha : totN S 7 = sm (fun x => factD S x 4) 4) : Calls G yL_areReadersRight cL_areReadersRight 7 (.some .boolean) 8 135 0 0 [.ref (aH S)] h (qV (.int 1) h) qX := by
  have g1 := R.hall
  refine Calls_of1 (by decide +kernel) (by simp [cat_rf, cat_ref, cat_int, cat_null]) (by simp) (lv0 := [some (.ref (aH S)), none, none, none, none, none, none]) rfl ?_
  intro Z hG hZ hE hN
  subst hG
  refine V_iconst (v := 0) hZ dL_areReadersRight_0 (by decide) ?_
  refine V_istore_n hZ 1 rfl dL_areReadersRight_1 (by decide) (by first | rfl | simp [okp, cat_rf, cat_ref, cat_int, cat_null]) ?_
  refine V.lvc (by simp only [List.set_cons_zero, List.set_cons_succ, Nat.reduceAdd]; rfl) ?_
  refine V_iconst (v := 0) hZ dL_areReadersRight_2 (by decide) ?_
  refine V_istore_n hZ 2 rfl dL_areReadersRight_3 (by decide) (by first | rfl | simp [okp, cat_rf, cat_ref, cat_int, cat_null]) ?_
  refine V.lvc (by simp only [List.set_cons_zero, List.set_cons_succ, Nat.reduceAdd]; rfl) ?_
  refine V_iconst (v := 0) hZ dL_areReadersRight_4 (by decide) ?_
  refine V_istore_n hZ 3 rfl dL_areReadersRight_5 (by decide) (by first | rfl | simp [okp, cat_rf, cat_ref, cat_int, cat_null]) ?_
  refine V.lvc (by simp only [List.set_cons_zero, List.set_cons_succ, Nat.reduceAdd]; rfl) ?_
  refine V_iconst (v := 0) hZ dL_areReadersRight_6 (by decide) ?_
  refine V_istore hZ dL_areReadersRight_7 (by decide) (by first | rfl | simp [okp, cat_rf, cat_ref, cat_int, cat_null]) ?_
  refine V.lvc (by simp only [List.set_cons_zero, List.set_cons_succ, Nat.reduceAdd]; rfl) ?_
  refine V_iconst (v := 0) hZ dL_areReadersRight_9 (by decide) ?_
  refine V_istore hZ dL_areReadersRight_10 (by decide) (by first | rfl | simp [okp, cat_rf, cat_ref, cat_int, cat_null]) ?_
  refine V.lvc (by simp only [List.set_cons_zero, List.set_cons_succ, Nat.reduceAdd]; rfl) ?_
  have key : ∀ m c, c + m = 4 → ∀ w6, V Z 12 [some (.ref (aH S)), some (.int (sm (fun x => factD S x 2) c)), some (.int (sm (fun x => factD S x 1) c)), some (.int (sm (fun x => factD S x 4) c)), some (.int (sm (fun x => factD S x 3) c)), some (.int (nI c)), w6] [] h 0 0 := by
    intro m
    induction m with
    | zero =>
      intro c hc w6
      have hc2 : c = 4 := by omega
      subst hc2
      refine V_iload hZ dL_areReadersRight_12 rfl ?_
      refine V_aload_n hZ 0 dL_areReadersRight_14 rfl rfl (by first | rfl | exact isR_rf _) ?_
      refine V_iconst (v := 4) hZ dL_areReadersRight_15 (by decide) ?_
      refine V_invVp hZ me_X5_many mi_X5_many ml_L_34 (c_many Z.1 R W (k := 4) (by decide)) dL_areReadersRight_16 rfl rfl (by assumption) rfl rfl ⟨by decide, by decide⟩ (by first | decide | (simp [cat_rf, cat_ref, cat_int, cat_null]; done) | (simp [cat_rf, cat_ref, cat_int, cat_null, Value.category]; done)) ⟨by decide, by decide⟩ ?_
      refine V_icmp_ge (tgt := 211) hZ dL_areReadersRight_19 (by decide) (fun _ => ?_) (fun z => absurd ((show nI (nRd S) ≤ nI 4 by rw [h4]; decide)) z)
      refine V_aload_n hZ 0 dL_areReadersRight_211 rfl rfl (by first | rfl | exact isR_rf _) ?_
      refine V_bipush (v := 9) hZ dL_areReadersRight_212 (by decide) ?_
      refine V_invVp hZ me_X5_many mi_X5_many ml_L_34 (c_many Z.1 R W (k := 9) (by decide)) dL_areReadersRight_214 rfl rfl (by assumption) rfl rfl ⟨by decide, by decide⟩ (by first | decide | (simp [cat_rf, cat_ref, cat_int, cat_null]; done) | (simp [cat_rf, cat_ref, cat_int, cat_null, Value.category]; done)) ⟨by decide, by decide⟩ ?_
      refine V_iload_n hZ 1 dL_areReadersRight_217 rfl rfl ?_
      refine V_icmp_ne (tgt := 270) hZ dL_areReadersRight_218 (by decide) (fun z => absurd (hs) z) (fun _ => ?_)
      refine V_aload_n hZ 0 dL_areReadersRight_221 rfl rfl (by first | rfl | exact isR_rf _) ?_
      refine V_bipush (v := 6) hZ dL_areReadersRight_222 (by decide) ?_
      refine V_invVp hZ me_X5_many mi_X5_many ml_L_34 (c_many Z.1 R W (k := 6) (by decide)) dL_areReadersRight_224 rfl rfl (by assumption) rfl rfl ⟨by decide, by decide⟩ (by first | decide | (simp [cat_rf, cat_ref, cat_int, cat_null]; done) | (simp [cat_rf, cat_ref, cat_int, cat_null, Value.category]; done)) ⟨by decide, by decide⟩ ?_
      refine V_iload_n hZ 2 dL_areReadersRight_227 rfl rfl ?_
      refine V_icmp_ne (tgt := 270) hZ dL_areReadersRight_228 (by decide) (fun z => absurd (hh) z) (fun _ => ?_)
      refine V_aload_n hZ 0 dL_areReadersRight_231 rfl rfl (by first | rfl | exact isR_rf _) ?_
      refine V_bipush (v := 7) hZ dL_areReadersRight_232 (by decide) ?_
      refine V_invVp hZ me_X5_many mi_X5_many ml_L_34 (c_many Z.1 R W (k := 7) (by decide)) dL_areReadersRight_234 rfl rfl (by assumption) rfl rfl ⟨by decide, by decide⟩ (by first | decide | (simp [cat_rf, cat_ref, cat_int, cat_null]; done) | (simp [cat_rf, cat_ref, cat_int, cat_null, Value.category]; done)) ⟨by decide, by decide⟩ ?_
      refine V_iload_n hZ 3 dL_areReadersRight_237 rfl rfl ?_
      refine V_icmp_ne (tgt := 270) hZ dL_areReadersRight_238 (by decide) (fun z => absurd (ha) z) (fun _ => ?_)
      refine V_aload_n hZ 0 dL_areReadersRight_241 rfl rfl (by first | rfl | exact isR_rf _) ?_
      obtain ⟨q1, q2, q3, q4⟩ := mw_all w hw
      refine V_invVp hZ me_X5_meanWaits mi_X5_meanWaits ml_L_126 (c_meanWaits Z.1 R W (by omega) (by rw [hw1, h4]; exact q1)) dL_areReadersRight_242 rfl rfl (by assumption) rfl rfl ⟨by decide, by decide⟩ (by first | decide | (simp [cat_rf, cat_ref, cat_int, cat_null]; done) | (simp [cat_rf, cat_ref, cat_int, cat_null, Value.category]; done)) ⟨by decide, by decide⟩ ?_
      rw [hw1, h4]
      refine V_aload_n hZ 0 dL_areReadersRight_245 rfl rfl (by first | rfl | exact isR_rf _) ?_
      refine V_iconst (v := 4) hZ dL_areReadersRight_246 (by decide) ?_
      refine V_invVp hZ me_X5_many mi_X5_many ml_L_34 (c_many Z.1 R W (k := 4) (by decide)) dL_areReadersRight_247 rfl rfl (by assumption) rfl rfl ⟨by decide, by decide⟩ (by first | decide | (simp [cat_rf, cat_ref, cat_int, cat_null]; done) | (simp [cat_rf, cat_ref, cat_int, cat_null, Value.category]; done)) ⟨by decide, by decide⟩ ?_
      refine V.stc (st' := [.int (nI 4), .double (mwD w)]) (by rw [show totN S 4 = nI 4 from congrArg nI h4]; rfl) ?_
      refine V_i2d hZ dL_areReadersRight_250 ?_
      refine V_dmul hZ q2 dL_areReadersRight_251 ?_
      refine V_iload hZ dL_areReadersRight_252 rfl ?_
      refine V_i2d hZ dL_areReadersRight_254 ?_
      rw [hw2]
      refine V_dsub hZ q3 dL_areReadersRight_255 ?_
      refine V_dabs hZ q3 ml_L_130 dL_areReadersRight_256 (by decide) (by decide) ?_
      refine V_ldc2d hZ dL_areReadersRight_259 ct_L_134 ?_
      refine V_dcmp hZ dL_areReadersRight_262 ?_
      refine V_if_ge (tgt := 270) hZ dL_areReadersRight_263 (by decide) (fun z => absurd z ((fun z => by rw [Int32.le_iff_toInt_le] at z; have := Int32.lt_iff_toInt_lt.mp q4; unfold mwF mwE at this; omega))) (fun _ => ?_)
      refine V_iconst (v := 1) hZ dL_areReadersRight_266 (by decide) ?_
      refine V_goto (tgt := 271) hZ dL_areReadersRight_267 (by decide) ?_
      refine V_iret hZ hE rfl (by rfl) dL_areReadersRight_271 (by decide) (by decide) ?_
      exact ⟨rfl, rfl⟩
    | succ m ih =>
      intro c hc w6
      have hc4 : c < 4 := by omega
      have hi : c < nRd S := by omega
      obtain ⟨a1, a2, a3, a4, a5, a6, a7⟩ := hok c hc4
      refine V_iload hZ dL_areReadersRight_12 rfl ?_
      refine V_aload_n hZ 0 dL_areReadersRight_14 rfl rfl (by first | rfl | exact isR_rf _) ?_
      refine V_iconst (v := 4) hZ dL_areReadersRight_15 (by decide) ?_
      refine V_invVp hZ me_X5_many mi_X5_many ml_L_34 (c_many Z.1 R W (k := 4) (by decide)) dL_areReadersRight_16 rfl rfl (by assumption) rfl rfl ⟨by decide, by decide⟩ (by first | decide | (simp [cat_rf, cat_ref, cat_int, cat_null]; done) | (simp [cat_rf, cat_ref, cat_int, cat_null, Value.category]; done)) ⟨by decide, by decide⟩ ?_
      refine V_icmp_ge (tgt := 211) hZ dL_areReadersRight_19 (by decide) (fun z => absurd z ((show ¬ nI (nRd S) ≤ nI c from nI_ge hi (by omega)))) (fun _ => ?_)
      refine V_iload_n hZ 1 dL_areReadersRight_22 rfl rfl ?_
      refine V_aload_n hZ 0 dL_areReadersRight_23 rfl rfl (by first | rfl | exact isR_rf _) ?_
      refine V_iload hZ dL_areReadersRight_24 rfl ?_
      refine V_iconst (v := 2) hZ dL_areReadersRight_26 (by decide) ?_
      refine V_invVp hZ me_X5_ofReader mi_X5_ofReader ml_L_102 (c_ofReader Z.1 R W (i := c) (k := 2) hi (by decide)) dL_areReadersRight_27 rfl rfl (by assumption) rfl rfl ⟨by decide, by decide⟩ (by first | decide | (simp [cat_rf, cat_ref, cat_int, cat_null]; done) | (simp [cat_rf, cat_ref, cat_int, cat_null, Value.category]; done)) ⟨by decide, by decide⟩ ?_
      refine V_iadd hZ dL_areReadersRight_30 ?_
      refine V_istore_n hZ 1 rfl dL_areReadersRight_31 (by decide) (by first | rfl | simp [okp, cat_rf, cat_ref, cat_int, cat_null]) ?_
      refine V.lvc (by simp only [List.set_cons_zero, List.set_cons_succ, Nat.reduceAdd]; rfl) ?_
      refine V_iload_n hZ 2 dL_areReadersRight_32 rfl rfl ?_
      refine V_aload_n hZ 0 dL_areReadersRight_33 rfl rfl (by first | rfl | exact isR_rf _) ?_
      refine V_iload hZ dL_areReadersRight_34 rfl ?_
      refine V_iconst (v := 1) hZ dL_areReadersRight_36 (by decide) ?_
      refine V_invVp hZ me_X5_ofReader mi_X5_ofReader ml_L_102 (c_ofReader Z.1 R W (i := c) (k := 1) hi (by decide)) dL_areReadersRight_37 rfl rfl (by assumption) rfl rfl ⟨by decide, by decide⟩ (by first | decide | (simp [cat_rf, cat_ref, cat_int, cat_null]; done) | (simp [cat_rf, cat_ref, cat_int, cat_null, Value.category]; done)) ⟨by decide, by decide⟩ ?_
      refine V_iadd hZ dL_areReadersRight_40 ?_
      refine V_istore_n hZ 2 rfl dL_areReadersRight_41 (by decide) (by first | rfl | simp [okp, cat_rf, cat_ref, cat_int, cat_null]) ?_
      refine V.lvc (by simp only [List.set_cons_zero, List.set_cons_succ, Nat.reduceAdd]; rfl) ?_
      refine V_iload_n hZ 3 dL_areReadersRight_42 rfl rfl ?_
      refine V_aload_n hZ 0 dL_areReadersRight_43 rfl rfl (by first | rfl | exact isR_rf _) ?_
      refine V_iload hZ dL_areReadersRight_44 rfl ?_
      refine V_iconst (v := 4) hZ dL_areReadersRight_46 (by decide) ?_
      refine V_invVp hZ me_X5_ofReader mi_X5_ofReader ml_L_102 (c_ofReader Z.1 R W (i := c) (k := 4) hi (by decide)) dL_areReadersRight_47 rfl rfl (by assumption) rfl rfl ⟨by decide, by decide⟩ (by first | decide | (simp [cat_rf, cat_ref, cat_int, cat_null]; done) | (simp [cat_rf, cat_ref, cat_int, cat_null, Value.category]; done)) ⟨by decide, by decide⟩ ?_
      refine V_iadd hZ dL_areReadersRight_50 ?_
      refine V_istore_n hZ 3 rfl dL_areReadersRight_51 (by decide) (by first | rfl | simp [okp, cat_rf, cat_ref, cat_int, cat_null]) ?_
      refine V.lvc (by simp only [List.set_cons_zero, List.set_cons_succ, Nat.reduceAdd]; rfl) ?_
      refine V_iload hZ dL_areReadersRight_52 rfl ?_
      refine V_aload_n hZ 0 dL_areReadersRight_54 rfl rfl (by first | rfl | exact isR_rf _) ?_
      refine V_iload hZ dL_areReadersRight_55 rfl ?_
      refine V_iconst (v := 3) hZ dL_areReadersRight_57 (by decide) ?_
      refine V_invVp hZ me_X5_ofReader mi_X5_ofReader ml_L_102 (c_ofReader Z.1 R W (i := c) (k := 3) hi (by decide)) dL_areReadersRight_58 rfl rfl (by assumption) rfl rfl ⟨by decide, by decide⟩ (by first | decide | (simp [cat_rf, cat_ref, cat_int, cat_null]; done) | (simp [cat_rf, cat_ref, cat_int, cat_null, Value.category]; done)) ⟨by decide, by decide⟩ ?_
      refine V_iadd hZ dL_areReadersRight_61 ?_
      refine V_istore hZ dL_areReadersRight_62 (by decide) (by first | rfl | simp [okp, cat_rf, cat_ref, cat_int, cat_null]) ?_
      refine V.lvc (by simp only [List.set_cons_zero, List.set_cons_succ, Nat.reduceAdd]; rfl) ?_
      refine V_aload_n hZ 0 dL_areReadersRight_64 rfl rfl (by first | rfl | exact isR_rf _) ?_
      refine V_iload hZ dL_areReadersRight_65 rfl ?_
      refine V_invVp hZ me_X5_mayBorrow mi_X5_mayBorrow ml_L_123 (c_mayBorrow Z.1 R W (x := c) hi) dL_areReadersRight_67 rfl rfl (by assumption) rfl rfl ⟨by decide, by decide⟩ (by first | decide | (simp [cat_rf, cat_ref, cat_int, cat_null]; done) | (simp [cat_rf, cat_ref, cat_int, cat_null, Value.category]; done)) ⟨by decide, by decide⟩ ?_
      refine V_istore hZ dL_areReadersRight_70 (by decide) (by first | rfl | simp [okp, cat_rf, cat_ref, cat_int, cat_null]) ?_
      refine V.lvc (by simp only [List.set_cons_zero, List.set_cons_succ, Nat.reduceAdd]; rfl) ?_
      refine V_aload_n hZ 0 dL_areReadersRight_72 rfl rfl (by first | rfl | exact isR_rf _) ?_
      refine V_iload hZ dL_areReadersRight_73 rfl ?_
      refine V_iconst (v := 1) hZ dL_areReadersRight_75 (by decide) ?_
      refine V_invVp hZ me_X5_ofReader mi_X5_ofReader ml_L_102 (c_ofReader Z.1 R W (i := c) (k := 1) hi (by decide)) dL_areReadersRight_76 rfl rfl (by assumption) rfl rfl ⟨by decide, by decide⟩ (by first | decide | (simp [cat_rf, cat_ref, cat_int, cat_null]; done) | (simp [cat_rf, cat_ref, cat_int, cat_null, Value.category]; done)) ⟨by decide, by decide⟩ ?_
      refine V_iconst (v := 2) hZ dL_areReadersRight_79 (by decide) ?_
      refine V_iconst (v := 2) hZ dL_areReadersRight_80 (by decide) ?_
      refine V_aload_n hZ 0 dL_areReadersRight_81 rfl rfl (by first | rfl | exact isR_rf _) ?_
      refine V_iload hZ dL_areReadersRight_82 rfl ?_
      refine V_iconst (v := 0) hZ dL_areReadersRight_84 (by decide) ?_
      refine V_invVp hZ me_X5_ofReader mi_X5_ofReader ml_L_102 (c_ofReader Z.1 R W (i := c) (k := 0) hi (by decide)) dL_areReadersRight_85 rfl rfl (by assumption) rfl rfl ⟨by decide, by decide⟩ (by first | decide | (simp [cat_rf, cat_ref, cat_int, cat_null]; done) | (simp [cat_rf, cat_ref, cat_int, cat_null, Value.category]; done)) ⟨by decide, by decide⟩ ?_
      refine V_imul hZ dL_areReadersRight_88 ?_
      refine V_iadd hZ dL_areReadersRight_89 ?_
      refine V_icmp_gt (tgt := 203) hZ dL_areReadersRight_90 (by decide) (fun z => absurd z (a1)) (fun _ => ?_)
      refine V_aload_n hZ 0 dL_areReadersRight_93 rfl rfl (by first | rfl | exact isR_rf _) ?_
      refine V_iload hZ dL_areReadersRight_94 rfl ?_
      refine V_iconst (v := 5) hZ dL_areReadersRight_96 (by decide) ?_
      refine V_invVp hZ me_X5_ofReader mi_X5_ofReader ml_L_102 (c_ofReader Z.1 R W (i := c) (k := 5) hi (by decide)) dL_areReadersRight_97 rfl rfl (by assumption) rfl rfl ⟨by decide, by decide⟩ (by first | decide | (simp [cat_rf, cat_ref, cat_int, cat_null]; done) | (simp [cat_rf, cat_ref, cat_int, cat_null, Value.category]; done)) ⟨by decide, by decide⟩ ?_
      refine V_aload_n hZ 0 dL_areReadersRight_100 rfl rfl (by first | rfl | exact isR_rf _) ?_
      refine V_iload hZ dL_areReadersRight_101 rfl ?_
      refine V_iconst (v := 1) hZ dL_areReadersRight_103 (by decide) ?_
      refine V_invVp hZ me_X5_ofReader mi_X5_ofReader ml_L_102 (c_ofReader Z.1 R W (i := c) (k := 1) hi (by decide)) dL_areReadersRight_104 rfl rfl (by assumption) rfl rfl ⟨by decide, by decide⟩ (by first | decide | (simp [cat_rf, cat_ref, cat_int, cat_null]; done) | (simp [cat_rf, cat_ref, cat_int, cat_null, Value.category]; done)) ⟨by decide, by decide⟩ ?_
      refine V_icmp_gt (tgt := 203) hZ dL_areReadersRight_107 (by decide) (fun z => absurd z (a2)) (fun _ => ?_)
      refine V_aload_n hZ 0 dL_areReadersRight_110 rfl rfl (by first | rfl | exact isR_rf _) ?_
      refine V_iload hZ dL_areReadersRight_111 rfl ?_
      refine V_iconst (v := 4) hZ dL_areReadersRight_113 (by decide) ?_
      refine V_invVp hZ me_X5_ofReader mi_X5_ofReader ml_L_102 (c_ofReader Z.1 R W (i := c) (k := 4) hi (by decide)) dL_areReadersRight_114 rfl rfl (by assumption) rfl rfl ⟨by decide, by decide⟩ (by first | decide | (simp [cat_rf, cat_ref, cat_int, cat_null]; done) | (simp [cat_rf, cat_ref, cat_int, cat_null, Value.category]; done)) ⟨by decide, by decide⟩ ?_
      refine V_aload_n hZ 0 dL_areReadersRight_117 rfl rfl (by first | rfl | exact isR_rf _) ?_
      refine V_iload hZ dL_areReadersRight_118 rfl ?_
      refine V_iconst (v := 3) hZ dL_areReadersRight_120 (by decide) ?_
      refine V_invVp hZ me_X5_ofReader mi_X5_ofReader ml_L_102 (c_ofReader Z.1 R W (i := c) (k := 3) hi (by decide)) dL_areReadersRight_121 rfl rfl (by assumption) rfl rfl ⟨by decide, by decide⟩ (by first | decide | (simp [cat_rf, cat_ref, cat_int, cat_null]; done) | (simp [cat_rf, cat_ref, cat_int, cat_null, Value.category]; done)) ⟨by decide, by decide⟩ ?_
      refine V_icmp_gt (tgt := 203) hZ dL_areReadersRight_124 (by decide) (fun z => absurd z (a3)) (fun _ => ?_)
      refine V_aload_n hZ 0 dL_areReadersRight_127 rfl rfl (by first | rfl | exact isR_rf _) ?_
      refine V_iload hZ dL_areReadersRight_128 rfl ?_
      refine V_iconst (v := 2) hZ dL_areReadersRight_130 (by decide) ?_
      refine V_invVp hZ me_X5_ofReader mi_X5_ofReader ml_L_102 (c_ofReader Z.1 R W (i := c) (k := 2) hi (by decide)) dL_areReadersRight_131 rfl rfl (by assumption) rfl rfl ⟨by decide, by decide⟩ (by first | decide | (simp [cat_rf, cat_ref, cat_int, cat_null]; done) | (simp [cat_rf, cat_ref, cat_int, cat_null, Value.category]; done)) ⟨by decide, by decide⟩ ?_
      refine V_if_lt (tgt := 203) hZ dL_areReadersRight_134 (by decide) (fun z => absurd z (a4)) (fun _ => ?_)
      refine V_iload hZ dL_areReadersRight_137 rfl ?_
      refine V_aload_n hZ 0 dL_areReadersRight_139 rfl rfl (by first | rfl | exact isR_rf _) ?_
      refine V_iconst (v := 5) hZ dL_areReadersRight_140 (by decide) ?_
      refine V_invVp hZ me_X5_many mi_X5_many ml_L_34 (c_many Z.1 R W (k := 5) (by decide)) dL_areReadersRight_141 rfl rfl (by assumption) rfl rfl ⟨by decide, by decide⟩ (by first | decide | (simp [cat_rf, cat_ref, cat_int, cat_null]; done) | (simp [cat_rf, cat_ref, cat_int, cat_null, Value.category]; done)) ⟨by decide, by decide⟩ ?_
      refine V_aload_n hZ 0 dL_areReadersRight_144 rfl rfl (by first | rfl | exact isR_rf _) ?_
      refine V_iload hZ dL_areReadersRight_145 rfl ?_
      refine V_iconst (v := 4) hZ dL_areReadersRight_147 (by decide) ?_
      refine V_invVp hZ me_X5_ofReader mi_X5_ofReader ml_L_102 (c_ofReader Z.1 R W (i := c) (k := 4) hi (by decide)) dL_areReadersRight_148 rfl rfl (by assumption) rfl rfl ⟨by decide, by decide⟩ (by first | decide | (simp [cat_rf, cat_ref, cat_int, cat_null]; done) | (simp [cat_rf, cat_ref, cat_int, cat_null, Value.category]; done)) ⟨by decide, by decide⟩ ?_
      refine V_iadd hZ dL_areReadersRight_151 ?_
      refine V_icmp_gt (tgt := 203) hZ dL_areReadersRight_152 (by decide) (fun z => absurd z (a5)) (fun _ => ?_)
      refine V_iload hZ dL_areReadersRight_155 rfl ?_
      have J : V Z 182 [some (.ref (aH S)), some (.int (sm (fun x => factD S x 2) (c + 1))), some (.int (sm (fun x => factD S x 1) (c + 1))), some (.int (sm (fun x => factD S x 4) (c + 1))), some (.int (sm (fun x => factD S x 3) (c + 1))), some (.int (nI c)), some (.int (nI (cn (mayB S c) 30)))] [] h 0 0 := by
        refine V_aload_n hZ 0 dL_areReadersRight_182 rfl rfl (by first | rfl | exact isR_rf _) ?_
        refine V_iload hZ dL_areReadersRight_183 rfl ?_
        refine V_bipush (v := 6) hZ dL_areReadersRight_185 (by decide) ?_
        refine V_invVp hZ me_X5_ofReader mi_X5_ofReader ml_L_102 (c_ofReader Z.1 R W (i := c) (k := 6) hi (by decide)) dL_areReadersRight_187 rfl rfl (by assumption) rfl rfl ⟨by decide, by decide⟩ (by first | decide | (simp [cat_rf, cat_ref, cat_int, cat_null]; done) | (simp [cat_rf, cat_ref, cat_int, cat_null, Value.category]; done)) ⟨by decide, by decide⟩ ?_
        refine V_bipush (v := 40) hZ dL_areReadersRight_190 (by decide) ?_
        refine V_aload_n hZ 0 dL_areReadersRight_192 rfl rfl (by first | rfl | exact isR_rf _) ?_
        refine V_iload hZ dL_areReadersRight_193 rfl ?_
        refine V_iconst (v := 5) hZ dL_areReadersRight_195 (by decide) ?_
        refine V_invVp hZ me_X5_ofReader mi_X5_ofReader ml_L_102 (c_ofReader Z.1 R W (i := c) (k := 5) hi (by decide)) dL_areReadersRight_196 rfl rfl (by assumption) rfl rfl ⟨by decide, by decide⟩ (by first | decide | (simp [cat_rf, cat_ref, cat_int, cat_null]; done) | (simp [cat_rf, cat_ref, cat_int, cat_null, Value.category]; done)) ⟨by decide, by decide⟩ ?_
        refine V_imul hZ dL_areReadersRight_199 ?_
        refine V_icmp_le (tgt := 205) hZ dL_areReadersRight_200 (by decide) (fun _ => ?_) (fun z => absurd (a7) z)
        refine V_iincv hZ dL_areReadersRight_205 rfl (by decide) (by first | rfl | simp [okp, cat_rf, cat_ref, cat_int, cat_null]) (by first | exact nI_inc _ | rfl) ?_
        refine V.lvc (by simp only [List.set_cons_zero, List.set_cons_succ, Nat.reduceAdd]; rfl) ?_
        refine V_goto (tgt := 12) hZ dL_areReadersRight_208 (by decide) ?_
        exact ih (c + 1) (by omega) _
      refine V_if_le (tgt := 182) hZ dL_areReadersRight_157 (by decide) (fun c1 => ?_) (fun c1 => ?_)
      · exact J
      · have c2 := a6.resolve_left c1
        refine V_aload_n hZ 0 dL_areReadersRight_160 rfl rfl (by first | rfl | exact isR_rf _) ?_
        refine V_iload hZ dL_areReadersRight_161 rfl ?_
        refine V_iconst (v := 2) hZ dL_areReadersRight_163 (by decide) ?_
        refine V_invVp hZ me_X5_ofReader mi_X5_ofReader ml_L_102 (c_ofReader Z.1 R W (i := c) (k := 2) hi (by decide)) dL_areReadersRight_164 rfl rfl (by assumption) rfl rfl ⟨by decide, by decide⟩ (by first | decide | (simp [cat_rf, cat_ref, cat_int, cat_null]; done) | (simp [cat_rf, cat_ref, cat_int, cat_null, Value.category]; done)) ⟨by decide, by decide⟩ ?_
        refine V_bipush (v := 50) hZ dL_areReadersRight_167 (by decide) ?_
        refine V_icmp_gt (tgt := 203) hZ dL_areReadersRight_169 (by decide) (fun z => absurd z (c2.1)) (fun _ => ?_)
        refine V_aload_n hZ 0 dL_areReadersRight_172 rfl rfl (by first | rfl | exact isR_rf _) ?_
        refine V_iload hZ dL_areReadersRight_173 rfl ?_
        refine V_iconst (v := 5) hZ dL_areReadersRight_175 (by decide) ?_
        refine V_invVp hZ me_X5_ofReader mi_X5_ofReader ml_L_102 (c_ofReader Z.1 R W (i := c) (k := 5) hi (by decide)) dL_areReadersRight_176 rfl rfl (by assumption) rfl rfl ⟨by decide, by decide⟩ (by first | decide | (simp [cat_rf, cat_ref, cat_int, cat_null]; done) | (simp [cat_rf, cat_ref, cat_int, cat_null, Value.category]; done)) ⟨by decide, by decide⟩ ?_
        refine V_if_gt (tgt := 203) hZ dL_areReadersRight_179 (by decide) (fun z => absurd z (c2.2)) (fun _ => ?_)
        exact J
  exact key 4 0 rfl _

