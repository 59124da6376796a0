/-! facts by number, totals -/
def orN (o : Option Nat) : Int32 := match o with
  | none => -1
  | some x => nI x
def factR (S : St) (i : Nat) : Nat → Int32
  | 0 => orN (rcAu (rcs S i))
  | 1 => rcTi (rcs S i)
  | 2 => rcYe (rcs S i)
  | 3 => nI (live S i)
  | 4 => nI (cn (notLostB S (live S i)) 30)
  | 5 => nI (lin S (live S i)).length
  | _ => rcLe (rcs S (live S i))
def factC (S : St) (c : Nat) : Nat → Int32
  | 0 => nI (cpRc (cps S c))
  | 1 => cpPl (cps S c)
  | 2 => orN (cpRd (cps S c))
  | 3 => cpDy (cps S c)
  | 4 => lateC S c (tdy S)
  | 5 => cpRn (cps S c)
  | _ => cpPr (cps S c)
def factD (S : St) (x : Nat) : Nat → Int32
  | 0 => rdKi (rds S x)
  | 1 => nI (cn (ofB S (some x) 1) 30)
  | 2 => rdOw (rds S x)
  | 3 => nI (cn (waitsB S x) 20)
  | 4 => nI (cn (ofB S (some x) 2) 30)
  | 5 => nI (cn (lateB S x) 30)
  | _ => sm (fineF S x) 30
def totN (S : St) : Nat → Int32
  | 0 => tdy S
  | 1 => nI (nNm S)
  | 2 => nI (cn (liveB S) 20)
  | 3 => nI (nCp S)
  | 4 => nI (nRd S)
  | 5 => nI (cn (atB S 0) 30)
  | 6 => nI (cn (atB S 1) 30)
  | 7 => nI (cn (atB S 2) 30)
  | 8 => nI (cn (atB S 3) 30)
  | _ => sm (owedF S) 8
section
variable (G : GC) {h : HP} {S : St}
theorem c_factOfRecord (R : Rep S h) (W : Wf S) {i k : Nat} (hi : i < nRc S) (hk : k < 7) : Calls G yX5_factOfRecord cX5_factOfRecord 4 (.some .int) 1 26 0 0 [.ref (aH S), .ref (adR S i), .int (nI k)] h (qV (.int (factR S i k)) h) qX := by
  have h1 := R.rec hi
  have hl := live_lt W hi
  have h2 := R.rec hl
  have h3 := R.line hl
  have h4 := R.hall
  refine Calls_of1 (by decide +kernel) (by simp [cat_rf, cat_ref, cat_int, cat_null]) (by simp) (lv0 := [some (.ref (aH S)), some (.ref (adR S i)), some (.int (nI k)), none]) rfl ?_
  intro Z hG hZ hE hN
  subst hG
  refine V_aload_n hZ 1 dX5_factOfRecord_0 rfl rfl (by first | rfl | exact isR_rf _) ?_
  refine V_invVp hZ me_X0_liveOne mi_X0_liveOne ml_X5_95 (c_liveOne Z.1 R W hi) dX5_factOfRecord_1 rfl rfl (by assumption) rfl rfl ⟨by decide, by decide⟩ (by first | decide | simp [cat_rf, cat_ref, cat_int, cat_null]) ⟨by decide, by decide⟩ ?_
  refine V_astore_n hZ 3 rfl dX5_factOfRecord_4 (by first | rfl | exact isR_rf _) (by decide) (by first | rfl | simp [okp, cat_rf, cat_ref, cat_int, cat_null]) ?_
  refine V.lvc (by simp only [List.set_cons_zero, List.set_cons_succ, Nat.reduceAdd]; rfl) ?_
  refine V_iload_n hZ 2 dX5_factOfRecord_5 rfl rfl ?_
  match k, hk with
  | 0, _ =>
    refine V_tableIn (off := 38) (tgt := 44) hZ dX5_factOfRecord_6 (by decide) (by decide) (by decide) (by decide) ?_
    refine V_aload_n hZ 1 dX5_factOfRecord_44 rfl rfl (by first | rfl | exact isR_rf _) ?_
    refine V_getfield hZ fl_X5_332 dX5_factOfRecord_45 (by assumption) (by rfl) ?_
    cases hz : rcAu (rcs S i) with
    | none =>
      refine V_ifnonnullN hZ dX5_factOfRecord_48 ?_
      refine V_iconst (v := -1) hZ dX5_factOfRecord_51 (by decide) ?_
      refine V_goto (tgt := 62) hZ dX5_factOfRecord_52 (by decide) ?_
      refine V_iret hZ hE rfl (by rfl) dX5_factOfRecord_62 (by decide) (by decide) ?_
      exact ⟨by simp only [factR, orN, hz], rfl⟩
    | some a =>
      have ha := (W.2.2.2.2.1 i hi).1 a hz
      have h5 := R.name ha
      refine V_ifnonnullR (tgt := 55) hZ dX5_factOfRecord_48 (by decide) ?_
      simp only [oRec, hz] at h1
      refine V_aload_n hZ 1 dX5_factOfRecord_55 rfl rfl (by first | rfl | exact isR_rf _) ?_
      refine V_getfield hZ fl_X5_332 dX5_factOfRecord_56 (by assumption) (by rfl) ?_
      refine V_getfield hZ fl_X5_65 dX5_factOfRecord_59 (by assumption) (by rfl) ?_
      refine V_iret hZ hE rfl (by rfl) dX5_factOfRecord_62 (by decide) (by decide) ?_
      exact ⟨by simp only [factR, orN, hz], rfl⟩
  | 1, _ =>
    refine V_tableIn (off := 57) (tgt := 63) hZ dX5_factOfRecord_6 (by decide) (by decide) (by decide) (by decide) ?_
    refine V_aload_n hZ 1 dX5_factOfRecord_63 rfl rfl (by first | rfl | exact isR_rf _) ?_
    refine V_getfield hZ fl_X5_335 dX5_factOfRecord_64 (by assumption) (by rfl) ?_
    refine V_iret hZ hE rfl (by rfl) dX5_factOfRecord_67 (by decide) (by decide) ?_
    exact ⟨rfl, rfl⟩
  | 2, _ =>
    refine V_tableIn (off := 62) (tgt := 68) hZ dX5_factOfRecord_6 (by decide) (by decide) (by decide) (by decide) ?_
    refine V_aload_n hZ 1 dX5_factOfRecord_68 rfl rfl (by first | rfl | exact isR_rf _) ?_
    refine V_getfield hZ fl_X5_338 dX5_factOfRecord_69 (by assumption) (by rfl) ?_
    refine V_iret hZ hE rfl (by rfl) dX5_factOfRecord_72 (by decide) (by decide) ?_
    exact ⟨rfl, rfl⟩
  | 3, _ =>
    refine V_tableIn (off := 67) (tgt := 73) hZ dX5_factOfRecord_6 (by decide) (by decide) (by decide) (by decide) ?_
    refine V_aload_n hZ 3 dX5_factOfRecord_73 rfl rfl (by first | rfl | exact isR_rf _) ?_
    refine V_getfield hZ fl_X5_103 dX5_factOfRecord_74 (by assumption) (by rfl) ?_
    refine V_iret hZ hE rfl (by rfl) dX5_factOfRecord_77 (by decide) (by decide) ?_
    exact ⟨rfl, rfl⟩
  | 4, _ =>
    refine V_tableIn (off := 72) (tgt := 78) hZ dX5_factOfRecord_6 (by decide) (by decide) (by decide) (by decide) ?_
    refine V_aload_n hZ 0 dX5_factOfRecord_78 rfl rfl (by first | rfl | exact isR_rf _) ?_
    refine V_aload_n hZ 3 dX5_factOfRecord_79 rfl rfl (by first | rfl | exact isR_rf _) ?_
    refine V_invVp hZ me_X5_copiesNotLost mi_X5_copiesNotLost ml_X5_126 (c_copiesNotLost Z.1 R W hl) dX5_factOfRecord_80 rfl rfl (by assumption) rfl rfl ⟨by decide, by decide⟩ (by first | decide | simp [cat_rf, cat_ref, cat_int, cat_null]) ⟨by decide, by decide⟩ ?_
    refine V_iret hZ hE rfl (by rfl) dX5_factOfRecord_83 (by decide) (by decide) ?_
    exact ⟨rfl, rfl⟩
  | 5, _ =>
    refine V_tableIn (off := 78) (tgt := 84) hZ dX5_factOfRecord_6 (by decide) (by decide) (by decide) (by decide) ?_
    refine V_aload_n hZ 3 dX5_factOfRecord_84 rfl rfl (by first | rfl | exact isR_rf _) ?_
    refine V_getfield hZ fl_X5_235 dX5_factOfRecord_85 (by assumption) (by rfl) ?_
    refine V_getfield hZ fl_X5_262.r dX5_factOfRecord_88 (by assumption) (by rfl) ?_
    refine V_iret hZ hE rfl (by rfl) dX5_factOfRecord_91 (by decide) (by decide) ?_
    exact ⟨rfl, rfl⟩
  | 6, _ =>
    refine V_tableOut (tgt := 92) hZ dX5_factOfRecord_6 (by decide) (by decide) ?_
    refine V_aload_n hZ 3 dX5_factOfRecord_92 rfl rfl (by first | rfl | exact isR_rf _) ?_
    refine V_getfield hZ fl_X5_113.r dX5_factOfRecord_93 (by assumption) (by rfl) ?_
    refine V_iret hZ hE rfl (by rfl) dX5_factOfRecord_96 (by decide) (by decide) ?_
    exact ⟨rfl, rfl⟩
theorem c_factOfCopy (R : Rep S h) (W : Wf S) {c k : Nat} (hi : c < nCp S) (hk : k < 7) : Calls G yX5_factOfCopy cX5_factOfCopy 3 (.some .int) 1 21 0 0 [.ref (aH S), .ref (adC S c), .int (nI k)] h (qV (.int (factC S c k)) h) qX := by
  have h1 := R.copy hi
  have h2 := R.rec (W_rec W hi)
  have h4 := R.hall
  refine Calls_of1 (by decide +kernel) (by simp [cat_rf, cat_ref, cat_int, cat_null]) (by simp) (lv0 := [some (.ref (aH S)), some (.ref (adC S c)), some (.int (nI k))]) rfl ?_
  intro Z hG hZ hE hN
  subst hG
  refine V_iload_n hZ 2 dX5_factOfCopy_0 rfl rfl ?_
  match k, hk with
  | 2, _ =>
    refine V_tableIn (off := 52) (tgt := 53) hZ dX5_factOfCopy_1 (by decide) (by decide) (by decide) (by decide) ?_
    refine V_aload_n hZ 1 dX5_factOfCopy_53 rfl rfl (by first | rfl | exact isR_rf _) ?_
    refine V_getfield hZ fl_X5_202.r dX5_factOfCopy_54 (by assumption) (by rfl) ?_
    cases hz : cpRd (cps S c) with
    | none =>
      refine V_ifnonnullN hZ dX5_factOfCopy_57 ?_
      refine V_iconst (v := -1) hZ dX5_factOfCopy_60 (by decide) ?_
      refine V_goto (tgt := 71) hZ dX5_factOfCopy_61 (by decide) ?_
      refine V_iret hZ hE rfl (by rfl) dX5_factOfCopy_71 (by decide) (by decide) ?_
      exact ⟨by simp only [factC, orN, hz], rfl⟩
    | some a =>
      have h5 := R.rdr (W_rdr W hi a hz)
      refine V_ifnonnullR (tgt := 64) hZ dX5_factOfCopy_57 (by decide) ?_
      simp only [oCopy, hz] at h1
      refine V_aload_n hZ 1 dX5_factOfCopy_64 rfl rfl (by first | rfl | exact isR_rf _) ?_
      refine V_getfield hZ fl_X5_202.r dX5_factOfCopy_65 (by assumption) (by rfl) ?_
      refine V_getfield hZ fl_X5_273 dX5_factOfCopy_68 (by assumption) (by rfl) ?_
      refine V_iret hZ hE rfl (by rfl) dX5_factOfCopy_71 (by decide) (by decide) ?_
      exact ⟨by simp only [factC, orN, hz], rfl⟩
  | 4, _ =>
    refine V_tableIn (off := 76) (tgt := 77) hZ dX5_factOfCopy_1 (by decide) (by decide) (by decide) (by decide) ?_
    refine V_aload_n hZ 1 dX5_factOfCopy_77 rfl rfl (by first | rfl | exact isR_rf _) ?_
    refine V_aload_n hZ 0 dX5_factOfCopy_78 rfl rfl (by first | rfl | exact isR_rf _) ?_
    refine V_getfield hZ fl_X5_181.r dX5_factOfCopy_79 (by assumption) (by rfl) ?_
    refine V_invVp hZ me_X1_daysLateOn mi_X1_daysLateOn ml_X5_341 (c_daysLateOn Z.1 h h1 (tdy S)) dX5_factOfCopy_82 rfl rfl (by assumption) rfl rfl ⟨by decide, by decide⟩ (by first | decide | simp [cat_rf, cat_ref, cat_int, cat_null]) ⟨by decide, by decide⟩ ?_
    refine V_iret hZ hE rfl (by rfl) dX5_factOfCopy_85 (by decide) (by decide) ?_
    exact ⟨rfl, rfl⟩
  | 0, _ =>
    refine V_tableIn (off := 39) (tgt := 40) hZ dX5_factOfCopy_1 (by decide) (by decide) (by decide) (by decide) ?_
    refine V_aload_n hZ 1 dX5_factOfCopy_40 rfl rfl (by first | rfl | exact isR_rf _) ?_
    refine V_getfield hZ fl_X5_192.r dX5_factOfCopy_41 (by assumption) (by rfl) ?_
    refine V_getfield hZ fl_X5_103 dX5_factOfCopy_44 (by assumption) (by rfl) ?_
    refine V_iret hZ hE rfl (by rfl) dX5_factOfCopy_47 (by decide) (by decide) ?_
    exact ⟨rfl, rfl⟩
  | 1, _ =>
    refine V_tableIn (off := 47) (tgt := 48) hZ dX5_factOfCopy_1 (by decide) (by decide) (by decide) (by decide) ?_
    refine V_aload_n hZ 1 dX5_factOfCopy_48 rfl rfl (by first | rfl | exact isR_rf _) ?_
    refine V_getfield hZ fl_X5_215.r dX5_factOfCopy_49 (by assumption) (by rfl) ?_
    refine V_iret hZ hE rfl (by rfl) dX5_factOfCopy_52 (by decide) (by decide) ?_
    exact ⟨rfl, rfl⟩
  | 3, _ =>
    refine V_tableIn (off := 71) (tgt := 72) hZ dX5_factOfCopy_1 (by decide) (by decide) (by decide) (by decide) ?_
    refine V_aload_n hZ 1 dX5_factOfCopy_72 rfl rfl (by first | rfl | exact isR_rf _) ?_
    refine V_getfield hZ fl_X5_199.r dX5_factOfCopy_73 (by assumption) (by rfl) ?_
    refine V_iret hZ hE rfl (by rfl) dX5_factOfCopy_76 (by decide) (by decide) ?_
    exact ⟨rfl, rfl⟩
  | 5, _ =>
    refine V_tableIn (off := 85) (tgt := 86) hZ dX5_factOfCopy_1 (by decide) (by decide) (by decide) (by decide) ?_
    refine V_aload_n hZ 1 dX5_factOfCopy_86 rfl rfl (by first | rfl | exact isR_rf _) ?_
    refine V_getfield hZ fl_X5_212.r dX5_factOfCopy_87 (by assumption) (by rfl) ?_
    refine V_iret hZ hE rfl (by rfl) dX5_factOfCopy_90 (by decide) (by decide) ?_
    exact ⟨rfl, rfl⟩
  | 6, _ =>
    refine V_tableOut (tgt := 91) hZ dX5_factOfCopy_1 (by decide) (by decide) ?_
    refine V_aload_n hZ 1 dX5_factOfCopy_91 rfl rfl (by first | rfl | exact isR_rf _) ?_
    refine V_getfield hZ fl_X5_226 dX5_factOfCopy_92 (by assumption) (by rfl) ?_
    refine V_iret hZ hE rfl (by rfl) dX5_factOfCopy_95 (by decide) (by decide) ?_
    exact ⟨rfl, rfl⟩
theorem c_factOfReader (R : Rep S h) (W : Wf S) {x k : Nat} (hx : x < nRd S) (hk : k < 7) : Calls G yX5_factOfReader cX5_factOfReader 3 (.some .int) 3 68 0 0 [.ref (aH S), .ref (adD S x), .int (nI k)] h (qV (.int (factD S x k)) h) qX := by
  have h1 := R.rdr hx
  have h4 := R.hall
  refine Calls_of1 (by decide +kernel) (by simp [cat_rf, cat_ref, cat_int, cat_null]) (by simp) (lv0 := [some (.ref (aH S)), some (.ref (adD S x)), some (.int (nI k))]) rfl ?_
  intro Z hG hZ hE hN
  subst hG
  refine V_iload_n hZ 2 dX5_factOfReader_0 rfl rfl ?_
  match k, hk with
  | 0, _ =>
    refine V_tableIn (off := 39) (tgt := 40) hZ dX5_factOfReader_1 (by decide) (by decide) (by decide) (by decide) ?_
    refine V_aload_n hZ 1 dX5_factOfReader_40 rfl rfl (by first | rfl | exact isR_rf _) ?_
    refine V_getfield hZ fl_X5_344 dX5_factOfReader_41 (by assumption) (by rfl) ?_
    refine V_iret hZ hE rfl (by rfl) dX5_factOfReader_44 (by decide) (by decide) ?_
    exact ⟨rfl, rfl⟩
  | 1, _ =>
    refine V_tableIn (off := 44) (tgt := 45) hZ dX5_factOfReader_1 (by decide) (by decide) (by decide) (by decide) ?_
    refine V_aload_n hZ 0 dX5_factOfReader_45 rfl rfl (by first | rfl | exact isR_rf _) ?_
    refine V_aload_n hZ 1 dX5_factOfReader_46 rfl rfl (by first | rfl | exact isR_rf _) ?_
    refine V_iconst (v := 1) hZ dX5_factOfReader_47 (by decide) ?_
    refine V_invVp hZ me_X5_copiesOf mi_X5_copiesOf ml_X5_347 (c_copiesOf Z.1 R W hx 1) dX5_factOfReader_48 rfl rfl (by assumption) rfl rfl ⟨by decide, by decide⟩ (by first | decide | simp [cat_rf, cat_ref, cat_int, cat_null]) ⟨by decide, by decide⟩ ?_
    refine V_iret hZ hE rfl (by rfl) dX5_factOfReader_51 (by decide) (by decide) ?_
    exact ⟨rfl, rfl⟩
  | 2, _ =>
    refine V_tableIn (off := 51) (tgt := 52) hZ dX5_factOfReader_1 (by decide) (by decide) (by decide) (by decide) ?_
    refine V_aload_n hZ 1 dX5_factOfReader_52 rfl rfl (by first | rfl | exact isR_rf _) ?_
    refine V_getfield hZ fl_X5_172.r dX5_factOfReader_53 (by assumption) (by rfl) ?_
    refine V_iret hZ hE rfl (by rfl) dX5_factOfReader_56 (by decide) (by decide) ?_
    exact ⟨rfl, rfl⟩
  | 3, _ =>
    refine V_tableIn (off := 56) (tgt := 57) hZ dX5_factOfReader_1 (by decide) (by decide) (by decide) (by decide) ?_
    refine V_aload_n hZ 0 dX5_factOfReader_57 rfl rfl (by first | rfl | exact isR_rf _) ?_
    refine V_aload_n hZ 1 dX5_factOfReader_58 rfl rfl (by first | rfl | exact isR_rf _) ?_
    refine V_invVp hZ me_X5_waitsOf mi_X5_waitsOf ml_X5_350 (c_waitsOf Z.1 R W hx) dX5_factOfReader_59 rfl rfl (by assumption) rfl rfl ⟨by decide, by decide⟩ (by first | decide | simp [cat_rf, cat_ref, cat_int, cat_null]) ⟨by decide, by decide⟩ ?_
    refine V_iret hZ hE rfl (by rfl) dX5_factOfReader_62 (by decide) (by decide) ?_
    exact ⟨rfl, rfl⟩
  | 4, _ =>
    refine V_tableIn (off := 62) (tgt := 63) hZ dX5_factOfReader_1 (by decide) (by decide) (by decide) (by decide) ?_
    refine V_aload_n hZ 0 dX5_factOfReader_63 rfl rfl (by first | rfl | exact isR_rf _) ?_
    refine V_aload_n hZ 1 dX5_factOfReader_64 rfl rfl (by first | rfl | exact isR_rf _) ?_
    refine V_iconst (v := 2) hZ dX5_factOfReader_65 (by decide) ?_
    refine V_invVp hZ me_X5_copiesOf mi_X5_copiesOf ml_X5_347 (c_copiesOf Z.1 R W hx 2) dX5_factOfReader_66 rfl rfl (by assumption) rfl rfl ⟨by decide, by decide⟩ (by first | decide | simp [cat_rf, cat_ref, cat_int, cat_null]) ⟨by decide, by decide⟩ ?_
    refine V_iret hZ hE rfl (by rfl) dX5_factOfReader_69 (by decide) (by decide) ?_
    exact ⟨rfl, rfl⟩
  | 5, _ =>
    refine V_tableIn (off := 69) (tgt := 70) hZ dX5_factOfReader_1 (by decide) (by decide) (by decide) (by decide) ?_
    refine V_aload_n hZ 0 dX5_factOfReader_70 rfl rfl (by first | rfl | exact isR_rf _) ?_
    refine V_aload_n hZ 1 dX5_factOfReader_71 rfl rfl (by first | rfl | exact isR_rf _) ?_
    refine V_invVp hZ me_X5_lateCopiesOf mi_X5_lateCopiesOf ml_X5_353 (c_lateCopiesOf Z.1 R W hx) dX5_factOfReader_72 rfl rfl (by assumption) rfl rfl ⟨by decide, by decide⟩ (by first | decide | simp [cat_rf, cat_ref, cat_int, cat_null]) ⟨by decide, by decide⟩ ?_
    refine V_iret hZ hE rfl (by rfl) dX5_factOfReader_75 (by decide) (by decide) ?_
    exact ⟨rfl, rfl⟩
  | 6, _ =>
    refine V_tableOut (tgt := 76) hZ dX5_factOfReader_1 (by decide) (by decide) ?_
    refine V_aload_n hZ 0 dX5_factOfReader_76 rfl rfl (by first | rfl | exact isR_rf _) ?_
    refine V_aload_n hZ 1 dX5_factOfReader_77 rfl rfl (by first | rfl | exact isR_rf _) ?_
    refine V_invVp hZ me_X5_finesOf mi_X5_finesOf ml_X5_356 (c_finesOf Z.1 R W hx) dX5_factOfReader_78 rfl rfl (by assumption) rfl rfl ⟨by decide, by decide⟩ (by first | decide | simp [cat_rf, cat_ref, cat_int, cat_null]) ⟨by decide, by decide⟩ ?_
    refine V_iret hZ hE rfl (by rfl) dX5_factOfReader_81 (by decide) (by decide) ?_
    exact ⟨rfl, rfl⟩
theorem c_total (R : Rep S h) (W : Wf S) {k : Nat} (hk : k < 10) : Calls G yX5_total cX5_total 2 (.some .int) 2 45 0 0 [.ref (aH S), .int (nI k)] h (qV (.int (totN S k)) h) qX := by
  have h4 := R.hall
  refine Calls_of1 (by decide +kernel) (by simp [cat_rf, cat_ref, cat_int, cat_null]) (by simp) (lv0 := [some (.ref (aH S)), some (.int (nI k))]) rfl ?_
  intro Z hG hZ hE hN
  subst hG
  refine V_iload_n hZ 1 dX5_total_0 rfl rfl ?_
  match k, hk with
  | 0, _ =>
    refine V_tableIn (off := 55) (tgt := 56) hZ dX5_total_1 (by decide) (by decide) (by decide) (by decide) ?_
    refine V_aload_n hZ 0 dX5_total_56 rfl rfl (by first | rfl | exact isR_rf _) ?_
    refine V_getfield hZ fl_X5_181.r dX5_total_57 (by assumption) (by rfl) ?_
    refine V_iret hZ hE rfl (by rfl) dX5_total_60 (by decide) (by decide) ?_
    exact ⟨rfl, rfl⟩
  | 1, _ =>
    refine V_tableIn (off := 60) (tgt := 61) hZ dX5_total_1 (by decide) (by decide) (by decide) (by decide) ?_
    refine V_aload_n hZ 0 dX5_total_61 rfl rfl (by first | rfl | exact isR_rf _) ?_
    refine V_getfield hZ fl_X5_33.r dX5_total_62 (by assumption) (by rfl) ?_
    refine V_iret hZ hE rfl (by rfl) dX5_total_65 (by decide) (by decide) ?_
    exact ⟨rfl, rfl⟩
  | 2, _ =>
    refine V_tableIn (off := 65) (tgt := 66) hZ dX5_total_1 (by decide) (by decide) (by decide) (by decide) ?_
    refine V_aload_n hZ 0 dX5_total_66 rfl rfl (by first | rfl | exact isR_rf _) ?_
    refine V_invVp hZ me_X5_liveRecords mi_X5_liveRecords ml_X5_359 (c_liveRecords Z.1 R) dX5_total_67 rfl rfl (by assumption) rfl rfl ⟨by decide, by decide⟩ (by first | decide | simp [cat_rf, cat_ref, cat_int, cat_null]) ⟨by decide, by decide⟩ ?_
    refine V_iret hZ hE rfl (by rfl) dX5_total_70 (by decide) (by decide) ?_
    exact ⟨rfl, rfl⟩
  | 3, _ =>
    refine V_tableIn (off := 70) (tgt := 71) hZ dX5_total_1 (by decide) (by decide) (by decide) (by decide) ?_
    refine V_aload_n hZ 0 dX5_total_71 rfl rfl (by first | rfl | exact isR_rf _) ?_
    refine V_getfield hZ fl_X5_136.r dX5_total_72 (by assumption) (by rfl) ?_
    refine V_iret hZ hE rfl (by rfl) dX5_total_75 (by decide) (by decide) ?_
    exact ⟨rfl, rfl⟩
  | 4, _ =>
    refine V_tableIn (off := 75) (tgt := 76) hZ dX5_total_1 (by decide) (by decide) (by decide) (by decide) ?_
    refine V_aload_n hZ 0 dX5_total_76 rfl rfl (by first | rfl | exact isR_rf _) ?_
    refine V_getfield hZ fl_X5_156.r dX5_total_77 (by assumption) (by rfl) ?_
    refine V_iret hZ hE rfl (by rfl) dX5_total_80 (by decide) (by decide) ?_
    exact ⟨rfl, rfl⟩
  | 9, _ =>
    refine V_tableIn (off := 80) (tgt := 81) hZ dX5_total_1 (by decide) (by decide) (by decide) (by decide) ?_
    refine V_aload_n hZ 0 dX5_total_81 rfl rfl (by first | rfl | exact isR_rf _) ?_
    refine V_invVp hZ me_X5_owedByAll mi_X5_owedByAll ml_X5_362 (c_owedByAll Z.1 R) dX5_total_82 rfl rfl (by assumption) rfl rfl ⟨by decide, by decide⟩ (by first | decide | simp [cat_rf, cat_ref, cat_int, cat_null]) ⟨by decide, by decide⟩ ?_
    refine V_iret hZ hE rfl (by rfl) dX5_total_85 (by decide) (by decide) ?_
    exact ⟨rfl, rfl⟩
  | 5, _ =>
    refine V_tableIn (off := 85) (tgt := 86) hZ dX5_total_1 (by decide) (by decide) (by decide) (by decide) ?_
    refine V_aload_n hZ 0 dX5_total_86 rfl rfl (by first | rfl | exact isR_rf _) ?_
    refine V_iload_n hZ 1 dX5_total_87 rfl rfl ?_
    refine V_iconst (v := 5) hZ dX5_total_88 (by decide) ?_
    refine V_isub hZ dX5_total_89 ?_
    rw [show nI 5 - 5 = 0 from by decide]
    refine V_invVp hZ me_X5_copiesAt mi_X5_copiesAt ml_X5_365 (c_copiesAt Z.1 R 0) dX5_total_90 rfl rfl (by assumption) rfl rfl ⟨by decide, by decide⟩ (by first | decide | simp [cat_rf, cat_ref, cat_int, cat_null]) ⟨by decide, by decide⟩ ?_
    refine V_iret hZ hE rfl (by rfl) dX5_total_93 (by decide) (by decide) ?_
    exact ⟨rfl, rfl⟩
  | 6, _ =>
    refine V_tableIn (off := 85) (tgt := 86) hZ dX5_total_1 (by decide) (by decide) (by decide) (by decide) ?_
    refine V_aload_n hZ 0 dX5_total_86 rfl rfl (by first | rfl | exact isR_rf _) ?_
    refine V_iload_n hZ 1 dX5_total_87 rfl rfl ?_
    refine V_iconst (v := 5) hZ dX5_total_88 (by decide) ?_
    refine V_isub hZ dX5_total_89 ?_
    rw [show nI 6 - 5 = 1 from by decide]
    refine V_invVp hZ me_X5_copiesAt mi_X5_copiesAt ml_X5_365 (c_copiesAt Z.1 R 1) dX5_total_90 rfl rfl (by assumption) rfl rfl ⟨by decide, by decide⟩ (by first | decide | simp [cat_rf, cat_ref, cat_int, cat_null]) ⟨by decide, by decide⟩ ?_
    refine V_iret hZ hE rfl (by rfl) dX5_total_93 (by decide) (by decide) ?_
    exact ⟨rfl, rfl⟩
  | 7, _ =>
    refine V_tableIn (off := 85) (tgt := 86) hZ dX5_total_1 (by decide) (by decide) (by decide) (by decide) ?_
    refine V_aload_n hZ 0 dX5_total_86 rfl rfl (by first | rfl | exact isR_rf _) ?_
    refine V_iload_n hZ 1 dX5_total_87 rfl rfl ?_
    refine V_iconst (v := 5) hZ dX5_total_88 (by decide) ?_
    refine V_isub hZ dX5_total_89 ?_
    rw [show nI 7 - 5 = 2 from by decide]
    refine V_invVp hZ me_X5_copiesAt mi_X5_copiesAt ml_X5_365 (c_copiesAt Z.1 R 2) dX5_total_90 rfl rfl (by assumption) rfl rfl ⟨by decide, by decide⟩ (by first | decide | simp [cat_rf, cat_ref, cat_int, cat_null]) ⟨by decide, by decide⟩ ?_
    refine V_iret hZ hE rfl (by rfl) dX5_total_93 (by decide) (by decide) ?_
    exact ⟨rfl, rfl⟩
  | 8, _ =>
    refine V_tableIn (off := 85) (tgt := 86) hZ dX5_total_1 (by decide) (by decide) (by decide) (by decide) ?_
    refine V_aload_n hZ 0 dX5_total_86 rfl rfl (by first | rfl | exact isR_rf _) ?_
    refine V_iload_n hZ 1 dX5_total_87 rfl rfl ?_
    refine V_iconst (v := 5) hZ dX5_total_88 (by decide) ?_
    refine V_isub hZ dX5_total_89 ?_
    rw [show nI 8 - 5 = 3 from by decide]
    refine V_invVp hZ me_X5_copiesAt mi_X5_copiesAt ml_X5_365 (c_copiesAt Z.1 R 3) dX5_total_90 rfl rfl (by assumption) rfl rfl ⟨by decide, by decide⟩ (by first | decide | simp [cat_rf, cat_ref, cat_int, cat_null]) ⟨by decide, by decide⟩ ?_
    refine V_iret hZ hE rfl (by rfl) dX5_total_93 (by decide) (by decide) ?_
    exact ⟨rfl, rfl⟩
end

