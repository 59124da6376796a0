/-! the checksum -/
def dg (s : Int64) (v : Int32) : Int64 := s * 31 + v.toInt64
def dgN (f : Nat → Int32) : Nat → Int64 → Int64
  | 0, s => s
  | k + 1, s => dg (dgN f k s) (f k)
abbrev dgL (l : List Nat) (s : Int64) : Int64 := l.foldl (fun s x => dg s (nI x)) s
def dgR (S : St) (i : Nat) (s : Int64) : Int64 := dgL (lin S (live S i)) (dgN (factR S i) 7 s)
def dgC (S : St) (c : Nat) (s : Int64) : Int64 := dgN (factC S c) 7 s
def dgD (S : St) (x : Nat) (s : Int64) : Int64 := dg (dgN (factD S x) 7 s) (nI (cn (mayB S x) 30))
def dgO (n : Nat) (f : Nat → Int64 → Int64) : Nat → Int64 → Int64
  | 0, s => s
  | k + 1, s => if k < n then f k (dgO n f k s) else dgO n f k s
theorem dgO_t {n : Nat} {f : Nat → Int64 → Int64} {k : Nat} {s : Int64} (h : k < n) : dgO n f (k + 1) s = f k (dgO n f k s) := by simp [dgO, h]
theorem dgO_f {n : Nat} {f : Nat → Int64 → Int64} {k : Nat} {s : Int64} (h : ¬ k < n) : dgO n f (k + 1) s = dgO n f k s := by simp [dgO, h]
def digT (S : St) : Int64 := dgN (totN S) 10 982
def digA (S : St) : Int64 := dgO (nNm S) (fun k s => dg s (nI k)) 16 (digT S)
def digB (S : St) : Int64 := dgO (nRc S) (dgR S) 20 (digA S)
def digC (S : St) : Int64 := dgO (nCp S) (dgC S) 30 (digB S)
def digD (S : St) : Int64 := dgO (nRd S) (dgD S) 8 (digC S)
def digN (S : St) : Int64 := dg (digD S) (nI (cn (lostB S 30) 30))
theorem cat_long (s : Int64) : (Value.long s).category = 2 := rfl
theorem lv_li (s : Int64) (v : Int32) : ∀ (i : Nat) (x : Value), ([some (.long s), none, some (.int v)] : List (Option Value))[i]? = some (some x) → (i, x) ∈ lv_args 0 [.long s, .int v] := by
  intro i x h
  match i, h with
  | 0, h => cases h; exact List.mem_cons_self
  | 1, h => cases h
  | 2, h => cases h; exact List.mem_cons_of_mem _ List.mem_cons_self
  | i + 3, h => simp at h
theorem lv_rlr (a b : Nat) (s : Int64) (k : Nat) : ∀ (i : Nat) (x : Value), ([some (.ref a), some (.long s), none, some (.ref b)] ++ List.replicate k none : List (Option Value))[i]? = some (some x) → (i, x) ∈ lv_args 0 [.ref a, .long s, .ref b] := by
  intro i x h
  match i, h with
  | 0, h => cases h; exact List.mem_cons_self
  | 1, h => cases h; exact List.mem_cons_of_mem _ List.mem_cons_self
  | 2, h => cases h
  | 3, h => cases h; exact List.mem_cons_of_mem _ (List.mem_cons_of_mem _ List.mem_cons_self)
  | i + 4, h =>
    exfalso
    simp only [List.cons_append, List.nil_append, List.getElem?_cons_succ] at h
    obtain ⟨h1, h2⟩ := List.getElem?_eq_some_iff.mp h
    simp at h2
section
variable (G : GC) {h : HP} {S : St}
theorem c_digested (h : HP) (s : Int64) (v : Int32) : Calls G yX5_digested cX5_digested 3 (.some .long) 0 0 0 0 [.long s, .int v] h (qV (.long (dg s v)) h) qX := by
  refine Calls_of (fr' := 0) (lc' := 0) (by decide +kernel) (Nat.le_of_ble_eq_true rfl) (lv_li s v) ?_
  intro Z hG hZ hE hN
  subst hG
  refine V_lload_n hZ 0 dX5_digested_0 rfl rfl ?_
  refine V_ldc2 hZ dX5_digested_1 ct_X5_404 ?_
  refine V_lmul hZ dX5_digested_4 ?_
  refine V_iload_n hZ 2 dX5_digested_5 rfl rfl ?_
  refine V_i2l hZ dX5_digested_6 ?_
  refine V_ladd hZ dX5_digested_7 ?_
  refine V_lret hZ hE rfl dX5_digested_8 (by decide) (by decide) ?_
  exact ⟨rfl, rfl⟩
theorem c_digestedRecord (R : Rep S h) (W : Wf S) {i : Nat} (hi : i < nRc S) (s : Int64) : Calls G yX5_digestedRecord cX5_digestedRecord 10 (.some .long) 2 49 0 0 [.ref (aH S), .long s, .ref (adR S i)] h (qV (.long (dgR S i s)) h) qX := by
  have h4 := R.hall
  have hl := live_lt W hi
  have h2 := R.rec hl
  have h3 := R.line hl
  have h5 := R.row hl
  have h6 := R.rec hi
  refine Calls_of (fr' := 0) (lc' := 0) (by decide +kernel) (Nat.le_of_ble_eq_true rfl) (lv0 := [some (.ref (aH S)), some (.long s), none, some (.ref (adR S i)), none, none, none, none, none, none]) (lv_rlr _ _ s 6) ?_
  intro Z hG hZ hE hN
  subst hG
  have key2 : ∀ m c, c + m = 8 → ∀ w, V Z 53 [some (.ref (aH S)), some (.long s), none, some (.ref (adR S i)), some (.long (dgL ((lin S (live S i)).take c) (dgN (factR S i) 7 s))), none, some (.ref (adQ S (live S i))), some (.int (nI 8)), some (.int (nI c)), w] [] h 0 0 := by
    intro m
    induction m with
    | zero =>
      intro c hcm  w
      have hc : c = 8 := by omega
      subst hc
      refine V_iload hZ dX5_digestedRecord_53 rfl ?_
      refine V_iload hZ dX5_digestedRecord_55 rfl ?_
      refine V_icmp_ge (tgt := 90) hZ dX5_digestedRecord_57 (by decide) (fun cE => ?_) (fun cE => ?_)
      · refine V_lload hZ dX5_digestedRecord_90 rfl ?_
        refine V_lret hZ hE rfl dX5_digestedRecord_92 (by decide) (by decide) ?_
        rw [List.take_of_length_le (W_lin W hl).1]
        exact ⟨rfl, rfl⟩
      · exact absurd (by decide) cE
    | succ m ih =>
      intro c hcm  w
      have hcN : c < 8 := by omega
      refine V_iload hZ dX5_digestedRecord_53 rfl ?_
      refine V_iload hZ dX5_digestedRecord_55 rfl ?_
      refine V_icmp_ge (tgt := 90) hZ dX5_digestedRecord_57 (by decide) (fun cE => ?_) (fun cE => ?_)
      · have cE2 : 8 ≤ c := (nI_leI (a := 8) (by decide) (by omega)).mp cE
        omega
      · refine V_aload hZ dX5_digestedRecord_60 rfl (by first | rfl | exact isR_rf _) ?_
        refine V_iload hZ dX5_digestedRecord_62 rfl ?_
        cases hx : (lin S (live S i))[c]? with
        | none =>
          refine V_aaldn hZ dX5_digestedRecord_64 (by assumption) hcN (by decide) (v := .null) (lnf_none hx) ?_
          refine V_astore hZ dX5_digestedRecord_65 (by first | rfl | exact isR_rf _) (by decide) (by first | rfl | simp [okp, cat_rf, cat_ref, cat_int, cat_null]) ?_
          refine V.lvc (by simp only [List.set_cons_zero, List.set_cons_succ, Nat.reduceAdd]; rfl) ?_
          refine V_aload hZ dX5_digestedRecord_67 rfl (by first | rfl | exact isR_rf _) ?_
          refine V_ifnullN (tgt := 84) hZ dX5_digestedRecord_69 (by decide) ?_
          refine V_iincv hZ dX5_digestedRecord_84 rfl (by decide) (by first | rfl | simp [okp, cat_rf, cat_ref, cat_int, cat_null]) (by first | exact nI_inc _ | rfl) ?_
          refine V.lvc (by simp only [List.set_cons_zero, List.set_cons_succ, Nat.reduceAdd]; rfl) ?_
          refine V_goto (tgt := 53) hZ dX5_digestedRecord_87 (by decide) ?_
          have e := ih (c + 1) (by omega) (some .null)
          rw [List.take_add_one, hx, Option.toList_none, List.append_nil] at e
          exact e
        | some x =>
          refine V_aaldn hZ dX5_digestedRecord_64 (by assumption) hcN (by decide) (v := .ref (adD S x)) (lnf_some hx) ?_
          refine V_astore hZ dX5_digestedRecord_65 (by first | rfl | exact isR_rf _) (by decide) (by first | rfl | simp [okp, cat_rf, cat_ref, cat_int, cat_null]) ?_
          refine V.lvc (by simp only [List.set_cons_zero, List.set_cons_succ, Nat.reduceAdd]; rfl) ?_
          refine V_aload hZ dX5_digestedRecord_67 rfl (by first | rfl | exact isR_rf _) ?_
          refine V_ifnullR hZ dX5_digestedRecord_69 ?_
          have hxb : x < nRd S := (W_lin W hl).2 x (List.mem_of_getElem? hx)
          have h7 := R.rdr hxb
          refine V_lload hZ dX5_digestedRecord_72 rfl ?_
          refine V_aload hZ dX5_digestedRecord_74 rfl (by first | rfl | exact isR_rf _) ?_
          refine V_getfield hZ fl_X5_273 dX5_digestedRecord_76 (by assumption) (by rfl) ?_
          refine V_invSp hZ me_X5_digested ms_X5_digested ml_X5_303 (c_digested Z.1 h _ (nI x)) dX5_digestedRecord_79 rfl rfl ⟨by decide, by decide⟩ (by first | decide | (simp [cat_rf, cat_ref, cat_int, cat_null]; done) | (simp [cat_rf, cat_ref, cat_int, cat_null, Value.category]; done)) ⟨by decide, by decide⟩ ?_
          refine V_lstore hZ dX5_digestedRecord_82 (by decide) (by first | rfl | simp [okp, cat_rf, cat_ref, cat_int, cat_null]) ?_
          refine V.lvc (by simp only [List.set_cons_zero, List.set_cons_succ, Nat.reduceAdd]; rfl) ?_
          refine V_iincv hZ dX5_digestedRecord_84 rfl (by decide) (by first | rfl | simp [okp, cat_rf, cat_ref, cat_int, cat_null]) (by first | exact nI_inc _ | rfl) ?_
          refine V.lvc (by simp only [List.set_cons_zero, List.set_cons_succ, Nat.reduceAdd]; rfl) ?_
          refine V_goto (tgt := 53) hZ dX5_digestedRecord_87 (by decide) ?_
          have e := ih (c + 1) (by omega) (some (.ref (adD S x)))
          rw [List.take_add_one, hx, dgL, List.foldl_append] at e
          exact e
  refine V_lload_n hZ 1 dX5_digestedRecord_0 rfl rfl ?_
  refine V_lstore hZ dX5_digestedRecord_1 (by decide) (by first | rfl | simp [okp, cat_rf, cat_ref, cat_int, cat_null]) ?_
  refine V.lvc (by simp only [List.set_cons_zero, List.set_cons_succ, Nat.reduceAdd]; rfl) ?_
  refine V_iconst (v := 0) hZ dX5_digestedRecord_3 (by decide) ?_
  refine V_istore hZ dX5_digestedRecord_4 (by decide) (by first | rfl | simp [okp, cat_rf, cat_ref, cat_int, cat_null]) ?_
  refine V.lvc (by simp only [List.set_cons_zero, List.set_cons_succ, Nat.reduceAdd]; rfl) ?_
  have key1 : ∀ m c, c + m = 7 → V Z 6 [some (.ref (aH S)), some (.long s), none, some (.ref (adR S i)), some (.long (dgN (factR S i) c s)), none, some (.int (nI c)), none, none, none] [] h 0 0 := by
    intro m
    induction m with
    | zero =>
      intro c hcm
      have hc : c = 7 := by omega
      subst hc
      refine V_iload hZ dX5_digestedRecord_6 rfl ?_
      refine V_bipush (v := 6) hZ dX5_digestedRecord_8 (by decide) ?_
      refine V_icmp_gt (tgt := 33) hZ dX5_digestedRecord_10 (by decide) (fun cE => ?_) (fun cE => ?_)
      · refine V_aload_n hZ 3 dX5_digestedRecord_33 rfl rfl (by first | rfl | exact isR_rf _) ?_
        refine V_invVp hZ me_X0_liveOne mi_X0_liveOne ml_X5_95 (c_liveOne Z.1 R W hi) dX5_digestedRecord_34 rfl rfl (by assumption) rfl rfl ⟨by decide, by decide⟩ (by first | decide | (simp [cat_rf, cat_ref, cat_int, cat_null]; done) | (simp [cat_rf, cat_ref, cat_int, cat_null, Value.category]; done)) ⟨by decide, by decide⟩ ?_
        refine V_getfield hZ fl_X5_235 dX5_digestedRecord_37 (by assumption) (by rfl) ?_
        refine V_getfield hZ fl_X5_378 dX5_digestedRecord_40 (by assumption) (by rfl) ?_
        refine V_astore hZ dX5_digestedRecord_43 (by first | rfl | exact isR_rf _) (by decide) (by first | rfl | simp [okp, cat_rf, cat_ref, cat_int, cat_null]) ?_
        refine V.lvc (by simp only [List.set_cons_zero, List.set_cons_succ, Nat.reduceAdd]; rfl) ?_
        refine V_aload hZ dX5_digestedRecord_45 rfl (by first | rfl | exact isR_rf _) ?_
        refine V_alenR hZ dX5_digestedRecord_47 (by assumption) ?_
        refine V_istore hZ dX5_digestedRecord_48 (by decide) (by first | rfl | simp [okp, cat_rf, cat_ref, cat_int, cat_null]) ?_
        refine V.lvc (by simp only [List.set_cons_zero, List.set_cons_succ, Nat.reduceAdd]; rfl) ?_
        refine V_iconst (v := 0) hZ dX5_digestedRecord_50 (by decide) ?_
        refine V_istore hZ dX5_digestedRecord_51 (by decide) (by first | rfl | simp [okp, cat_rf, cat_ref, cat_int, cat_null]) ?_
        refine V.lvc (by simp only [List.set_cons_zero, List.set_cons_succ, Nat.reduceAdd]; rfl) ?_
        exact key2 8 0 rfl none
      · exact absurd (by decide) cE
    | succ m ih =>
      intro c hcm
      refine V_iload hZ dX5_digestedRecord_6 rfl ?_
      refine V_bipush (v := 6) hZ dX5_digestedRecord_8 (by decide) ?_
      refine V_icmp_gt (tgt := 33) hZ dX5_digestedRecord_10 (by decide) (fun cE => ?_) (fun cE => ?_)
      · exact absurd cE (nI_nlt (a := 6) (b := c) (by omega) (by decide))
      · refine V_lload hZ dX5_digestedRecord_13 rfl ?_
        refine V_aload_n hZ 0 dX5_digestedRecord_15 rfl rfl (by first | rfl | exact isR_rf _) ?_
        refine V_aload_n hZ 3 dX5_digestedRecord_16 rfl rfl (by first | rfl | exact isR_rf _) ?_
        refine V_iload hZ dX5_digestedRecord_17 rfl ?_
        refine V_invVp hZ me_X5_factOfRecord mi_X5_factOfRecord ml_X5_87 (c_factOfRecord Z.1 R W hi (show c < 7 by omega)) dX5_digestedRecord_19 rfl rfl (by assumption) rfl rfl ⟨by decide, by decide⟩ (by first | decide | (simp [cat_rf, cat_ref, cat_int, cat_null]; done) | (simp [cat_rf, cat_ref, cat_int, cat_null, Value.category]; done)) ⟨by decide, by decide⟩ ?_
        refine V_invSp hZ me_X5_digested ms_X5_digested ml_X5_303 (c_digested Z.1 h _ _) dX5_digestedRecord_22 rfl rfl ⟨by decide, by decide⟩ (by first | decide | (simp [cat_rf, cat_ref, cat_int, cat_null]; done) | (simp [cat_rf, cat_ref, cat_int, cat_null, Value.category]; done)) ⟨by decide, by decide⟩ ?_
        refine V_lstore hZ dX5_digestedRecord_25 (by decide) (by first | rfl | simp [okp, cat_rf, cat_ref, cat_int, cat_null]) ?_
        refine V.lvc (by simp only [List.set_cons_zero, List.set_cons_succ, Nat.reduceAdd]; rfl) ?_
        refine V_iincv hZ dX5_digestedRecord_27 rfl (by decide) (by first | rfl | simp [okp, cat_rf, cat_ref, cat_int, cat_null]) (by first | exact nI_inc _ | rfl) ?_
        refine V.lvc (by simp only [List.set_cons_zero, List.set_cons_succ, Nat.reduceAdd]; rfl) ?_
        refine V_goto (tgt := 6) hZ dX5_digestedRecord_30 (by decide) ?_
        exact ih (c + 1) (by omega)
  exact key1 7 0 rfl
theorem c_digestedCopy (R : Rep S h) (W : Wf S) {i : Nat} (hi : i < nCp S) (s : Int64) : Calls G yX5_digestedCopy cX5_digestedCopy 7 (.some .long) 2 43 0 0 [.ref (aH S), .long s, .ref (adC S i)] h (qV (.long (dgC S i s)) h) qX := by
  have h4 := R.hall
  have h6 := R.copy hi
  refine Calls_of (fr' := 0) (lc' := 0) (by decide +kernel) (Nat.le_of_ble_eq_true rfl) (lv0 := [some (.ref (aH S)), some (.long s), none, some (.ref (adC S i)), none, none, none]) (lv_rlr _ _ s 3) ?_
  intro Z hG hZ hE hN
  subst hG
  refine V_lload_n hZ 1 dX5_digestedCopy_0 rfl rfl ?_
  refine V_lstore hZ dX5_digestedCopy_1 (by decide) (by first | rfl | simp [okp, cat_rf, cat_ref, cat_int, cat_null]) ?_
  refine V.lvc (by simp only [List.set_cons_zero, List.set_cons_succ, Nat.reduceAdd]; rfl) ?_
  refine V_iconst (v := 0) hZ dX5_digestedCopy_3 (by decide) ?_
  refine V_istore hZ dX5_digestedCopy_4 (by decide) (by first | rfl | simp [okp, cat_rf, cat_ref, cat_int, cat_null]) ?_
  refine V.lvc (by simp only [List.set_cons_zero, List.set_cons_succ, Nat.reduceAdd]; rfl) ?_
  have key1 : ∀ m c, c + m = 7 → V Z 6 [some (.ref (aH S)), some (.long s), none, some (.ref (adC S i)), some (.long (dgN (factC S i) c s)), none, some (.int (nI c))] [] h 0 0 := by
    intro m
    induction m with
    | zero =>
      intro c hcm
      have hc : c = 7 := by omega
      subst hc
      refine V_iload hZ dX5_digestedCopy_6 rfl ?_
      refine V_bipush (v := 6) hZ dX5_digestedCopy_8 (by decide) ?_
      refine V_icmp_gt (tgt := 33) hZ dX5_digestedCopy_10 (by decide) (fun cE => ?_) (fun cE => ?_)
      · refine V_lload hZ dX5_digestedCopy_33 rfl ?_
        refine V_lret hZ hE rfl dX5_digestedCopy_35 (by decide) (by decide) ?_
        exact ⟨rfl, rfl⟩
      · exact absurd (by decide) cE
    | succ m ih =>
      intro c hcm
      refine V_iload hZ dX5_digestedCopy_6 rfl ?_
      refine V_bipush (v := 6) hZ dX5_digestedCopy_8 (by decide) ?_
      refine V_icmp_gt (tgt := 33) hZ dX5_digestedCopy_10 (by decide) (fun cE => ?_) (fun cE => ?_)
      · exact absurd cE (nI_nlt (a := 6) (b := c) (by omega) (by decide))
      · refine V_lload hZ dX5_digestedCopy_13 rfl ?_
        refine V_aload_n hZ 0 dX5_digestedCopy_15 rfl rfl (by first | rfl | exact isR_rf _) ?_
        refine V_aload_n hZ 3 dX5_digestedCopy_16 rfl rfl (by first | rfl | exact isR_rf _) ?_
        refine V_iload hZ dX5_digestedCopy_17 rfl ?_
        refine V_invVp hZ me_X5_factOfCopy mi_X5_factOfCopy ml_X5_152 (c_factOfCopy Z.1 R W hi (show c < 7 by omega)) dX5_digestedCopy_19 rfl rfl (by assumption) rfl rfl ⟨by decide, by decide⟩ (by first | decide | (simp [cat_rf, cat_ref, cat_int, cat_null]; done) | (simp [cat_rf, cat_ref, cat_int, cat_null, Value.category]; done)) ⟨by decide, by decide⟩ ?_
        refine V_invSp hZ me_X5_digested ms_X5_digested ml_X5_303 (c_digested Z.1 h _ _) dX5_digestedCopy_22 rfl rfl ⟨by decide, by decide⟩ (by first | decide | (simp [cat_rf, cat_ref, cat_int, cat_null]; done) | (simp [cat_rf, cat_ref, cat_int, cat_null, Value.category]; done)) ⟨by decide, by decide⟩ ?_
        refine V_lstore hZ dX5_digestedCopy_25 (by decide) (by first | rfl | simp [okp, cat_rf, cat_ref, cat_int, cat_null]) ?_
        refine V.lvc (by simp only [List.set_cons_zero, List.set_cons_succ, Nat.reduceAdd]; rfl) ?_
        refine V_iincv hZ dX5_digestedCopy_27 rfl (by decide) (by first | rfl | simp [okp, cat_rf, cat_ref, cat_int, cat_null]) (by first | exact nI_inc _ | rfl) ?_
        refine V.lvc (by simp only [List.set_cons_zero, List.set_cons_succ, Nat.reduceAdd]; rfl) ?_
        refine V_goto (tgt := 6) hZ dX5_digestedCopy_30 (by decide) ?_
        exact ih (c + 1) (by omega)
  exact key1 7 0 rfl
theorem c_digestedReader (R : Rep S h) (W : Wf S) {i : Nat} (hi : i < nRd S) (s : Int64) : Calls G yX5_digestedReader cX5_digestedReader 7 (.some .long) 4 95 0 0 [.ref (aH S), .long s, .ref (adD S i)] h (qV (.long (dgD S i s)) h) qX := by
  have h4 := R.hall
  have h6 := R.rdr hi
  refine Calls_of (fr' := 0) (lc' := 0) (by decide +kernel) (Nat.le_of_ble_eq_true rfl) (lv0 := [some (.ref (aH S)), some (.long s), none, some (.ref (adD S i)), none, none, none]) (lv_rlr _ _ s 3) ?_
  intro Z hG hZ hE hN
  subst hG
  refine V_lload_n hZ 1 dX5_digestedReader_0 rfl rfl ?_
  refine V_lstore hZ dX5_digestedReader_1 (by decide) (by first | rfl | simp [okp, cat_rf, cat_ref, cat_int, cat_null]) ?_
  refine V.lvc (by simp only [List.set_cons_zero, List.set_cons_succ, Nat.reduceAdd]; rfl) ?_
  refine V_iconst (v := 0) hZ dX5_digestedReader_3 (by decide) ?_
  refine V_istore hZ dX5_digestedReader_4 (by decide) (by first | rfl | simp [okp, cat_rf, cat_ref, cat_int, cat_null]) ?_
  refine V.lvc (by simp only [List.set_cons_zero, List.set_cons_succ, Nat.reduceAdd]; rfl) ?_
  have key1 : ∀ m c, c + m = 7 → V Z 6 [some (.ref (aH S)), some (.long s), none, some (.ref (adD S i)), some (.long (dgN (factD S i) c s)), none, some (.int (nI c))] [] h 0 0 := by
    intro m
    induction m with
    | zero =>
      intro c hcm
      have hc : c = 7 := by omega
      subst hc
      refine V_iload hZ dX5_digestedReader_6 rfl ?_
      refine V_bipush (v := 6) hZ dX5_digestedReader_8 (by decide) ?_
      refine V_icmp_gt (tgt := 33) hZ dX5_digestedReader_10 (by decide) (fun cE => ?_) (fun cE => ?_)
      · refine V_lload hZ dX5_digestedReader_33 rfl ?_
        refine V_aload_n hZ 0 dX5_digestedReader_35 rfl rfl (by first | rfl | exact isR_rf _) ?_
        refine V_aload_n hZ 3 dX5_digestedReader_36 rfl rfl (by first | rfl | exact isR_rf _) ?_
        refine V_invVp hZ me_X5_borrowable mi_X5_borrowable ml_X5_294 (c_borrowable Z.1 R W hi) dX5_digestedReader_37 rfl rfl (by assumption) rfl rfl ⟨by decide, by decide⟩ (by first | decide | (simp [cat_rf, cat_ref, cat_int, cat_null]; done) | (simp [cat_rf, cat_ref, cat_int, cat_null, Value.category]; done)) ⟨by decide, by decide⟩ ?_
        refine V_invSp hZ me_X5_digested ms_X5_digested ml_X5_303 (c_digested Z.1 h _ _) dX5_digestedReader_40 rfl rfl ⟨by decide, by decide⟩ (by first | decide | (simp [cat_rf, cat_ref, cat_int, cat_null]; done) | (simp [cat_rf, cat_ref, cat_int, cat_null, Value.category]; done)) ⟨by decide, by decide⟩ ?_
        refine V_lret hZ hE rfl dX5_digestedReader_43 (by decide) (by decide) ?_
        exact ⟨rfl, rfl⟩
      · exact absurd (by decide) cE
    | succ m ih =>
      intro c hcm
      refine V_iload hZ dX5_digestedReader_6 rfl ?_
      refine V_bipush (v := 6) hZ dX5_digestedReader_8 (by decide) ?_
      refine V_icmp_gt (tgt := 33) hZ dX5_digestedReader_10 (by decide) (fun cE => ?_) (fun cE => ?_)
      · exact absurd cE (nI_nlt (a := 6) (b := c) (by omega) (by decide))
      · refine V_lload hZ dX5_digestedReader_13 rfl ?_
        refine V_aload_n hZ 0 dX5_digestedReader_15 rfl rfl (by first | rfl | exact isR_rf _) ?_
        refine V_aload_n hZ 3 dX5_digestedReader_16 rfl rfl (by first | rfl | exact isR_rf _) ?_
        refine V_iload hZ dX5_digestedReader_17 rfl ?_
        refine V_invVp hZ me_X5_factOfReader mi_X5_factOfReader ml_X5_168 (c_factOfReader Z.1 R W hi (show c < 7 by omega)) dX5_digestedReader_19 rfl rfl (by assumption) rfl rfl ⟨by decide, by decide⟩ (by first | decide | (simp [cat_rf, cat_ref, cat_int, cat_null]; done) | (simp [cat_rf, cat_ref, cat_int, cat_null, Value.category]; done)) ⟨by decide, by decide⟩ ?_
        refine V_invSp hZ me_X5_digested ms_X5_digested ml_X5_303 (c_digested Z.1 h _ _) dX5_digestedReader_22 rfl rfl ⟨by decide, by decide⟩ (by first | decide | (simp [cat_rf, cat_ref, cat_int, cat_null]; done) | (simp [cat_rf, cat_ref, cat_int, cat_null, Value.category]; done)) ⟨by decide, by decide⟩ ?_
        refine V_lstore hZ dX5_digestedReader_25 (by decide) (by first | rfl | simp [okp, cat_rf, cat_ref, cat_int, cat_null]) ?_
        refine V.lvc (by simp only [List.set_cons_zero, List.set_cons_succ, Nat.reduceAdd]; rfl) ?_
        refine V_iincv hZ dX5_digestedReader_27 rfl (by decide) (by first | rfl | simp [okp, cat_rf, cat_ref, cat_int, cat_null]) (by first | exact nI_inc _ | rfl) ?_
        refine V.lvc (by simp only [List.set_cons_zero, List.set_cons_succ, Nat.reduceAdd]; rfl) ?_
        refine V_goto (tgt := 6) hZ dX5_digestedReader_30 (by decide) ?_
        exact ih (c + 1) (by omega)
  exact key1 7 0 rfl
theorem c_digest (R : Rep S h) (W : Wf S) : Calls G yX5_digest cX5_digest 7 (.some .long) 5 121 0 0 [.ref (aH S)] h (qV (.long (digN S)) h) qX := by
  have h1 := R.hall
  have h2 := R.names
  have h3 := R.records
  have h4 := R.copies
  have h5 := R.readers
  refine Calls_of1 (by decide +kernel) (by simp [cat_rf, cat_ref, cat_int, cat_null]) (by simp) (lv0 := [some (.ref (aH S)), none, none, none, none, none, none]) rfl ?_
  intro Z hG hZ hE hN
  subst hG
  have key5 : ∀ m c, c + m = 8 → ∀ w, V Z 177 [some (.ref (aH S)), some (.long (dgO (nRd S) (dgD S) c (digC S))), none, some (.ref (aDs S)), some (.int (nI 8)), some (.int (nI c)), w] [] h 0 0 := by
    intro m
    induction m with
    | zero =>
      intro c hcm  w
      have hc : c = 8 := by omega
      subst hc
      refine V_iload hZ dX5_digest_177 rfl ?_
      refine V_iload hZ dX5_digest_179 rfl ?_
      refine V_icmp_ge (tgt := 209) hZ dX5_digest_181 (by decide) (fun cE => ?_) (fun cE => ?_)
      · refine V_lload_n hZ 1 dX5_digest_209 rfl rfl ?_
        refine V_aload_n hZ 0 dX5_digest_210 rfl rfl (by first | rfl | exact isR_rf _) ?_
        refine V_bipush (v := 30) hZ dX5_digest_211 (by decide) ?_
        refine V_invVp hZ me_X5_lostWithin mi_X5_lostWithin ml_X5_298 (c_lostWithin Z.1 R 30) dX5_digest_213 rfl rfl (by assumption) rfl rfl ⟨by decide, by decide⟩ (by first | decide | (simp [cat_rf, cat_ref, cat_int, cat_null]; done) | (simp [cat_rf, cat_ref, cat_int, cat_null, Value.category]; done)) ⟨by decide, by decide⟩ ?_
        refine V_invSp hZ me_X5_digested ms_X5_digested ml_X5_303 (c_digested Z.1 h _ _) dX5_digest_216 rfl rfl ⟨by decide, by decide⟩ (by first | decide | (simp [cat_rf, cat_ref, cat_int, cat_null]; done) | (simp [cat_rf, cat_ref, cat_int, cat_null, Value.category]; done)) ⟨by decide, by decide⟩ ?_
        refine V_lret hZ hE rfl dX5_digest_219 (by decide) (by decide) ?_
        exact ⟨rfl, rfl⟩
      · exact absurd (by decide) cE
    | succ m ih =>
      intro c hcm  w
      have hcN : c < 8 := by omega
      refine V_iload hZ dX5_digest_177 rfl ?_
      refine V_iload hZ dX5_digest_179 rfl ?_
      refine V_icmp_ge (tgt := 209) hZ dX5_digest_181 (by decide) (fun cE => ?_) (fun cE => ?_)
      · have cE2 : 8 ≤ c := (nI_leI (a := 8) (by decide) (by omega)).mp cE
        omega
      · refine V_aload_n hZ 3 dX5_digest_184 rfl rfl (by first | rfl | exact isR_rf _) ?_
        refine V_iload hZ dX5_digest_185 rfl ?_
        by_cases hi : c < nRd S
        · refine V_aaldn hZ dX5_digest_187 (by assumption) hcN (by decide) (v := .ref (adD S c)) (rowf_lt hi) ?_
          refine V_astore hZ dX5_digest_188 (by first | rfl | exact isR_rf _) (by decide) (by first | rfl | simp [okp, cat_rf, cat_ref, cat_int, cat_null]) ?_
          refine V.lvc (by simp only [List.set_cons_zero, List.set_cons_succ, Nat.reduceAdd]; rfl) ?_
          refine V_aload hZ dX5_digest_190 rfl (by first | rfl | exact isR_rf _) ?_
          refine V_ifnullR hZ dX5_digest_192 ?_
          refine V_aload_n hZ 0 dX5_digest_195 rfl rfl (by first | rfl | exact isR_rf _) ?_
          refine V_lload_n hZ 1 dX5_digest_196 rfl rfl ?_
          refine V_aload hZ dX5_digest_197 rfl (by first | rfl | exact isR_rf _) ?_
          refine V_invVp hZ me_X5_digestedReader mi_X5_digestedReader ml_X5_315 (c_digestedReader Z.1 R W hi _) dX5_digest_199 rfl rfl (by assumption) rfl rfl ⟨by decide, by decide⟩ (by first | decide | (simp [cat_rf, cat_ref, cat_int, cat_null]; done) | (simp [cat_rf, cat_ref, cat_int, cat_null, Value.category]; done)) ⟨by decide, by decide⟩ ?_
          refine V_lstore_n hZ 1 rfl dX5_digest_202 (by decide) (by first | rfl | simp [okp, cat_rf, cat_ref, cat_int, cat_null]) ?_
          refine V.lvc (by simp only [List.set_cons_zero, List.set_cons_succ, Nat.reduceAdd]; rfl) ?_
          refine V_iincv hZ dX5_digest_203 rfl (by decide) (by first | rfl | simp [okp, cat_rf, cat_ref, cat_int, cat_null]) (by first | exact nI_inc _ | rfl) ?_
          refine V.lvc (by simp only [List.set_cons_zero, List.set_cons_succ, Nat.reduceAdd]; rfl) ?_
          refine V_goto (tgt := 177) hZ dX5_digest_206 (by decide) ?_
          have e := ih (c + 1) (by omega) (some (.ref (adD S c)))
          rw [dgO_t hi] at e
          exact e
        · refine V_aaldn hZ dX5_digest_187 (by assumption) hcN (by decide) (v := .null) (rowf_ge hi) ?_
          refine V_astore hZ dX5_digest_188 (by first | rfl | exact isR_rf _) (by decide) (by first | rfl | simp [okp, cat_rf, cat_ref, cat_int, cat_null]) ?_
          refine V.lvc (by simp only [List.set_cons_zero, List.set_cons_succ, Nat.reduceAdd]; rfl) ?_
          refine V_aload hZ dX5_digest_190 rfl (by first | rfl | exact isR_rf _) ?_
          refine V_ifnullN (tgt := 203) hZ dX5_digest_192 (by decide) ?_
          refine V_iincv hZ dX5_digest_203 rfl (by decide) (by first | rfl | simp [okp, cat_rf, cat_ref, cat_int, cat_null]) (by first | exact nI_inc _ | rfl) ?_
          refine V.lvc (by simp only [List.set_cons_zero, List.set_cons_succ, Nat.reduceAdd]; rfl) ?_
          refine V_goto (tgt := 177) hZ dX5_digest_206 (by decide) ?_
          have e := ih (c + 1) (by omega) (some .null)
          rw [dgO_f hi] at e
          exact e
  have key4 : ∀ m c, c + m = 30 → ∀ w, V Z 133 [some (.ref (aH S)), some (.long (dgO (nCp S) (dgC S) c (digB S))), none, some (.ref (aCs S)), some (.int (nI 30)), some (.int (nI c)), w] [] h 0 0 := by
    intro m
    induction m with
    | zero =>
      intro c hcm  w
      have hc : c = 30 := by omega
      subst hc
      refine V_iload hZ dX5_digest_133 rfl ?_
      refine V_iload hZ dX5_digest_135 rfl ?_
      refine V_icmp_ge (tgt := 165) hZ dX5_digest_137 (by decide) (fun cE => ?_) (fun cE => ?_)
      · refine V_aload_n hZ 0 dX5_digest_165 rfl rfl (by first | rfl | exact isR_rf _) ?_
        refine V_getfield hZ fl_X5_29.r dX5_digest_166 (by assumption) (by rfl) ?_
        refine V_astore_n hZ 3 rfl dX5_digest_169 (by first | rfl | exact isR_rf _) (by decide) (by first | rfl | simp [okp, cat_rf, cat_ref, cat_int, cat_null]) ?_
        refine V.lvc (by simp only [List.set_cons_zero, List.set_cons_succ, Nat.reduceAdd]; rfl) ?_
        refine V_aload_n hZ 3 dX5_digest_170 rfl rfl (by first | rfl | exact isR_rf _) ?_
        refine V_alenR hZ dX5_digest_171 (by assumption) ?_
        refine V_istore hZ dX5_digest_172 (by decide) (by first | rfl | simp [okp, cat_rf, cat_ref, cat_int, cat_null]) ?_
        refine V.lvc (by simp only [List.set_cons_zero, List.set_cons_succ, Nat.reduceAdd]; rfl) ?_
        refine V_iconst (v := 0) hZ dX5_digest_174 (by decide) ?_
        refine V_istore hZ dX5_digest_175 (by decide) (by first | rfl | simp [okp, cat_rf, cat_ref, cat_int, cat_null]) ?_
        refine V.lvc (by simp only [List.set_cons_zero, List.set_cons_succ, Nat.reduceAdd]; rfl) ?_
        exact key5 8 0 rfl _
      · exact absurd (by decide) cE
    | succ m ih =>
      intro c hcm  w
      have hcN : c < 30 := by omega
      refine V_iload hZ dX5_digest_133 rfl ?_
      refine V_iload hZ dX5_digest_135 rfl ?_
      refine V_icmp_ge (tgt := 165) hZ dX5_digest_137 (by decide) (fun cE => ?_) (fun cE => ?_)
      · have cE2 : 30 ≤ c := (nI_leI (a := 30) (by decide) (by omega)).mp cE
        omega
      · refine V_aload_n hZ 3 dX5_digest_140 rfl rfl (by first | rfl | exact isR_rf _) ?_
        refine V_iload hZ dX5_digest_141 rfl ?_
        by_cases hi : c < nCp S
        · refine V_aaldn hZ dX5_digest_143 (by assumption) hcN (by decide) (v := .ref (adC S c)) (rowf_lt hi) ?_
          refine V_astore hZ dX5_digest_144 (by first | rfl | exact isR_rf _) (by decide) (by first | rfl | simp [okp, cat_rf, cat_ref, cat_int, cat_null]) ?_
          refine V.lvc (by simp only [List.set_cons_zero, List.set_cons_succ, Nat.reduceAdd]; rfl) ?_
          refine V_aload hZ dX5_digest_146 rfl (by first | rfl | exact isR_rf _) ?_
          refine V_ifnullR hZ dX5_digest_148 ?_
          refine V_aload_n hZ 0 dX5_digest_151 rfl rfl (by first | rfl | exact isR_rf _) ?_
          refine V_lload_n hZ 1 dX5_digest_152 rfl rfl ?_
          refine V_aload hZ dX5_digest_153 rfl (by first | rfl | exact isR_rf _) ?_
          refine V_invVp hZ me_X5_digestedCopy mi_X5_digestedCopy ml_X5_311 (c_digestedCopy Z.1 R W hi _) dX5_digest_155 rfl rfl (by assumption) rfl rfl ⟨by decide, by decide⟩ (by first | decide | (simp [cat_rf, cat_ref, cat_int, cat_null]; done) | (simp [cat_rf, cat_ref, cat_int, cat_null, Value.category]; done)) ⟨by decide, by decide⟩ ?_
          refine V_lstore_n hZ 1 rfl dX5_digest_158 (by decide) (by first | rfl | simp [okp, cat_rf, cat_ref, cat_int, cat_null]) ?_
          refine V.lvc (by simp only [List.set_cons_zero, List.set_cons_succ, Nat.reduceAdd]; rfl) ?_
          refine V_iincv hZ dX5_digest_159 rfl (by decide) (by first | rfl | simp [okp, cat_rf, cat_ref, cat_int, cat_null]) (by first | exact nI_inc _ | rfl) ?_
          refine V.lvc (by simp only [List.set_cons_zero, List.set_cons_succ, Nat.reduceAdd]; rfl) ?_
          refine V_goto (tgt := 133) hZ dX5_digest_162 (by decide) ?_
          have e := ih (c + 1) (by omega) (some (.ref (adC S c)))
          rw [dgO_t hi] at e
          exact e
        · refine V_aaldn hZ dX5_digest_143 (by assumption) hcN (by decide) (v := .null) (rowf_ge hi) ?_
          refine V_astore hZ dX5_digest_144 (by first | rfl | exact isR_rf _) (by decide) (by first | rfl | simp [okp, cat_rf, cat_ref, cat_int, cat_null]) ?_
          refine V.lvc (by simp only [List.set_cons_zero, List.set_cons_succ, Nat.reduceAdd]; rfl) ?_
          refine V_aload hZ dX5_digest_146 rfl (by first | rfl | exact isR_rf _) ?_
          refine V_ifnullN (tgt := 159) hZ dX5_digest_148 (by decide) ?_
          refine V_iincv hZ dX5_digest_159 rfl (by decide) (by first | rfl | simp [okp, cat_rf, cat_ref, cat_int, cat_null]) (by first | exact nI_inc _ | rfl) ?_
          refine V.lvc (by simp only [List.set_cons_zero, List.set_cons_succ, Nat.reduceAdd]; rfl) ?_
          refine V_goto (tgt := 133) hZ dX5_digest_162 (by decide) ?_
          have e := ih (c + 1) (by omega) (some .null)
          rw [dgO_f hi] at e
          exact e
  have key3 : ∀ m c, c + m = 20 → ∀ w, V Z 89 [some (.ref (aH S)), some (.long (dgO (nRc S) (dgR S) c (digA S))), none, some (.ref (aRs S)), some (.int (nI 20)), some (.int (nI c)), w] [] h 0 0 := by
    intro m
    induction m with
    | zero =>
      intro c hcm  w
      have hc : c = 20 := by omega
      subst hc
      refine V_iload hZ dX5_digest_89 rfl ?_
      refine V_iload hZ dX5_digest_91 rfl ?_
      refine V_icmp_ge (tgt := 121) hZ dX5_digest_93 (by decide) (fun cE => ?_) (fun cE => ?_)
      · refine V_aload_n hZ 0 dX5_digest_121 rfl rfl (by first | rfl | exact isR_rf _) ?_
        refine V_getfield hZ fl_X5_23.r dX5_digest_122 (by assumption) (by rfl) ?_
        refine V_astore_n hZ 3 rfl dX5_digest_125 (by first | rfl | exact isR_rf _) (by decide) (by first | rfl | simp [okp, cat_rf, cat_ref, cat_int, cat_null]) ?_
        refine V.lvc (by simp only [List.set_cons_zero, List.set_cons_succ, Nat.reduceAdd]; rfl) ?_
        refine V_aload_n hZ 3 dX5_digest_126 rfl rfl (by first | rfl | exact isR_rf _) ?_
        refine V_alenR hZ dX5_digest_127 (by assumption) ?_
        refine V_istore hZ dX5_digest_128 (by decide) (by first | rfl | simp [okp, cat_rf, cat_ref, cat_int, cat_null]) ?_
        refine V.lvc (by simp only [List.set_cons_zero, List.set_cons_succ, Nat.reduceAdd]; rfl) ?_
        refine V_iconst (v := 0) hZ dX5_digest_130 (by decide) ?_
        refine V_istore hZ dX5_digest_131 (by decide) (by first | rfl | simp [okp, cat_rf, cat_ref, cat_int, cat_null]) ?_
        refine V.lvc (by simp only [List.set_cons_zero, List.set_cons_succ, Nat.reduceAdd]; rfl) ?_
        exact key4 30 0 rfl _
      · exact absurd (by decide) cE
    | succ m ih =>
      intro c hcm  w
      have hcN : c < 20 := by omega
      refine V_iload hZ dX5_digest_89 rfl ?_
      refine V_iload hZ dX5_digest_91 rfl ?_
      refine V_icmp_ge (tgt := 121) hZ dX5_digest_93 (by decide) (fun cE => ?_) (fun cE => ?_)
      · have cE2 : 20 ≤ c := (nI_leI (a := 20) (by decide) (by omega)).mp cE
        omega
      · refine V_aload_n hZ 3 dX5_digest_96 rfl rfl (by first | rfl | exact isR_rf _) ?_
        refine V_iload hZ dX5_digest_97 rfl ?_
        by_cases hi : c < nRc S
        · refine V_aaldn hZ dX5_digest_99 (by assumption) hcN (by decide) (v := .ref (adR S c)) (rowf_lt hi) ?_
          refine V_astore hZ dX5_digest_100 (by first | rfl | exact isR_rf _) (by decide) (by first | rfl | simp [okp, cat_rf, cat_ref, cat_int, cat_null]) ?_
          refine V.lvc (by simp only [List.set_cons_zero, List.set_cons_succ, Nat.reduceAdd]; rfl) ?_
          refine V_aload hZ dX5_digest_102 rfl (by first | rfl | exact isR_rf _) ?_
          refine V_ifnullR hZ dX5_digest_104 ?_
          refine V_aload_n hZ 0 dX5_digest_107 rfl rfl (by first | rfl | exact isR_rf _) ?_
          refine V_lload_n hZ 1 dX5_digest_108 rfl rfl ?_
          refine V_aload hZ dX5_digest_109 rfl (by first | rfl | exact isR_rf _) ?_
          refine V_invVp hZ me_X5_digestedRecord mi_X5_digestedRecord ml_X5_307 (c_digestedRecord Z.1 R W hi _) dX5_digest_111 rfl rfl (by assumption) rfl rfl ⟨by decide, by decide⟩ (by first | decide | (simp [cat_rf, cat_ref, cat_int, cat_null]; done) | (simp [cat_rf, cat_ref, cat_int, cat_null, Value.category]; done)) ⟨by decide, by decide⟩ ?_
          refine V_lstore_n hZ 1 rfl dX5_digest_114 (by decide) (by first | rfl | simp [okp, cat_rf, cat_ref, cat_int, cat_null]) ?_
          refine V.lvc (by simp only [List.set_cons_zero, List.set_cons_succ, Nat.reduceAdd]; rfl) ?_
          refine V_iincv hZ dX5_digest_115 rfl (by decide) (by first | rfl | simp [okp, cat_rf, cat_ref, cat_int, cat_null]) (by first | exact nI_inc _ | rfl) ?_
          refine V.lvc (by simp only [List.set_cons_zero, List.set_cons_succ, Nat.reduceAdd]; rfl) ?_
          refine V_goto (tgt := 89) hZ dX5_digest_118 (by decide) ?_
          have e := ih (c + 1) (by omega) (some (.ref (adR S c)))
          rw [dgO_t hi] at e
          exact e
        · refine V_aaldn hZ dX5_digest_99 (by assumption) hcN (by decide) (v := .null) (rowf_ge hi) ?_
          refine V_astore hZ dX5_digest_100 (by first | rfl | exact isR_rf _) (by decide) (by first | rfl | simp [okp, cat_rf, cat_ref, cat_int, cat_null]) ?_
          refine V.lvc (by simp only [List.set_cons_zero, List.set_cons_succ, Nat.reduceAdd]; rfl) ?_
          refine V_aload hZ dX5_digest_102 rfl (by first | rfl | exact isR_rf _) ?_
          refine V_ifnullN (tgt := 115) hZ dX5_digest_104 (by decide) ?_
          refine V_iincv hZ dX5_digest_115 rfl (by decide) (by first | rfl | simp [okp, cat_rf, cat_ref, cat_int, cat_null]) (by first | exact nI_inc _ | rfl) ?_
          refine V.lvc (by simp only [List.set_cons_zero, List.set_cons_succ, Nat.reduceAdd]; rfl) ?_
          refine V_goto (tgt := 89) hZ dX5_digest_118 (by decide) ?_
          have e := ih (c + 1) (by omega) (some .null)
          rw [dgO_f hi] at e
          exact e
  have key2 : ∀ m c, c + m = 16 → ∀ w, V Z 40 [some (.ref (aH S)), some (.long (dgO (nNm S) (fun k s => dg s (nI k)) c (digT S))), none, some (.ref (aNs S)), some (.int (nI 16)), some (.int (nI c)), w] [] h 0 0 := by
    intro m
    induction m with
    | zero =>
      intro c hcm  w
      have hc : c = 16 := by omega
      subst hc
      refine V_iload hZ dX5_digest_40 rfl ?_
      refine V_iload hZ dX5_digest_42 rfl ?_
      refine V_icmp_ge (tgt := 77) hZ dX5_digest_44 (by decide) (fun cE => ?_) (fun cE => ?_)
      · refine V_aload_n hZ 0 dX5_digest_77 rfl rfl (by first | rfl | exact isR_rf _) ?_
        refine V_getfield hZ fl_X5_17.r dX5_digest_78 (by assumption) (by rfl) ?_
        refine V_astore_n hZ 3 rfl dX5_digest_81 (by first | rfl | exact isR_rf _) (by decide) (by first | rfl | simp [okp, cat_rf, cat_ref, cat_int, cat_null]) ?_
        refine V.lvc (by simp only [List.set_cons_zero, List.set_cons_succ, Nat.reduceAdd]; rfl) ?_
        refine V_aload_n hZ 3 dX5_digest_82 rfl rfl (by first | rfl | exact isR_rf _) ?_
        refine V_alenR hZ dX5_digest_83 (by assumption) ?_
        refine V_istore hZ dX5_digest_84 (by decide) (by first | rfl | simp [okp, cat_rf, cat_ref, cat_int, cat_null]) ?_
        refine V.lvc (by simp only [List.set_cons_zero, List.set_cons_succ, Nat.reduceAdd]; rfl) ?_
        refine V_iconst (v := 0) hZ dX5_digest_86 (by decide) ?_
        refine V_istore hZ dX5_digest_87 (by decide) (by first | rfl | simp [okp, cat_rf, cat_ref, cat_int, cat_null]) ?_
        refine V.lvc (by simp only [List.set_cons_zero, List.set_cons_succ, Nat.reduceAdd]; rfl) ?_
        exact key3 20 0 rfl _
      · exact absurd (by decide) cE
    | succ m ih =>
      intro c hcm  w
      have hcN : c < 16 := by omega
      refine V_iload hZ dX5_digest_40 rfl ?_
      refine V_iload hZ dX5_digest_42 rfl ?_
      refine V_icmp_ge (tgt := 77) hZ dX5_digest_44 (by decide) (fun cE => ?_) (fun cE => ?_)
      · have cE2 : 16 ≤ c := (nI_leI (a := 16) (by decide) (by omega)).mp cE
        omega
      · refine V_aload_n hZ 3 dX5_digest_47 rfl rfl (by first | rfl | exact isR_rf _) ?_
        refine V_iload hZ dX5_digest_48 rfl ?_
        by_cases hi : c < nNm S
        · refine V_aaldn hZ dX5_digest_50 (by assumption) hcN (by decide) (v := .ref (adN S c)) (rowf_lt hi) ?_
          refine V_astore hZ dX5_digest_51 (by first | rfl | exact isR_rf _) (by decide) (by first | rfl | simp [okp, cat_rf, cat_ref, cat_int, cat_null]) ?_
          refine V.lvc (by simp only [List.set_cons_zero, List.set_cons_succ, Nat.reduceAdd]; rfl) ?_
          refine V_aload hZ dX5_digest_53 rfl (by first | rfl | exact isR_rf _) ?_
          refine V_ifnullR hZ dX5_digest_55 ?_
          have h6 := R.name hi
          refine V_lload_n hZ 1 dX5_digest_58 rfl rfl ?_
          refine V_aload hZ dX5_digest_59 rfl (by first | rfl | exact isR_rf _) ?_
          refine V_invVp hZ me_X2_stoodFor mi_X2_stoodFor ml_X5_61 (c_stoodFor Z.1 h h6) dX5_digest_61 rfl rfl (by assumption) rfl rfl ⟨by decide, by decide⟩ (by first | decide | (simp [cat_rf, cat_ref, cat_int, cat_null]; done) | (simp [cat_rf, cat_ref, cat_int, cat_null, Value.category]; done)) ⟨by decide, by decide⟩ ?_
          refine V_getfield hZ fl_X5_65 dX5_digest_64 (by assumption) (by rfl) ?_
          refine V_invSp hZ me_X5_digested ms_X5_digested ml_X5_303 (c_digested Z.1 h _ (nI c)) dX5_digest_67 rfl rfl ⟨by decide, by decide⟩ (by first | decide | (simp [cat_rf, cat_ref, cat_int, cat_null]; done) | (simp [cat_rf, cat_ref, cat_int, cat_null, Value.category]; done)) ⟨by decide, by decide⟩ ?_
          refine V_lstore_n hZ 1 rfl dX5_digest_70 (by decide) (by first | rfl | simp [okp, cat_rf, cat_ref, cat_int, cat_null]) ?_
          refine V.lvc (by simp only [List.set_cons_zero, List.set_cons_succ, Nat.reduceAdd]; rfl) ?_
          refine V_iincv hZ dX5_digest_71 rfl (by decide) (by first | rfl | simp [okp, cat_rf, cat_ref, cat_int, cat_null]) (by first | exact nI_inc _ | rfl) ?_
          refine V.lvc (by simp only [List.set_cons_zero, List.set_cons_succ, Nat.reduceAdd]; rfl) ?_
          refine V_goto (tgt := 40) hZ dX5_digest_74 (by decide) ?_
          have e := ih (c + 1) (by omega) (some (.ref (adN S c)))
          rw [dgO_t hi] at e
          exact e
        · refine V_aaldn hZ dX5_digest_50 (by assumption) hcN (by decide) (v := .null) (rowf_ge hi) ?_
          refine V_astore hZ dX5_digest_51 (by first | rfl | exact isR_rf _) (by decide) (by first | rfl | simp [okp, cat_rf, cat_ref, cat_int, cat_null]) ?_
          refine V.lvc (by simp only [List.set_cons_zero, List.set_cons_succ, Nat.reduceAdd]; rfl) ?_
          refine V_aload hZ dX5_digest_53 rfl (by first | rfl | exact isR_rf _) ?_
          refine V_ifnullN (tgt := 71) hZ dX5_digest_55 (by decide) ?_
          refine V_iincv hZ dX5_digest_71 rfl (by decide) (by first | rfl | simp [okp, cat_rf, cat_ref, cat_int, cat_null]) (by first | exact nI_inc _ | rfl) ?_
          refine V.lvc (by simp only [List.set_cons_zero, List.set_cons_succ, Nat.reduceAdd]; rfl) ?_
          refine V_goto (tgt := 40) hZ dX5_digest_74 (by decide) ?_
          have e := ih (c + 1) (by omega) (some .null)
          rw [dgO_f hi] at e
          exact e
  have key1 : ∀ m c, c + m = 10 → V Z 6 [some (.ref (aH S)), some (.long (dgN (totN S) c 982)), none, some (.int (nI c)), none, none, none] [] h 0 0 := by
    intro m
    induction m with
    | zero =>
      intro c hcm
      have hc : c = 10 := by omega
      subst hc
      refine V_iload_n hZ 3 dX5_digest_6 rfl rfl ?_
      refine V_bipush (v := 9) hZ dX5_digest_7 (by decide) ?_
      refine V_icmp_gt (tgt := 28) hZ dX5_digest_9 (by decide) (fun cE => ?_) (fun cE => ?_)
      · refine V_aload_n hZ 0 dX5_digest_28 rfl rfl (by first | rfl | exact isR_rf _) ?_
        refine V_getfield hZ fl_X5_11.r dX5_digest_29 (by assumption) (by rfl) ?_
        refine V_astore_n hZ 3 rfl dX5_digest_32 (by first | rfl | exact isR_rf _) (by decide) (by first | rfl | simp [okp, cat_rf, cat_ref, cat_int, cat_null]) ?_
        refine V.lvc (by simp only [List.set_cons_zero, List.set_cons_succ, Nat.reduceAdd]; rfl) ?_
        refine V_aload_n hZ 3 dX5_digest_33 rfl rfl (by first | rfl | exact isR_rf _) ?_
        refine V_alenR hZ dX5_digest_34 (by assumption) ?_
        refine V_istore hZ dX5_digest_35 (by decide) (by first | rfl | simp [okp, cat_rf, cat_ref, cat_int, cat_null]) ?_
        refine V.lvc (by simp only [List.set_cons_zero, List.set_cons_succ, Nat.reduceAdd]; rfl) ?_
        refine V_iconst (v := 0) hZ dX5_digest_37 (by decide) ?_
        refine V_istore hZ dX5_digest_38 (by decide) (by first | rfl | simp [okp, cat_rf, cat_ref, cat_int, cat_null]) ?_
        refine V.lvc (by simp only [List.set_cons_zero, List.set_cons_succ, Nat.reduceAdd]; rfl) ?_
        exact key2 16 0 rfl none
      · exact absurd (by decide) cE
    | succ m ih =>
      intro c hcm
      refine V_iload_n hZ 3 dX5_digest_6 rfl rfl ?_
      refine V_bipush (v := 9) hZ dX5_digest_7 (by decide) ?_
      refine V_icmp_gt (tgt := 28) hZ dX5_digest_9 (by decide) (fun cE => ?_) (fun cE => ?_)
      · exact absurd cE (nI_nlt (a := 9) (b := c) (by omega) (by decide))
      · refine V_lload_n hZ 1 dX5_digest_12 rfl rfl ?_
        refine V_aload_n hZ 0 dX5_digest_13 rfl rfl (by first | rfl | exact isR_rf _) ?_
        refine V_iload_n hZ 3 dX5_digest_14 rfl rfl ?_
        refine V_invVp hZ me_X5_total mi_X5_total ml_X5_277 (c_total Z.1 R W (show c < 10 by omega)) dX5_digest_15 rfl rfl (by assumption) rfl rfl ⟨by decide, by decide⟩ (by first | decide | (simp [cat_rf, cat_ref, cat_int, cat_null]; done) | (simp [cat_rf, cat_ref, cat_int, cat_null, Value.category]; done)) ⟨by decide, by decide⟩ ?_
        refine V_invSp hZ me_X5_digested ms_X5_digested ml_X5_303 (c_digested Z.1 h _ _) dX5_digest_18 rfl rfl ⟨by decide, by decide⟩ (by first | decide | (simp [cat_rf, cat_ref, cat_int, cat_null]; done) | (simp [cat_rf, cat_ref, cat_int, cat_null, Value.category]; done)) ⟨by decide, by decide⟩ ?_
        refine V_lstore_n hZ 1 rfl dX5_digest_21 (by decide) (by first | rfl | simp [okp, cat_rf, cat_ref, cat_int, cat_null]) ?_
        refine V.lvc (by simp only [List.set_cons_zero, List.set_cons_succ, Nat.reduceAdd]; rfl) ?_
        refine V_iincv hZ dX5_digest_22 rfl (by decide) (by first | rfl | simp [okp, cat_rf, cat_ref, cat_int, cat_null]) (by first | exact nI_inc _ | rfl) ?_
        refine V.lvc (by simp only [List.set_cons_zero, List.set_cons_succ, Nat.reduceAdd]; rfl) ?_
        refine V_goto (tgt := 6) hZ dX5_digest_25 (by decide) ?_
        exact ih (c + 1) (by omega)
  refine V_ldc2 hZ dX5_digest_0 ct_X5_301 ?_
  refine V_lstore_n hZ 1 rfl dX5_digest_3 (by decide) (by first | rfl | simp [okp, cat_rf, cat_ref, cat_int, cat_null]) ?_
  refine V.lvc (by simp only [List.set_cons_zero, List.set_cons_succ, Nat.reduceAdd]; rfl) ?_
  refine V_iconst (v := 0) hZ dX5_digest_4 (by decide) ?_
  refine V_istore_n hZ 3 rfl dX5_digest_5 (by decide) (by first | rfl | simp [okp, cat_rf, cat_ref, cat_int, cat_null]) ?_
  refine V.lvc (by simp only [List.set_cons_zero, List.set_cons_succ, Nat.reduceAdd]; rfl) ?_
  exact key1 10 0 rfl
end

