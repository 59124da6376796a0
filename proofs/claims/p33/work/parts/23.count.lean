/-! counting and adding over copies, records, readers -/
def cn (P : Nat → Bool) : Nat → Nat
  | 0 => 0
  | k + 1 => cn P k + (P k).toNat
theorem cn_t {P : Nat → Bool} {c : Nat} (h : P c = true) : cn P (c + 1) = cn P c + 1 := by simp [cn, h]
theorem cn_f {P : Nat → Bool} {c : Nat} (h : P c = false) : cn P (c + 1) = cn P c := by simp [cn, h]
theorem cn_le {P : Nat → Bool} (c : Nat) : cn P c ≤ c := by
  induction c with
  | zero => exact Nat.le_refl _
  | succ c ih =>
    have : (P c).toNat ≤ 1 := by cases P c <;> decide
    simp only [cn]; omega
def sm (f : Nat → Int32) : Nat → Int32
  | 0 => 0
  | k + 1 => sm f k + f k
theorem rdMap {S : St} {h : HP} (R : Rep S h) (W : Wf S) {a b : Option Nat} (ha : ∀ x, a = some x → x < nRd S) (hb : ∀ x, b = some x → x < nRd S) : a.map (adD S) = b.map (adD S) ↔ a = b := by
  cases a <;> cases b <;> simp
  rename_i x y
  exact ⟨fun h => R.rdrInj W (ha x rfl) (hb y rfl) h, fun h => by rw [h]⟩
theorem W_rec {S : St} (W : Wf S) {c : Nat} (hi : c < nCp S) : cpRc (cps S c) < nRc S := (W.2.2.2.2.2.2 c hi).1
theorem W_rdr {S : St} (W : Wf S) {c : Nat} (hi : c < nCp S) : ∀ r, cpRd (cps S c) = some r → r < nRd S := (W.2.2.2.2.2.2 c hi).2.1
theorem W_asd {S : St} (W : Wf S) {c : Nat} (hi : c < nCp S) : cpPl (cps S c) = 2 → cpRd (cps S c) ≠ none := (W.2.2.2.2.2.2 c hi).2.2
theorem recIff {S : St} {h : HP} (R : Rep S h) (W : Wf S) {i j : Nat} (hi : i < nRc S) (hj : j < nRc S) : adR S i = adR S j ↔ i = j := ⟨fun h => R.recInj W hi hj h, fun h => by rw [h]⟩
theorem rfIff {a b : Option Nat} : va_rf a = va_rf b ↔ a = b := by cases a <;> cases b <;> simp [va_rf]
theorem refIff {a b : Nat} : Value.ref a = Value.ref b ↔ a = b := ⟨fun h => Value.ref.inj h, fun h => by rw [h]⟩
section
variable (G : GC) {h : HP} {S : St} (R : Rep S h) (W : Wf S)
def atB (S : St) (pl : Int32) (c : Nat) : Bool := decide (c < nCp S ∧ cpPl (cps S c) = pl)
theorem c_copiesAt (R : Rep S h) (pl : Int32) : Calls G yX5_copiesAt cX5_copiesAt 7 (.some .int) 0 0 0 0 [.ref (aH S), .int pl] h (qV (.int (nI (cn (atB S pl) 30))) h) qX := by
  have h1 := R.hall
  have h2 := R.copies
  refine Calls_of1 (by decide +kernel) (by simp [cat_rf, cat_ref, cat_int, cat_null]) (by simp) (lv0 := [some (.ref (aH S)), some (.int pl), none, none, none, none, none]) rfl ?_
  intro Z hG hZ hE hN
  subst hG
  refine V_iconst (v := 0) hZ dX5_copiesAt_0 (by decide) ?_
  refine V_istore_n hZ 2 rfl dX5_copiesAt_1 (by decide) (by first | rfl | simp [okp, cat_rf, cat_ref, cat_int, cat_null]) ?_
  refine V.lvc (by simp only [List.set_cons_zero, List.set_cons_succ, Nat.reduceAdd]; rfl) ?_
  refine V_aload_n hZ 0 dX5_copiesAt_2 rfl rfl (by first | rfl | exact isR_rf _) ?_
  refine V_getfield hZ fl_X5_23.r dX5_copiesAt_3 (by assumption) (by rfl) ?_
  refine V_astore_n hZ 3 rfl dX5_copiesAt_6 (by first | rfl | exact isR_rf _) (by decide) (by first | rfl | simp [okp, cat_rf, cat_ref, cat_int, cat_null]) ?_
  refine V.lvc (by simp only [List.set_cons_zero, List.set_cons_succ, Nat.reduceAdd]; rfl) ?_
  refine V_aload_n hZ 3 dX5_copiesAt_7 rfl rfl (by first | rfl | exact isR_rf _) ?_
  refine V_alenR hZ dX5_copiesAt_8 (by assumption) ?_
  refine V_istore hZ dX5_copiesAt_9 (by decide) (by first | rfl | simp [okp, cat_rf, cat_ref, cat_int, cat_null]) ?_
  refine V.lvc (by simp only [List.set_cons_zero, List.set_cons_succ, Nat.reduceAdd]; rfl) ?_
  refine V_iconst (v := 0) hZ dX5_copiesAt_11 (by decide) ?_
  refine V_istore hZ dX5_copiesAt_12 (by decide) (by first | rfl | simp [okp, cat_rf, cat_ref, cat_int, cat_null]) ?_
  refine V.lvc (by simp only [List.set_cons_zero, List.set_cons_succ, Nat.reduceAdd]; rfl) ?_
  have key : ∀ m c, c + m = 30 → ∀ w, V Z 14 [some (.ref (aH S)), some (.int pl), some (.int (nI (cn (atB S pl) c))), some (.ref (aCs S)), some (.int (nI 30)), some (.int (nI c)), w] [] h 0 0 := by
    intro m
    induction m with
    | zero =>
      intro c hcm  w
      have hc : c = 30 := by omega
      subst hc
      refine V_iload hZ dX5_copiesAt_14 rfl ?_
      refine V_iload hZ dX5_copiesAt_16 rfl ?_
      refine V_icmp_ge (tgt := 50) hZ dX5_copiesAt_18 (by decide) (fun cE => ?_) (fun cE => ?_)
      · refine V_iload_n hZ 2 dX5_copiesAt_50 rfl rfl ?_
        refine V_iret hZ hE rfl (by rfl) dX5_copiesAt_51 (by decide) (by decide) ?_
        exact ⟨rfl, rfl⟩
      · exact absurd (by decide) cE
    | succ m ih =>
      intro c hcm  w
      have hcN : c < 30 := by omega
      refine V_iload hZ dX5_copiesAt_14 rfl ?_
      refine V_iload hZ dX5_copiesAt_16 rfl ?_
      refine V_icmp_ge (tgt := 50) hZ dX5_copiesAt_18 (by decide) (fun cE => ?_) (fun cE => ?_)
      · have cE2 : 30 ≤ c := (nI_leI (a := 30) (by decide) (by omega)).mp cE
        omega
      · refine V_aload_n hZ 3 dX5_copiesAt_21 rfl rfl (by first | rfl | exact isR_rf _) ?_
        refine V_iload hZ dX5_copiesAt_22 rfl ?_
        by_cases hi : c < nCp S
        · refine V_aaldn hZ dX5_copiesAt_24 (by assumption) hcN (by decide) (v := .ref (adC S c)) (rowf_lt hi) ?_
          refine V_astore hZ dX5_copiesAt_25 (by first | rfl | exact isR_rf _) (by decide) (by first | rfl | simp [okp, cat_rf, cat_ref, cat_int, cat_null]) ?_
          refine V.lvc (by simp only [List.set_cons_zero, List.set_cons_succ, Nat.reduceAdd]; rfl) ?_
          refine V_aload hZ dX5_copiesAt_27 rfl (by first | rfl | exact isR_rf _) ?_
          refine V_ifnullR hZ dX5_copiesAt_29 ?_
          have h3 := R.copy hi
          refine V_aload hZ dX5_copiesAt_32 rfl (by first | rfl | exact isR_rf _) ?_
          refine V_getfield hZ fl_X5_215.r dX5_copiesAt_34 (by assumption) (by rfl) ?_
          refine V_iload_n hZ 1 dX5_copiesAt_37 rfl rfl ?_
          refine V_icmp_ne (tgt := 44) hZ dX5_copiesAt_38 (by decide) (fun c1 => ?_) (fun c1 => ?_)
          · refine V_iincv hZ dX5_copiesAt_44 rfl (by decide) (by first | rfl | simp [okp, cat_rf, cat_ref, cat_int, cat_null]) (by first | exact nI_inc _ | rfl) ?_
            refine V.lvc (by simp only [List.set_cons_zero, List.set_cons_succ, Nat.reduceAdd]; rfl) ?_
            refine V_goto (tgt := 14) hZ dX5_copiesAt_47 (by decide) ?_
            have e := ih (c + 1) (by omega) (some (.ref (adC S c)))
            rw [cn_f (by simp [atB, c1])] at e
            exact e
          · refine V_iincv hZ dX5_copiesAt_41 rfl (by decide) (by first | rfl | simp [okp, cat_rf, cat_ref, cat_int, cat_null]) (by first | exact nI_inc _ | rfl) ?_
            refine V.lvc (by simp only [List.set_cons_zero, List.set_cons_succ, Nat.reduceAdd]; rfl) ?_
            refine V_iincv hZ dX5_copiesAt_44 rfl (by decide) (by first | rfl | simp [okp, cat_rf, cat_ref, cat_int, cat_null]) (by first | exact nI_inc _ | rfl) ?_
            refine V.lvc (by simp only [List.set_cons_zero, List.set_cons_succ, Nat.reduceAdd]; rfl) ?_
            refine V_goto (tgt := 14) hZ dX5_copiesAt_47 (by decide) ?_
            have e := ih (c + 1) (by omega) (some (.ref (adC S c)))
            rw [cn_t (by simp [atB, c1, hi])] at e
            exact e
        · refine V_aaldn hZ dX5_copiesAt_24 (by assumption) hcN (by decide) (v := .null) (rowf_ge hi) ?_
          refine V_astore hZ dX5_copiesAt_25 (by first | rfl | exact isR_rf _) (by decide) (by first | rfl | simp [okp, cat_rf, cat_ref, cat_int, cat_null]) ?_
          refine V.lvc (by simp only [List.set_cons_zero, List.set_cons_succ, Nat.reduceAdd]; rfl) ?_
          refine V_aload hZ dX5_copiesAt_27 rfl (by first | rfl | exact isR_rf _) ?_
          refine V_ifnullN (tgt := 44) hZ dX5_copiesAt_29 (by decide) ?_
          refine V_iincv hZ dX5_copiesAt_44 rfl (by decide) (by first | rfl | simp [okp, cat_rf, cat_ref, cat_int, cat_null]) (by first | exact nI_inc _ | rfl) ?_
          refine V.lvc (by simp only [List.set_cons_zero, List.set_cons_succ, Nat.reduceAdd]; rfl) ?_
          refine V_goto (tgt := 14) hZ dX5_copiesAt_47 (by decide) ?_
          have e := ih (c + 1) (by omega) (some .null)
          rw [cn_f (by simp [atB, hi])] at e
          exact e
  exact key 30 0 rfl none
/-- a reader's copies at a place -/
def ofB (S : St) (o : Option Nat) (pl : Int32) (c : Nat) : Bool := decide (c < nCp S ∧ cpPl (cps S c) = pl ∧ cpRd (cps S c) = o)
theorem c_copiesOf (R : Rep S h) (W : Wf S) {r : Nat} (hr : r < nRd S) (pl : Int32) : Calls G yX5_copiesOf cX5_copiesOf 8 (.some .int) 0 0 0 0 [.ref (aH S), .ref (adD S r), .int pl] h (qV (.int (nI (cn (ofB S (some r) pl) 30))) h) qX := by
  have h1 := R.hall
  have h2 := R.copies
  refine Calls_of1 (by decide +kernel) (by simp [cat_rf, cat_ref, cat_int, cat_null]) (by simp) (lv0 := [some (.ref (aH S)), some (.ref (adD S r)), some (.int pl), none, none, none, none, none]) rfl ?_
  intro Z hG hZ hE hN
  subst hG
  refine V_iconst (v := 0) hZ dX5_copiesOf_0 (by decide) ?_
  refine V_istore_n hZ 3 rfl dX5_copiesOf_1 (by decide) (by first | rfl | simp [okp, cat_rf, cat_ref, cat_int, cat_null]) ?_
  refine V.lvc (by simp only [List.set_cons_zero, List.set_cons_succ, Nat.reduceAdd]; rfl) ?_
  refine V_aload_n hZ 0 dX5_copiesOf_2 rfl rfl (by first | rfl | exact isR_rf _) ?_
  refine V_getfield hZ fl_X5_23.r dX5_copiesOf_3 (by assumption) (by rfl) ?_
  refine V_astore hZ dX5_copiesOf_6 (by first | rfl | exact isR_rf _) (by decide) (by first | rfl | simp [okp, cat_rf, cat_ref, cat_int, cat_null]) ?_
  refine V.lvc (by simp only [List.set_cons_zero, List.set_cons_succ, Nat.reduceAdd]; rfl) ?_
  refine V_aload hZ dX5_copiesOf_8 rfl (by first | rfl | exact isR_rf _) ?_
  refine V_alenR hZ dX5_copiesOf_10 (by assumption) ?_
  refine V_istore hZ dX5_copiesOf_11 (by decide) (by first | rfl | simp [okp, cat_rf, cat_ref, cat_int, cat_null]) ?_
  refine V.lvc (by simp only [List.set_cons_zero, List.set_cons_succ, Nat.reduceAdd]; rfl) ?_
  refine V_iconst (v := 0) hZ dX5_copiesOf_13 (by decide) ?_
  refine V_istore hZ dX5_copiesOf_14 (by decide) (by first | rfl | simp [okp, cat_rf, cat_ref, cat_int, cat_null]) ?_
  refine V.lvc (by simp only [List.set_cons_zero, List.set_cons_succ, Nat.reduceAdd]; rfl) ?_
  have key : ∀ m c, c + m = 30 → ∀ w, V Z 16 [some (.ref (aH S)), some (.ref (adD S r)), some (.int pl), some (.int (nI (cn (ofB S (some r) pl) c))), some (.ref (aCs S)), some (.int (nI 30)), some (.int (nI c)), w] [] h 0 0 := by
    intro m
    induction m with
    | zero =>
      intro c hcm  w
      have hc : c = 30 := by omega
      subst hc
      refine V_iload hZ dX5_copiesOf_16 rfl ?_
      refine V_iload hZ dX5_copiesOf_18 rfl ?_
      refine V_icmp_ge (tgt := 62) hZ dX5_copiesOf_20 (by decide) (fun cE => ?_) (fun cE => ?_)
      · refine V_iload_n hZ 3 dX5_copiesOf_62 rfl rfl ?_
        refine V_iret hZ hE rfl (by rfl) dX5_copiesOf_63 (by decide) (by decide) ?_
        exact ⟨rfl, rfl⟩
      · exact absurd (by decide) cE
    | succ m ih =>
      intro c hcm  w
      have hcN : c < 30 := by omega
      refine V_iload hZ dX5_copiesOf_16 rfl ?_
      refine V_iload hZ dX5_copiesOf_18 rfl ?_
      refine V_icmp_ge (tgt := 62) hZ dX5_copiesOf_20 (by decide) (fun cE => ?_) (fun cE => ?_)
      · have cE2 : 30 ≤ c := (nI_leI (a := 30) (by decide) (by omega)).mp cE
        omega
      · refine V_aload hZ dX5_copiesOf_23 rfl (by first | rfl | exact isR_rf _) ?_
        refine V_iload hZ dX5_copiesOf_25 rfl ?_
        by_cases hi : c < nCp S
        · refine V_aaldn hZ dX5_copiesOf_27 (by assumption) hcN (by decide) (v := .ref (adC S c)) (rowf_lt hi) ?_
          refine V_astore hZ dX5_copiesOf_28 (by first | rfl | exact isR_rf _) (by decide) (by first | rfl | simp [okp, cat_rf, cat_ref, cat_int, cat_null]) ?_
          refine V.lvc (by simp only [List.set_cons_zero, List.set_cons_succ, Nat.reduceAdd]; rfl) ?_
          refine V_aload hZ dX5_copiesOf_30 rfl (by first | rfl | exact isR_rf _) ?_
          refine V_ifnullR hZ dX5_copiesOf_32 ?_
          have h3 := R.copy hi
          refine V_aload hZ dX5_copiesOf_35 rfl (by first | rfl | exact isR_rf _) ?_
          refine V_getfield hZ fl_X5_215.r dX5_copiesOf_37 (by assumption) (by rfl) ?_
          refine V_iload_n hZ 2 dX5_copiesOf_40 rfl rfl ?_
          refine V_icmp_ne (tgt := 56) hZ dX5_copiesOf_41 (by decide) (fun c1 => ?_) (fun c1 => ?_)
          · refine V_iincv hZ dX5_copiesOf_56 rfl (by decide) (by first | rfl | simp [okp, cat_rf, cat_ref, cat_int, cat_null]) (by first | exact nI_inc _ | rfl) ?_
            refine V.lvc (by simp only [List.set_cons_zero, List.set_cons_succ, Nat.reduceAdd]; rfl) ?_
            refine V_goto (tgt := 16) hZ dX5_copiesOf_59 (by decide) ?_
            have e := ih (c + 1) (by omega) (some (.ref (adC S c)))
            rw [cn_f (by simp [ofB, c1])] at e
            exact e
          · refine V_aload hZ dX5_copiesOf_44 rfl (by first | rfl | exact isR_rf _) ?_
            refine V_getfield hZ fl_X5_202.r dX5_copiesOf_46 (by assumption) (by rfl) ?_
            refine V_aload_n hZ 1 dX5_copiesOf_49 rfl rfl (by first | rfl | exact isR_rf _) ?_
            refine V_acmp_ne (tgt := 56) hZ dX5_copiesOf_50 (by decide) (by first | rfl | exact isR_rf _) (by first | rfl | exact isR_rf _) (fun c2 => ?_) (fun c2 => ?_)
            · refine V_iincv hZ dX5_copiesOf_56 rfl (by decide) (by first | rfl | simp [okp, cat_rf, cat_ref, cat_int, cat_null]) (by first | exact nI_inc _ | rfl) ?_
              refine V.lvc (by simp only [List.set_cons_zero, List.set_cons_succ, Nat.reduceAdd]; rfl) ?_
              refine V_goto (tgt := 16) hZ dX5_copiesOf_59 (by decide) ?_
              have e := ih (c + 1) (by omega) (some (.ref (adC S c)))
              have c3 : ¬ cpRd (cps S c) = some r := fun z => c2 (by rw [z]; rfl)
              rw [cn_f (by simp [ofB, c3])] at e
              exact e
            · refine V_iincv hZ dX5_copiesOf_53 rfl (by decide) (by first | rfl | simp [okp, cat_rf, cat_ref, cat_int, cat_null]) (by first | exact nI_inc _ | rfl) ?_
              refine V.lvc (by simp only [List.set_cons_zero, List.set_cons_succ, Nat.reduceAdd]; rfl) ?_
              refine V_iincv hZ dX5_copiesOf_56 rfl (by decide) (by first | rfl | simp [okp, cat_rf, cat_ref, cat_int, cat_null]) (by first | exact nI_inc _ | rfl) ?_
              refine V.lvc (by simp only [List.set_cons_zero, List.set_cons_succ, Nat.reduceAdd]; rfl) ?_
              refine V_goto (tgt := 16) hZ dX5_copiesOf_59 (by decide) ?_
              have e := ih (c + 1) (by omega) (some (.ref (adC S c)))
              have c3 : cpRd (cps S c) = some r := (rdMap R W (W_rdr W hi) (fun x hx => by cases hx; exact hr)).mp (rfIff.mp (c2.trans (show Value.ref (adD S r) = va_rf ((some r).map (adD S)) from rfl)))
              rw [cn_t (by simp [ofB, c1, c3, hi])] at e
              exact e
        · refine V_aaldn hZ dX5_copiesOf_27 (by assumption) hcN (by decide) (v := .null) (rowf_ge hi) ?_
          refine V_astore hZ dX5_copiesOf_28 (by first | rfl | exact isR_rf _) (by decide) (by first | rfl | simp [okp, cat_rf, cat_ref, cat_int, cat_null]) ?_
          refine V.lvc (by simp only [List.set_cons_zero, List.set_cons_succ, Nat.reduceAdd]; rfl) ?_
          refine V_aload hZ dX5_copiesOf_30 rfl (by first | rfl | exact isR_rf _) ?_
          refine V_ifnullN (tgt := 56) hZ dX5_copiesOf_32 (by decide) ?_
          refine V_iincv hZ dX5_copiesOf_56 rfl (by decide) (by first | rfl | simp [okp, cat_rf, cat_ref, cat_int, cat_null]) (by first | exact nI_inc _ | rfl) ?_
          refine V.lvc (by simp only [List.set_cons_zero, List.set_cons_succ, Nat.reduceAdd]; rfl) ?_
          refine V_goto (tgt := 16) hZ dX5_copiesOf_59 (by decide) ?_
          have e := ih (c + 1) (by omega) (some .null)
          rw [cn_f (by simp [ofB, hi])] at e
          exact e
  exact key 30 0 rfl none
abbrev lateC (S : St) (c : Nat) (d : Int32) : Int32 := lateN (cpPl (cps S c)) (cpDy (cps S c)) d
def lateB (S : St) (r : Nat) (c : Nat) : Bool := decide (c < nCp S ∧ cpRd (cps S c) = some r ∧ 0 < lateC S c (tdy S))
theorem c_lateCopiesOf (R : Rep S h) (W : Wf S) {r : Nat} (hr : r < nRd S) : Calls G yX5_lateCopiesOf cX5_lateCopiesOf 7 (.some .int) 1 21 0 0 [.ref (aH S), .ref (adD S r)] h (qV (.int (nI (cn (lateB S r) 30))) h) qX := by
  have h1 := R.hall
  have h2 := R.copies
  refine Calls_of1 (by decide +kernel) (by simp [cat_rf, cat_ref, cat_int, cat_null]) (by simp) (lv0 := [some (.ref (aH S)), some (.ref (adD S r)), none, none, none, none, none]) rfl ?_
  intro Z hG hZ hE hN
  subst hG
  refine V_iconst (v := 0) hZ dX5_lateCopiesOf_0 (by decide) ?_
  refine V_istore_n hZ 2 rfl dX5_lateCopiesOf_1 (by decide) (by first | rfl | simp [okp, cat_rf, cat_ref, cat_int, cat_null]) ?_
  refine V.lvc (by simp only [List.set_cons_zero, List.set_cons_succ, Nat.reduceAdd]; rfl) ?_
  refine V_aload_n hZ 0 dX5_lateCopiesOf_2 rfl rfl (by first | rfl | exact isR_rf _) ?_
  refine V_getfield hZ fl_X5_23.r dX5_lateCopiesOf_3 (by assumption) (by rfl) ?_
  refine V_astore_n hZ 3 rfl dX5_lateCopiesOf_6 (by first | rfl | exact isR_rf _) (by decide) (by first | rfl | simp [okp, cat_rf, cat_ref, cat_int, cat_null]) ?_
  refine V.lvc (by simp only [List.set_cons_zero, List.set_cons_succ, Nat.reduceAdd]; rfl) ?_
  refine V_aload_n hZ 3 dX5_lateCopiesOf_7 rfl rfl (by first | rfl | exact isR_rf _) ?_
  refine V_alenR hZ dX5_lateCopiesOf_8 (by assumption) ?_
  refine V_istore hZ dX5_lateCopiesOf_9 (by decide) (by first | rfl | simp [okp, cat_rf, cat_ref, cat_int, cat_null]) ?_
  refine V.lvc (by simp only [List.set_cons_zero, List.set_cons_succ, Nat.reduceAdd]; rfl) ?_
  refine V_iconst (v := 0) hZ dX5_lateCopiesOf_11 (by decide) ?_
  refine V_istore hZ dX5_lateCopiesOf_12 (by decide) (by first | rfl | simp [okp, cat_rf, cat_ref, cat_int, cat_null]) ?_
  refine V.lvc (by simp only [List.set_cons_zero, List.set_cons_succ, Nat.reduceAdd]; rfl) ?_
  have key : ∀ m c, c + m = 30 → ∀ w, V Z 14 [some (.ref (aH S)), some (.ref (adD S r)), some (.int (nI (cn (lateB S r) c))), some (.ref (aCs S)), some (.int (nI 30)), some (.int (nI c)), w] [] h 0 0 := by
    intro m
    induction m with
    | zero =>
      intro c hcm  w
      have hc : c = 30 := by omega
      subst hc
      refine V_iload hZ dX5_lateCopiesOf_14 rfl ?_
      refine V_iload hZ dX5_lateCopiesOf_16 rfl ?_
      refine V_icmp_ge (tgt := 62) hZ dX5_lateCopiesOf_18 (by decide) (fun cE => ?_) (fun cE => ?_)
      · refine V_iload_n hZ 2 dX5_lateCopiesOf_62 rfl rfl ?_
        refine V_iret hZ hE rfl (by rfl) dX5_lateCopiesOf_63 (by decide) (by decide) ?_
        exact ⟨rfl, rfl⟩
      · exact absurd (by decide) cE
    | succ m ih =>
      intro c hcm  w
      have hcN : c < 30 := by omega
      refine V_iload hZ dX5_lateCopiesOf_14 rfl ?_
      refine V_iload hZ dX5_lateCopiesOf_16 rfl ?_
      refine V_icmp_ge (tgt := 62) hZ dX5_lateCopiesOf_18 (by decide) (fun cE => ?_) (fun cE => ?_)
      · have cE2 : 30 ≤ c := (nI_leI (a := 30) (by decide) (by omega)).mp cE
        omega
      · refine V_aload_n hZ 3 dX5_lateCopiesOf_21 rfl rfl (by first | rfl | exact isR_rf _) ?_
        refine V_iload hZ dX5_lateCopiesOf_22 rfl ?_
        by_cases hi : c < nCp S
        · refine V_aaldn hZ dX5_lateCopiesOf_24 (by assumption) hcN (by decide) (v := .ref (adC S c)) (rowf_lt hi) ?_
          refine V_astore hZ dX5_lateCopiesOf_25 (by first | rfl | exact isR_rf _) (by decide) (by first | rfl | simp [okp, cat_rf, cat_ref, cat_int, cat_null]) ?_
          refine V.lvc (by simp only [List.set_cons_zero, List.set_cons_succ, Nat.reduceAdd]; rfl) ?_
          refine V_aload hZ dX5_lateCopiesOf_27 rfl (by first | rfl | exact isR_rf _) ?_
          refine V_ifnullR hZ dX5_lateCopiesOf_29 ?_
          have h3 := R.copy hi
          refine V_aload hZ dX5_lateCopiesOf_32 rfl (by first | rfl | exact isR_rf _) ?_
          refine V_getfield hZ fl_X5_202.r dX5_lateCopiesOf_34 (by assumption) (by rfl) ?_
          refine V_aload_n hZ 1 dX5_lateCopiesOf_37 rfl rfl (by first | rfl | exact isR_rf _) ?_
          refine V_acmp_ne (tgt := 56) hZ dX5_lateCopiesOf_38 (by decide) (by first | rfl | exact isR_rf _) (by first | rfl | exact isR_rf _) (fun c2 => ?_) (fun c2 => ?_)
          · refine V_iincv hZ dX5_lateCopiesOf_56 rfl (by decide) (by first | rfl | simp [okp, cat_rf, cat_ref, cat_int, cat_null]) (by first | exact nI_inc _ | rfl) ?_
            refine V.lvc (by simp only [List.set_cons_zero, List.set_cons_succ, Nat.reduceAdd]; rfl) ?_
            refine V_goto (tgt := 14) hZ dX5_lateCopiesOf_59 (by decide) ?_
            have e := ih (c + 1) (by omega) (some (.ref (adC S c)))
            have c3 : ¬ cpRd (cps S c) = some r := fun z => c2 (by rw [z]; rfl)
            rw [cn_f (by simp [lateB, c3])] at e
            exact e
          · have c3 : cpRd (cps S c) = some r := (rdMap R W (W_rdr W hi) (fun x hx => by cases hx; exact hr)).mp (rfIff.mp (c2.trans (show Value.ref (adD S r) = va_rf ((some r).map (adD S)) from rfl)))
            refine V_aload hZ dX5_lateCopiesOf_41 rfl (by first | rfl | exact isR_rf _) ?_
            refine V_aload_n hZ 0 dX5_lateCopiesOf_43 rfl rfl (by first | rfl | exact isR_rf _) ?_
            refine V_getfield hZ fl_X5_181.r dX5_lateCopiesOf_44 (by assumption) (by rfl) ?_
            refine V_invVp hZ me_X1_daysLateOn mi_X1_daysLateOn ml_X5_341 (c_daysLateOn Z.1 h h3 (tdy S)) dX5_lateCopiesOf_47 rfl rfl (by assumption) rfl rfl ⟨by decide, by decide⟩ (by first | decide | simp [cat_rf, cat_ref, cat_int, cat_null]) ⟨by decide, by decide⟩ ?_
            refine V_if_le (tgt := 56) hZ dX5_lateCopiesOf_50 (by decide) (fun c4 => ?_) (fun c4 => ?_)
            · refine V_iincv hZ dX5_lateCopiesOf_56 rfl (by decide) (by first | rfl | simp [okp, cat_rf, cat_ref, cat_int, cat_null]) (by first | exact nI_inc _ | rfl) ?_
              refine V.lvc (by simp only [List.set_cons_zero, List.set_cons_succ, Nat.reduceAdd]; rfl) ?_
              refine V_goto (tgt := 14) hZ dX5_lateCopiesOf_59 (by decide) ?_
              have e := ih (c + 1) (by omega) (some (.ref (adC S c)))
              rw [cn_f (by simp only [lateB, decide_eq_false_iff_not]; exact fun z => Int32.not_le.mpr z.2.2 c4)] at e
              exact e
            · refine V_iincv hZ dX5_lateCopiesOf_53 rfl (by decide) (by first | rfl | simp [okp, cat_rf, cat_ref, cat_int, cat_null]) (by first | exact nI_inc _ | rfl) ?_
              refine V.lvc (by simp only [List.set_cons_zero, List.set_cons_succ, Nat.reduceAdd]; rfl) ?_
              refine V_iincv hZ dX5_lateCopiesOf_56 rfl (by decide) (by first | rfl | simp [okp, cat_rf, cat_ref, cat_int, cat_null]) (by first | exact nI_inc _ | rfl) ?_
              refine V.lvc (by simp only [List.set_cons_zero, List.set_cons_succ, Nat.reduceAdd]; rfl) ?_
              refine V_goto (tgt := 14) hZ dX5_lateCopiesOf_59 (by decide) ?_
              have e := ih (c + 1) (by omega) (some (.ref (adC S c)))
              rw [cn_t (by simp only [lateB, decide_eq_true_eq]; exact ⟨hi, c3, Int32.not_le.mp c4⟩)] at e
              exact e
        · refine V_aaldn hZ dX5_lateCopiesOf_24 (by assumption) hcN (by decide) (v := .null) (rowf_ge hi) ?_
          refine V_astore hZ dX5_lateCopiesOf_25 (by first | rfl | exact isR_rf _) (by decide) (by first | rfl | simp [okp, cat_rf, cat_ref, cat_int, cat_null]) ?_
          refine V.lvc (by simp only [List.set_cons_zero, List.set_cons_succ, Nat.reduceAdd]; rfl) ?_
          refine V_aload hZ dX5_lateCopiesOf_27 rfl (by first | rfl | exact isR_rf _) ?_
          refine V_ifnullN (tgt := 56) hZ dX5_lateCopiesOf_29 (by decide) ?_
          refine V_iincv hZ dX5_lateCopiesOf_56 rfl (by decide) (by first | rfl | simp [okp, cat_rf, cat_ref, cat_int, cat_null]) (by first | exact nI_inc _ | rfl) ?_
          refine V.lvc (by simp only [List.set_cons_zero, List.set_cons_succ, Nat.reduceAdd]; rfl) ?_
          refine V_goto (tgt := 14) hZ dX5_lateCopiesOf_59 (by decide) ?_
          have e := ih (c + 1) (by omega) (some .null)
          rw [cn_f (by simp [lateB, hi])] at e
          exact e
  exact key 30 0 rfl none
def fineF (S : St) (r : Nat) (c : Nat) : Int32 := if c < nCp S ∧ cpRd (cps S c) = some r then fineN (cpPl (cps S c)) (cpDy (cps S c)) (tdy S) else 0
theorem sm_z {f : Nat → Int32} {c : Nat} (h : f c = 0) : sm f (c + 1) = sm f c := by simp [sm, h]
theorem c_finesOf (R : Rep S h) (W : Wf S) {r : Nat} (hr : r < nRd S) : Calls G yX5_finesOf cX5_finesOf 7 (.some .int) 2 42 0 0 [.ref (aH S), .ref (adD S r)] h (qV (.int (sm (fineF S r) 30)) h) qX := by
  have h1 := R.hall
  have h2 := R.copies
  refine Calls_of1 (by decide +kernel) (by simp [cat_rf, cat_ref, cat_int, cat_null]) (by simp) (lv0 := [some (.ref (aH S)), some (.ref (adD S r)), none, none, none, none, none]) rfl ?_
  intro Z hG hZ hE hN
  subst hG
  refine V_iconst (v := 0) hZ dX5_finesOf_0 (by decide) ?_
  refine V_istore_n hZ 2 rfl dX5_finesOf_1 (by decide) (by first | rfl | simp [okp, cat_rf, cat_ref, cat_int, cat_null]) ?_
  refine V.lvc (by simp only [List.set_cons_zero, List.set_cons_succ, Nat.reduceAdd]; rfl) ?_
  refine V_aload_n hZ 0 dX5_finesOf_2 rfl rfl (by first | rfl | exact isR_rf _) ?_
  refine V_getfield hZ fl_X5_23.r dX5_finesOf_3 (by assumption) (by rfl) ?_
  refine V_astore_n hZ 3 rfl dX5_finesOf_6 (by first | rfl | exact isR_rf _) (by decide) (by first | rfl | simp [okp, cat_rf, cat_ref, cat_int, cat_null]) ?_
  refine V.lvc (by simp only [List.set_cons_zero, List.set_cons_succ, Nat.reduceAdd]; rfl) ?_
  refine V_aload_n hZ 3 dX5_finesOf_7 rfl rfl (by first | rfl | exact isR_rf _) ?_
  refine V_alenR hZ dX5_finesOf_8 (by assumption) ?_
  refine V_istore hZ dX5_finesOf_9 (by decide) (by first | rfl | simp [okp, cat_rf, cat_ref, cat_int, cat_null]) ?_
  refine V.lvc (by simp only [List.set_cons_zero, List.set_cons_succ, Nat.reduceAdd]; rfl) ?_
  refine V_iconst (v := 0) hZ dX5_finesOf_11 (by decide) ?_
  refine V_istore hZ dX5_finesOf_12 (by decide) (by first | rfl | simp [okp, cat_rf, cat_ref, cat_int, cat_null]) ?_
  refine V.lvc (by simp only [List.set_cons_zero, List.set_cons_succ, Nat.reduceAdd]; rfl) ?_
  have key : ∀ m c, c + m = 30 → ∀ w, V Z 14 [some (.ref (aH S)), some (.ref (adD S r)), some (.int (sm (fineF S r) c)), some (.ref (aCs S)), some (.int (nI 30)), some (.int (nI c)), w] [] h 0 0 := by
    intro m
    induction m with
    | zero =>
      intro c hcm  w
      have hc : c = 30 := by omega
      subst hc
      refine V_iload hZ dX5_finesOf_14 rfl ?_
      refine V_iload hZ dX5_finesOf_16 rfl ?_
      refine V_icmp_ge (tgt := 59) hZ dX5_finesOf_18 (by decide) (fun cE => ?_) (fun cE => ?_)
      · refine V_iload_n hZ 2 dX5_finesOf_59 rfl rfl ?_
        refine V_iret hZ hE rfl (by rfl) dX5_finesOf_60 (by decide) (by decide) ?_
        exact ⟨rfl, rfl⟩
      · exact absurd (by decide) cE
    | succ m ih =>
      intro c hcm  w
      have hcN : c < 30 := by omega
      refine V_iload hZ dX5_finesOf_14 rfl ?_
      refine V_iload hZ dX5_finesOf_16 rfl ?_
      refine V_icmp_ge (tgt := 59) hZ dX5_finesOf_18 (by decide) (fun cE => ?_) (fun cE => ?_)
      · have cE2 : 30 ≤ c := (nI_leI (a := 30) (by decide) (by omega)).mp cE
        omega
      · refine V_aload_n hZ 3 dX5_finesOf_21 rfl rfl (by first | rfl | exact isR_rf _) ?_
        refine V_iload hZ dX5_finesOf_22 rfl ?_
        by_cases hi : c < nCp S
        · refine V_aaldn hZ dX5_finesOf_24 (by assumption) hcN (by decide) (v := .ref (adC S c)) (rowf_lt hi) ?_
          refine V_astore hZ dX5_finesOf_25 (by first | rfl | exact isR_rf _) (by decide) (by first | rfl | simp [okp, cat_rf, cat_ref, cat_int, cat_null]) ?_
          refine V.lvc (by simp only [List.set_cons_zero, List.set_cons_succ, Nat.reduceAdd]; rfl) ?_
          refine V_aload hZ dX5_finesOf_27 rfl (by first | rfl | exact isR_rf _) ?_
          refine V_ifnullR hZ dX5_finesOf_29 ?_
          have h3 := R.copy hi
          refine V_aload hZ dX5_finesOf_32 rfl (by first | rfl | exact isR_rf _) ?_
          refine V_getfield hZ fl_X5_202.r dX5_finesOf_34 (by assumption) (by rfl) ?_
          refine V_aload_n hZ 1 dX5_finesOf_37 rfl rfl (by first | rfl | exact isR_rf _) ?_
          refine V_acmp_ne (tgt := 53) hZ dX5_finesOf_38 (by decide) (by first | rfl | exact isR_rf _) (by first | rfl | exact isR_rf _) (fun c2 => ?_) (fun c2 => ?_)
          · refine V_iincv hZ dX5_finesOf_53 rfl (by decide) (by first | rfl | simp [okp, cat_rf, cat_ref, cat_int, cat_null]) (by first | exact nI_inc _ | rfl) ?_
            refine V.lvc (by simp only [List.set_cons_zero, List.set_cons_succ, Nat.reduceAdd]; rfl) ?_
            refine V_goto (tgt := 14) hZ dX5_finesOf_56 (by decide) ?_
            have e := ih (c + 1) (by omega) (some (.ref (adC S c)))
            have c3 : ¬ cpRd (cps S c) = some r := fun z => c2 (by rw [z]; rfl)
            rw [sm_z (by simp [fineF, c3])] at e
            exact e
          · have c3 : cpRd (cps S c) = some r := (rdMap R W (W_rdr W hi) (fun x hx => by cases hx; exact hr)).mp (rfIff.mp (c2.trans (show Value.ref (adD S r) = va_rf ((some r).map (adD S)) from rfl)))
            refine V_iload_n hZ 2 dX5_finesOf_41 rfl rfl ?_
            refine V_aload hZ dX5_finesOf_42 rfl (by first | rfl | exact isR_rf _) ?_
            refine V_aload_n hZ 0 dX5_finesOf_44 rfl rfl (by first | rfl | exact isR_rf _) ?_
            refine V_getfield hZ fl_X5_181.r dX5_finesOf_45 (by assumption) (by rfl) ?_
            refine V_invVp hZ me_X1_fineOn mi_X1_fineOn ml_X5_220 (c_fineOn Z.1 h h3 (tdy S)) dX5_finesOf_48 rfl rfl (by assumption) rfl rfl ⟨by decide, by decide⟩ (by first | decide | simp [cat_rf, cat_ref, cat_int, cat_null]) ⟨by decide, by decide⟩ ?_
            refine V_iadd hZ dX5_finesOf_51 ?_
            refine V_istore_n hZ 2 rfl dX5_finesOf_52 (by decide) (by first | rfl | simp [okp, cat_rf, cat_ref, cat_int, cat_null]) ?_
            refine V.lvc (by simp only [List.set_cons_zero, List.set_cons_succ, Nat.reduceAdd]; rfl) ?_
            refine V_iincv hZ dX5_finesOf_53 rfl (by decide) (by first | rfl | simp [okp, cat_rf, cat_ref, cat_int, cat_null]) (by first | exact nI_inc _ | rfl) ?_
            refine V.lvc (by simp only [List.set_cons_zero, List.set_cons_succ, Nat.reduceAdd]; rfl) ?_
            refine V_goto (tgt := 14) hZ dX5_finesOf_56 (by decide) ?_
            have e := ih (c + 1) (by omega) (some (.ref (adC S c)))
            have ef : fineF S r c = fineN (cpPl (cps S c)) (cpDy (cps S c)) (tdy S) := by simp [fineF, hi, c3]
            simp only [sm, ef] at e
            exact e
        · refine V_aaldn hZ dX5_finesOf_24 (by assumption) hcN (by decide) (v := .null) (rowf_ge hi) ?_
          refine V_astore hZ dX5_finesOf_25 (by first | rfl | exact isR_rf _) (by decide) (by first | rfl | simp [okp, cat_rf, cat_ref, cat_int, cat_null]) ?_
          refine V.lvc (by simp only [List.set_cons_zero, List.set_cons_succ, Nat.reduceAdd]; rfl) ?_
          refine V_aload hZ dX5_finesOf_27 rfl (by first | rfl | exact isR_rf _) ?_
          refine V_ifnullN (tgt := 53) hZ dX5_finesOf_29 (by decide) ?_
          refine V_iincv hZ dX5_finesOf_53 rfl (by decide) (by first | rfl | simp [okp, cat_rf, cat_ref, cat_int, cat_null]) (by first | exact nI_inc _ | rfl) ?_
          refine V.lvc (by simp only [List.set_cons_zero, List.set_cons_succ, Nat.reduceAdd]; rfl) ?_
          refine V_goto (tgt := 14) hZ dX5_finesOf_56 (by decide) ?_
          have e := ih (c + 1) (by omega) (some .null)
          rw [sm_z (by simp [fineF, hi])] at e
          exact e
  exact key 30 0 rfl none
end

