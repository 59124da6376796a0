/-! what one turn does -/
/-- how a state follows another -/
def NX (Q : St → Prop) (S T : St) : Prop := Q T ∧ Wf T ∧ aH T = aH S ∧ ¬ tdy T < tdy S ∧ nCp S ≤ nCp T ∧ nRc S ≤ nRc T ∧ nRd T = nRd S
theorem NX.w {Q : St → Prop} {S T : St} (h : NX Q S T) : Wf T := h.2.1
theorem NX.a {Q : St → Prop} {S T : St} (h : NX Q S T) : aH T = aH S := h.2.2.1
theorem NX.c {Q : St → Prop} {S T : St} (h : NX Q S T) {c : Nat} (hc : c < nCp S) : c < nCp T := Nat.lt_of_lt_of_le hc h.2.2.2.2.1
theorem NX.r {Q : St → Prop} {S T : St} (h : NX Q S T) {c : Nat} (hc : c < nRc S) : c < nRc T := Nat.lt_of_lt_of_le hc h.2.2.2.2.2.1
theorem NX.d {Q : St → Prop} {S T : St} (h : NX Q S T) {c : Nat} (hc : c < nRd S) : c < nRd T := by rw [h.2.2.2.2.2.2]; exact hc
section
variable (Q : St → Prop) (S : St)
def AoCopy : Prop := ∀ q i p, i < nRc S → rcWe (rcs S i) = none → nCp S < 30 → 1 ≤ p → p ≤ 80 → NX Q S (freeS (addCp S q (newC i (nI p))) (nCp S))
def AoLend : Prop := ∀ x c, x < nRd S → c < nCp S → reasonN S x c = 0 → NX Q S (lendS S x c) ∧ cpPl (cps (lendS S x c) c) = 1 ∧ cpRd (cps (lendS S x c) c) = some x ∧ lateC (lendS S x c) c (tdy (lendS S x c)) = 0
def AoRenew : Prop := ∀ c x, c < nCp S → cpRd (cps S c) = some x → renewB S c = true → NX Q S (renS S c x) ∧ ¬ cpRn (cps (renS S c x) c) ≤ 0 ∧ ¬ 3 ≤ cpRn (cps (renS S c x) c)
def AoBack : Prop := ∀ c x, c < nCp S → cpPl (cps S c) = 1 → cpRd (cps S c) = some x → NX Q S (backS S c x) ∧ fineN (cpPl (cps S c)) (cpDy (cps S c)) (tdy S) = fineInN S c (nI 0) ∧ ¬ 40 < fineInN S c (nI 0) ∧ (cpPl (cps (backS S c x) c) = 0 ∨ cpPl (cps (backS S c x) c) = 2)
def AoAwait : Prop := ∀ x i, x < nRd S → i < nRc S → x ∉ lin S (live S i) → fN (hasB S x (live S i)) 30 0 = none → NX Q S (awaitS S x (live S i)) ∧ ∀ c, fN (inB (joinS S x (live S i)) (live S i)) 30 0 = some c → c < nCp S ∧ cpPl (cps (awaitS S x (live S i)) c) = 2 ∧ cpRd (cps (awaitS S x (live S i)) c) = some x ∧ x ∈ lin (awaitS S x (live S i)) (live (awaitS S x (live S i)) i) ∧ noneA (awaitS S x (live S i)) (live (awaitS S x (live S i)) i) x = false
def AoLeave : Prop := ∀ x i, x < nRd S → i < nRc S → x ∈ lin S (live S i) → NX Q S (endS S x (live S i)) ∧ live (endS S x (live S i)) i = live S i
def AoPass : Prop := ∀ d, 1 ≤ d → d ≤ 20 → NX Q S (passS d S).1 ∧ (passS d S).2 = cn (lostB S (nI d)) 30 ∧ totN (passS d S).1 8 = totN S 8 + nI (cn (lostB S (nI d)) 30)
def AoFind : Prop := ∀ c x, c < nCp S → cpPl (cps S c) = 3 → cpRd (cps S c) = some x → NX Q S (findS S c x) ∧ (cpPl (cps (findS S c x) c) = 0 ∨ cpPl (cps (findS S c x) c) = 2)
def AoPay : Prop := ∀ x a, x < nRd S → ¬ a < 1 → ¬ rdOw (rds S x) < a → NX Q S (payS S x a)
def AoRec : Prop := ∀ q q2 q3 t, nRc S < 20 → 1 ≤ t → t ≤ 100 → NX Q S (addRc S q q2 q3 (none, nI t, nI 50, none, 0)) ∧ ¬ nI (nRc S) < totN (addRc S q q2 q3 (none, nI t, nI 50, none, 0)) 2 - 1
def AoLay : Prop := ∀ a b, a < nRc S → b < nRc S → rcWe (rcs S a) = none → rcWe (rcs S b) = none → a ≠ b → NX Q S (layS S a b) ∧ live (layS S a b) a = b
def AoAll : Prop := NX Q S S ∧ nRd S = 4 ∧ ¬ totN S 2 ≤ 0 ∧ AoCopy Q S ∧ AoLend Q S ∧ AoRenew Q S ∧ AoBack Q S ∧ AoAwait Q S ∧ AoLeave Q S ∧ AoPass Q S ∧ AoFind Q S ∧ AoPay Q S ∧ AoRec Q S ∧ AoLay Q S
end
theorem maxI_0 (x : Int32) : ¬ maxI 0 x < 0 := by
  unfold maxI
  split
  · rename_i h
    rw [Int32.lt_iff_toInt_lt] at h ⊢
    omega
  · decide
theorem maxI_1 {n : Nat} (hn : n < 2 ^ 31) : maxI 1 (nI n) = nI (max 1 n) := by
  unfold maxI
  have h1 : (1 : Int32) = nI 1 := rfl
  split
  · rename_i h
    rw [h1, nI_ltI (by decide) hn] at h
    rw [Nat.max_eq_right (by omega)]
  · rename_i h
    rw [h1, nI_ltI (by decide) hn] at h
    rw [Nat.max_eq_left (by omega)]; rfl
theorem rem2 {p : Int32} (h : p = 0 ∨ p = 2) : p - p / 2 * 2 = 0 := by
  rcases h with rfl | rfl <;> decide

theorem c_act (G : GC) {h : HP} {S : St} {Q : St → Prop} (R : Rep S h) (W : Wf S) (hA : AoAll Q S) (x : Int32) : CallsH G yL_act cL_act 9 (some .boolean) hhA 9 169 3 17 [.ref (aH S), .int x] h (fun v h' => v = some (.int 1) ∧ ∃ T, Rep T h' ∧ NX Q S T) qX := by
  obtain ⟨hS, h4, hlv, aCopy, aLend, aRenew, aBack, aAwait, aLeave, aPass, aFind, aPay, aRec, aLay⟩ := hA
  refine CallsH_of (by decide +kernel) (by rw [lg_sl_1 [.ref (aH S), .int x] (by simp [cat_ref, cat_int])]; simp) (lv0 := [some (.ref (aH S)), some (.int x), none, none, none, none, none, none, none]) (lv0_1 [.ref (aH S), .int x] 7 (by simp [cat_ref, cat_int]) 0 · · · |> fun z => by rwa [Nat.zero_add] at z) ?_
  intro Z hG hZ hE hT
  subst hG
  have g0 := R.hall
  have hnc := W.2.2.1
  have hnr := W.2.1
  refine V_iload_n hZ 1 dL_act_0 rfl rfl ?_
  refine V_iconst (v := 3) hZ dL_act_1 (by decide) ?_
  refine V_ishr hZ dL_act_2 ?_
  refine V_iconst (v := 4) hZ dL_act_3 (by decide) ?_
  refine V_invSp hZ me_L_below ms_L_below ml_L_22 (c_below Z.1 h (x >>> (3 &&& 31)) (n := 4) (by decide) (by decide)) dL_act_4 rfl rfl ⟨by decide, by decide⟩ (by first | decide | (simp [cat_rf, cat_ref, cat_int, cat_null]; done) | (simp [cat_rf, cat_ref, cat_int, cat_null, Value.category]; done)) ⟨by decide, by decide⟩ ?_
  have hr := bl_lt (x >>> (3 &&& 31)) (n := 4) (by decide)
  generalize bl (x >>> (3 &&& 31)) 4 = r at hr ⊢
  refine V_istore_n hZ 2 rfl dL_act_7 (by decide) (by first | rfl | simp [okp, cat_rf, cat_ref, cat_int, cat_null]) ?_
  refine V.lvc (by simp only [List.set_cons_zero, List.set_cons_succ, Nat.reduceAdd]; rfl) ?_
  refine V_iload_n hZ 1 dL_act_8 rfl rfl ?_
  refine V_iconst (v := 5) hZ dL_act_9 (by decide) ?_
  refine V_ishr hZ dL_act_10 ?_
  refine V_aload_n hZ 0 dL_act_11 rfl rfl (by first | rfl | exact isR_rf _) ?_
  refine V_iconst (v := 2) hZ dL_act_12 (by decide) ?_
  refine V_invVp hZ me_X5_many mi_X5_many ml_L_34 (c_many Z.1 R W (k := 2) (by decide)) dL_act_13 rfl rfl (by assumption) rfl rfl ⟨by decide, by decide⟩ (by first | decide | (simp [cat_rf, cat_ref, cat_int, cat_null]; done) | (simp [cat_rf, cat_ref, cat_int, cat_null, Value.category]; done)) ⟨by decide, by decide⟩ ?_
  refine V_iconst (v := 2) hZ dL_act_16 (by decide) ?_
  refine V_iadd hZ dL_act_17 ?_
  refine V.stc (st' := [.int (nI (cn (liveB S) 20 + 2)), .int (x >>> (5 &&& 31))]) (by rw [← nI_add]; rfl) ?_
  have hcn := cn_le (P := liveB S) 20
  refine V_invSp hZ me_L_below ms_L_below ml_L_22 (c_below Z.1 h (x >>> (5 &&& 31)) (n := cn (liveB S) 20 + 2) (by omega) (by omega)) dL_act_18 rfl rfl ⟨by decide, by decide⟩ (by first | decide | (simp [cat_rf, cat_ref, cat_int, cat_null]; done) | (simp [cat_rf, cat_ref, cat_int, cat_null, Value.category]; done)) ⟨by decide, by decide⟩ ?_
  have hkb := bl_lt (x >>> (5 &&& 31)) (n := cn (liveB S) 20 + 2) (by omega)
  generalize bl (x >>> (5 &&& 31)) (cn (liveB S) 20 + 2) = k at hkb ⊢
  refine V_istore_n hZ 3 rfl dL_act_21 (by decide) (by first | rfl | simp [okp, cat_rf, cat_ref, cat_int, cat_null]) ?_
  refine V.lvc (by simp only [List.set_cons_zero, List.set_cons_succ, Nat.reduceAdd]; rfl) ?_
  refine V_iload_n hZ 1 dL_act_22 rfl rfl ?_
  refine V_iconst (v := 4) hZ dL_act_23 (by decide) ?_
  refine V_ishr hZ dL_act_24 ?_
  refine V_iconst (v := 1) hZ dL_act_25 (by decide) ?_
  refine V_aload_n hZ 0 dL_act_26 rfl rfl (by first | rfl | exact isR_rf _) ?_
  refine V_iconst (v := 3) hZ dL_act_27 (by decide) ?_
  refine V_invVp hZ me_X5_many mi_X5_many ml_L_34 (c_many Z.1 R W (k := 3) (by decide)) dL_act_28 rfl rfl (by assumption) rfl rfl ⟨by decide, by decide⟩ (by first | decide | (simp [cat_rf, cat_ref, cat_int, cat_null]; done) | (simp [cat_rf, cat_ref, cat_int, cat_null, Value.category]; done)) ⟨by decide, by decide⟩ ?_
  refine V_mmax hZ ml_L_55 dL_act_31 (by decide) (by first | decide | (simp [cat_rf, cat_ref, cat_int, cat_null]; done) | (simp [cat_rf, cat_ref, cat_int, cat_null, Value.category]; done)) ⟨by decide, by decide⟩ ?_
  refine V.stc (st' := [.int (nI (max 1 (nCp S))), .int (x >>> (4 &&& 31))]) (by rw [← maxI_1 (by omega)]; rfl) ?_
  refine V_invSp hZ me_L_below ms_L_below ml_L_22 (c_below Z.1 h (x >>> (4 &&& 31)) (n := max 1 (nCp S)) (by omega) (by omega)) dL_act_34 rfl rfl ⟨by decide, by decide⟩ (by first | decide | (simp [cat_rf, cat_ref, cat_int, cat_null]; done) | (simp [cat_rf, cat_ref, cat_int, cat_null, Value.category]; done)) ⟨by decide, by decide⟩ ?_
  have hcb := bl_lt (x >>> (4 &&& 31)) (n := max 1 (nCp S)) (by omega)
  generalize bl (x >>> (4 &&& 31)) (max 1 (nCp S)) = c at hcb ⊢
  refine V_istore hZ dL_act_37 (by decide) (by first | rfl | simp [okp, cat_rf, cat_ref, cat_int, cat_null]) ?_
  refine V.lvc (by simp only [List.set_cons_zero, List.set_cons_succ, Nat.reduceAdd]; rfl) ?_
  refine V_iload_n hZ 1 dL_act_39 rfl rfl ?_
  refine V_bipush (v := 14) hZ dL_act_40 (by decide) ?_
  refine V_invSp hZ me_L_below ms_L_below ml_L_22 (c_below Z.1 h x (n := 14) (by decide) (by decide)) dL_act_42 rfl rfl ⟨by decide, by decide⟩ (by first | decide | (simp [cat_rf, cat_ref, cat_int, cat_null]; done) | (simp [cat_rf, cat_ref, cat_int, cat_null, Value.category]; done)) ⟨by decide, by decide⟩ ?_
  have hj := bl_lt x (n := 14) (by decide)
  have hrd : r < nRd S := by omega
  have nIO : ∀ i, i < nRc S → ¬ k < nRc S → nI k ≠ nI i := fun i hi hk z => by have := nI_inj (by omega) (by omega) z; omega
  have nIC : ∀ i, i < nCp S → ¬ c < nCp S → nI c ≠ nI i := fun i hi hc z => by have := nI_inj (by omega) (by omega) z; omega
  have hIO : ∀ q, V Z 585 [some (.ref (aH S)), some (.int x), none, none, none, none, none, none, none] [.ref q] h (0 + 1) (0 + 6) := by
    intro q
    refine V_astore hZ dL_act_585 (by first | rfl | exact isR_rf _) (by decide) (by first | rfl | simp [okp, cat_rf, cat_ref, cat_int, cat_null]) ?_
    refine V.lvc (by simp only [List.set_cons_zero, List.set_cons_succ, Nat.reduceAdd]; rfl) ?_
    refine V_aload_n hZ 0 dL_act_587 rfl rfl (by first | rfl | exact isR_rf _) ?_
    refine V_iconst (v := 2) hZ dL_act_588 (by decide) ?_
    refine V_invVp hZ me_X5_many mi_X5_many ml_L_34 (c_many Z.1 R W (k := 2) (by decide)) dL_act_589 rfl rfl (by assumption) rfl rfl ⟨by decide, by decide⟩ (by first | decide | (simp [cat_rf, cat_ref, cat_int, cat_null]; done) | (simp [cat_rf, cat_ref, cat_int, cat_null, Value.category]; done)) ⟨by decide, by decide⟩ ?_
    refine V_if_le (tgt := 599) hZ dL_act_592 (by decide) (fun z => absurd z (hlv)) (fun _ => ?_)
    refine V_iconst (v := 1) hZ dL_act_595 (by decide) ?_
    refine V_goto (tgt := 600) hZ dL_act_596 (by decide) ?_
    refine V_iret hZ hE rfl (by rfl) dL_act_600 (by decide) (by decide) ?_
    exact ⟨rfl, S, R, hS⟩
  have hIA : bl x 14 = 12 → ∀ q, V Z 601 [some (.ref (aH S)), some (.int x), none, none, none, none, none, none, none] [.ref q] h (0 + 1) (0 + 6) := by
    intro hz q
    refine V_astore hZ dL_act_601 (by first | rfl | exact isR_rf _) (by decide) (by first | rfl | simp [okp, cat_rf, cat_ref, cat_int, cat_null]) ?_
    refine V.lvc (by simp only [List.set_cons_zero, List.set_cons_succ, Nat.reduceAdd]; rfl) ?_
    refine V_iload_n hZ 1 dL_act_603 rfl rfl ?_
    refine V_bipush (v := 14) hZ dL_act_604 (by decide) ?_
    refine V_invSp hZ me_L_below ms_L_below ml_L_22 (c_below Z.1 h x (n := 14) (by decide) (by decide)) dL_act_606 rfl rfl ⟨by decide, by decide⟩ (by first | decide | (simp [cat_rf, cat_ref, cat_int, cat_null]; done) | (simp [cat_rf, cat_ref, cat_int, cat_null, Value.category]; done)) ⟨by decide, by decide⟩ ?_
    rw [hz]
    refine V_bipush (v := 12) hZ dL_act_609 (by decide) ?_
    refine V_icmp_ne (tgt := 618) hZ dL_act_611 (by decide) (fun z => absurd ((by decide)) z) (fun _ => ?_)
    refine V_iconst (v := 1) hZ dL_act_614 (by decide) ?_
    refine V_goto (tgt := 619) hZ dL_act_615 (by decide) ?_
    refine V_iret hZ hE rfl (by rfl) dL_act_619 (by decide) (by decide) ?_
    exact ⟨rfl, S, R, hS⟩
  have hIS : bl x 14 ≠ 10 → bl x 14 ≠ 12 → ∀ q, V Z 620 [some (.ref (aH S)), some (.int x), none, none, none, none, none, none, none] [.ref q] h (0 + 1) (0 + 6) := by
    intro hz1 hz2 q
    refine V_astore hZ dL_act_620 (by first | rfl | exact isR_rf _) (by decide) (by first | rfl | simp [okp, cat_rf, cat_ref, cat_int, cat_null]) ?_
    refine V.lvc (by simp only [List.set_cons_zero, List.set_cons_succ, Nat.reduceAdd]; rfl) ?_
    refine V_iload_n hZ 1 dL_act_622 rfl rfl ?_
    refine V_bipush (v := 14) hZ dL_act_623 (by decide) ?_
    refine V_invSp hZ me_L_below ms_L_below ml_L_22 (c_below Z.1 h x (n := 14) (by decide) (by decide)) dL_act_625 rfl rfl ⟨by decide, by decide⟩ (by first | decide | (simp [cat_rf, cat_ref, cat_int, cat_null]; done) | (simp [cat_rf, cat_ref, cat_int, cat_null, Value.category]; done)) ⟨by decide, by decide⟩ ?_
    refine V_bipush (v := 10) hZ dL_act_628 (by decide) ?_
    refine V_icmp_eq (tgt := 648) hZ dL_act_630 (by decide) (fun z => absurd z ((fun z => hz1 (nI_inj (by omega) (by decide) z)))) (fun _ => ?_)
    refine V_iload_n hZ 1 dL_act_633 rfl rfl ?_
    refine V_bipush (v := 14) hZ dL_act_634 (by decide) ?_
    refine V_invSp hZ me_L_below ms_L_below ml_L_22 (c_below Z.1 h x (n := 14) (by decide) (by decide)) dL_act_636 rfl rfl ⟨by decide, by decide⟩ (by first | decide | (simp [cat_rf, cat_ref, cat_int, cat_null]; done) | (simp [cat_rf, cat_ref, cat_int, cat_null, Value.category]; done)) ⟨by decide, by decide⟩ ?_
    refine V_bipush (v := 12) hZ dL_act_639 (by decide) ?_
    refine V_icmp_eq (tgt := 648) hZ dL_act_641 (by decide) (fun z => absurd z ((fun z => hz2 (nI_inj (by omega) (by decide) z)))) (fun _ => ?_)
    refine V_iconst (v := 1) hZ dL_act_644 (by decide) ?_
    refine V_goto (tgt := 649) hZ dL_act_645 (by decide) ?_
    refine V_iret hZ hE rfl (by rfl) dL_act_649 (by decide) (by decide) ?_
    exact ⟨rfl, S, R, hS⟩
  have bCopy : bl x 14 ≠ 10 → bl x 14 ≠ 12 → V Z 112 [some (.ref (aH S)), some (.int x), some (.int (nI r)), some (.int (nI k)), some (.int (nI c)), none, none, none, none] [] h 0 0 := by
    intro hz1 hz2
    have hIS := hIS hz1 hz2
    refine V_aload_n hZ 0 dL_act_112 rfl rfl (by first | rfl | exact isR_rf _) ?_
    refine V_iload_n hZ 3 dL_act_113 rfl rfl ?_
    refine V_iconst (v := 1) hZ dL_act_114 (by decide) ?_
    refine V_iload_n hZ 1 dL_act_115 rfl rfl ?_
    refine V_bipush (v := 6) hZ dL_act_116 (by decide) ?_
    refine V_ishr hZ dL_act_118 ?_
    refine V_bipush (v := 80) hZ dL_act_119 (by decide) ?_
    refine V_invSp hZ me_L_below ms_L_below ml_L_22 (c_below Z.1 h (x >>> (6 &&& 31)) (n := 80) (by decide) (by decide)) dL_act_121 rfl rfl ⟨by decide, by decide⟩ (by first | decide | (simp [cat_rf, cat_ref, cat_int, cat_null]; done) | (simp [cat_rf, cat_ref, cat_int, cat_null, Value.category]; done)) ⟨by decide, by decide⟩ ?_
    have hp := bl_lt (x >>> (6 &&& 31)) (n := 80) (by decide)
    generalize bl (x >>> (6 &&& 31)) 80 = p at hp ⊢
    refine V_iadd hZ dL_act_124 ?_
    refine V.stc (st' := [.int (nI (1 + p)), .int (nI k), .ref (aH S)]) (by rw [← nI_add]; rfl) ?_
    by_cases hk : k < nRc S
    · by_cases hl : rcWe (rcs S k) = none ∧ nCp S < 30
      · refine V_invV hZ me_X5_copy mi_X5_copy ml_L_60 (c_copy Z.1 R W hl.2 hk hl.1 (p := 1 + p) (by omega) (by omega)) dL_act_125 rfl rfl (by assumption) rfl rfl ⟨by decide, by decide⟩ (by first | decide | (simp [cat_rf, cat_ref, cat_int, cat_null]; done) | (simp [cat_rf, cat_ref, cat_int, cat_null, Value.category]; done)) ⟨by decide, by decide⟩ (fun _ _ hq => hq.elim) ?_
        rintro _ g ⟨rfl, q, R2, -⟩
        have N := aCopy q k (1 + p) hk hl.1 hl.2 (by omega) (by omega)
        have hn : nCp (freeS (addCp S q (newC k (nI (1 + p)))) (nCp S)) = nCp S + 1 := rfl
        have nw := N.w
        have na := N.a
        generalize freeS (addCp S q (newC k (nI (1 + p)))) (nCp S) = T at *
        have gT := R2.hall
        rw [← na]
        refine V_aload_n hZ 0 dL_act_128 rfl rfl (by first | rfl | exact isR_rf _) ?_
        refine V_iconst (v := 3) hZ dL_act_129 (by decide) ?_
        refine V_invVp hZ me_X5_many mi_X5_many ml_L_34 (c_many Z.1 R2 nw (k := 3) (by decide)) dL_act_130 rfl rfl (by assumption) rfl rfl ⟨by decide, by decide⟩ (by first | decide | (simp [cat_rf, cat_ref, cat_int, cat_null]; done) | (simp [cat_rf, cat_ref, cat_int, cat_null, Value.category]; done)) ⟨by decide, by decide⟩ ?_
        refine V_iconst (v := 1) hZ dL_act_133 (by decide) ?_
        refine V_isub hZ dL_act_134 ?_
        refine V_icmp_ne (tgt := 142) hZ dL_act_135 (by decide) (fun z => absurd ((show nI (nCp S) = nI (nCp T) - 1 by rw [hn, nI_pred])) z) (fun _ => ?_)
        refine V_iconst (v := 1) hZ dL_act_138 (by decide) ?_
        refine V_goto (tgt := 143) hZ dL_act_139 (by decide) ?_
        refine V_iret hZ hE rfl (by rfl) dL_act_143 (by decide) (by decide) ?_
        exact ⟨rfl, T, R2, N⟩
      · refine V_invV hZ me_X5_copy mi_X5_copy ml_L_60 (t_copy Z.1 R W hk (p := 1 + p) (Classical.byCases (fun z : rcWe (rcs S k) = none => Or.inr (by have : ¬ nCp S < 30 := (fun y => hl ⟨z, y⟩); omega)) (fun z => Or.inl z)) (by omega) (by omega)) dL_act_125 rfl rfl (by assumption) rfl rfl ⟨by decide, by decide⟩ (by first | decide | (simp [cat_rf, cat_ref, cat_int, cat_null]; done) | (simp [cat_rf, cat_ref, cat_int, cat_null, Value.category]; done)) ⟨by decide, by decide⟩ (fun _ _ hq => ?_) (fun _ _ hq => hq.elim)
        obtain ⟨rfl, rfl⟩ := hq
        refine VX_IS hZ hT 22 rfl (by decide) (by decide) ⟨rfl, rfl⟩ (fun q => ?_)
        exact V.sub (by repeat first | exact lsub.rf | refine lsub.same ?_ | refine lsub.drop ?_) (hIS q)
    · refine V_invV hZ me_X5_copy mi_X5_copy ml_L_60 (t_copyI Z.1 R (fun i hi => nIO i hi hk)) dL_act_125 rfl rfl (by assumption) rfl rfl ⟨by decide, by decide⟩ (by first | decide | (simp [cat_rf, cat_ref, cat_int, cat_null]; done) | (simp [cat_rf, cat_ref, cat_int, cat_null, Value.category]; done)) ⟨by decide, by decide⟩ (fun _ _ hq => ?_) (fun _ _ hq => hq.elim)
      obtain ⟨rfl, rfl⟩ := hq
      refine VX_IO hZ hT 0 rfl (by decide) (by decide) ⟨rfl, rfl⟩ (fun q => ?_)
      exact V.sub (by repeat first | exact lsub.rf | refine lsub.same ?_ | refine lsub.drop ?_) (hIO q)
  have bLend : bl x 14 ≠ 10 → bl x 14 ≠ 12 → V Z 144 [some (.ref (aH S)), some (.int x), some (.int (nI r)), some (.int (nI k)), some (.int (nI c)), none, none, none, none] [] h 0 0 := by
    intro hz1 hz2
    have hIS := hIS hz1 hz2
    refine V_aload_n hZ 0 dL_act_144 rfl rfl (by first | rfl | exact isR_rf _) ?_
    refine V_iload_n hZ 2 dL_act_145 rfl rfl ?_
    refine V_iload hZ dL_act_146 rfl ?_
    by_cases hc : c < nCp S
    · by_cases hz : reasonN S r c = 0
      · refine V_invV hZ me_X5_lend mi_X5_lend ml_L_63 (c_lend Z.1 R W (x := r) hrd hc hz) dL_act_148 rfl rfl (by assumption) rfl rfl ⟨by decide, by decide⟩ (by first | decide | (simp [cat_rf, cat_ref, cat_int, cat_null]; done) | (simp [cat_rf, cat_ref, cat_int, cat_null, Value.category]; done)) ⟨by decide, by decide⟩ (fun _ _ hq => hq.elim) ?_
        rintro _ g ⟨rfl, R2⟩
        obtain ⟨N, e1, e2, e3⟩ := aLend r c hrd hc hz
        have nw := N.w
        have na := N.a
        generalize lendS S r c = T at *
        have gT := R2.hall
        rw [← na]
        refine V_aload_n hZ 0 dL_act_151 rfl rfl (by first | rfl | exact isR_rf _) ?_
        refine V_iload hZ dL_act_152 rfl ?_
        refine V_iconst (v := 3) hZ dL_act_154 (by decide) ?_
        refine V_invVp hZ me_X5_ofCopy mi_X5_ofCopy ml_L_66 (c_ofCopy Z.1 R2 nw (i := c) (k := 3) (N.c hc) (by decide)) dL_act_155 rfl rfl (by assumption) rfl rfl ⟨by decide, by decide⟩ (by first | decide | (simp [cat_rf, cat_ref, cat_int, cat_null]; done) | (simp [cat_rf, cat_ref, cat_int, cat_null, Value.category]; done)) ⟨by decide, by decide⟩ ?_
        refine V_icmp_ne (tgt := 197) hZ dL_act_158 (by decide) (fun z => absurd (rfl) z) (fun _ => ?_)
        refine V_aload_n hZ 0 dL_act_161 rfl rfl (by first | rfl | exact isR_rf _) ?_
        refine V_iload hZ dL_act_162 rfl ?_
        refine V_iconst (v := 1) hZ dL_act_164 (by decide) ?_
        refine V_invVp hZ me_X5_ofCopy mi_X5_ofCopy ml_L_66 (c_ofCopy Z.1 R2 nw (i := c) (k := 1) (N.c hc) (by decide)) dL_act_165 rfl rfl (by assumption) rfl rfl ⟨by decide, by decide⟩ (by first | decide | (simp [cat_rf, cat_ref, cat_int, cat_null]; done) | (simp [cat_rf, cat_ref, cat_int, cat_null, Value.category]; done)) ⟨by decide, by decide⟩ ?_
        refine V_iconst (v := 1) hZ dL_act_168 (by decide) ?_
        refine V_icmp_ne (tgt := 197) hZ dL_act_169 (by decide) (fun z => absurd (e1) z) (fun _ => ?_)
        refine V_aload_n hZ 0 dL_act_172 rfl rfl (by first | rfl | exact isR_rf _) ?_
        refine V_iload hZ dL_act_173 rfl ?_
        refine V_iconst (v := 2) hZ dL_act_175 (by decide) ?_
        refine V_invVp hZ me_X5_ofCopy mi_X5_ofCopy ml_L_66 (c_ofCopy Z.1 R2 nw (i := c) (k := 2) (N.c hc) (by decide)) dL_act_176 rfl rfl (by assumption) rfl rfl ⟨by decide, by decide⟩ (by first | decide | (simp [cat_rf, cat_ref, cat_int, cat_null]; done) | (simp [cat_rf, cat_ref, cat_int, cat_null, Value.category]; done)) ⟨by decide, by decide⟩ ?_
        refine V_iload_n hZ 2 dL_act_179 rfl rfl ?_
        refine V_icmp_ne (tgt := 197) hZ dL_act_180 (by decide) (fun z => absurd ((show orN (cpRd (cps T c)) = nI r by rw [e2]; rfl)) z) (fun _ => ?_)
        refine V_aload_n hZ 0 dL_act_183 rfl rfl (by first | rfl | exact isR_rf _) ?_
        refine V_iload hZ dL_act_184 rfl ?_
        refine V_iconst (v := 4) hZ dL_act_186 (by decide) ?_
        refine V_invVp hZ me_X5_ofCopy mi_X5_ofCopy ml_L_66 (c_ofCopy Z.1 R2 nw (i := c) (k := 4) (N.c hc) (by decide)) dL_act_187 rfl rfl (by assumption) rfl rfl ⟨by decide, by decide⟩ (by first | decide | (simp [cat_rf, cat_ref, cat_int, cat_null]; done) | (simp [cat_rf, cat_ref, cat_int, cat_null, Value.category]; done)) ⟨by decide, by decide⟩ ?_
        refine V_if_ne (tgt := 197) hZ dL_act_190 (by decide) (fun z => absurd (e3) z) (fun _ => ?_)
        refine V_iconst (v := 1) hZ dL_act_193 (by decide) ?_
        refine V_goto (tgt := 198) hZ dL_act_194 (by decide) ?_
        refine V_iret hZ hE rfl (by rfl) dL_act_198 (by decide) (by decide) ?_
        exact ⟨rfl, T, R2, N⟩
      · refine V_invV hZ me_X5_lend mi_X5_lend ml_L_63 (t_lend Z.1 R W (x := r) hrd hc hz) dL_act_148 rfl rfl (by assumption) rfl rfl ⟨by decide, by decide⟩ (by first | decide | (simp [cat_rf, cat_ref, cat_int, cat_null]; done) | (simp [cat_rf, cat_ref, cat_int, cat_null, Value.category]; done)) ⟨by decide, by decide⟩ (fun _ _ hq => ?_) (fun _ _ hq => hq.elim)
        obtain ⟨rfl, rfl⟩ := hq
        refine VX_IS hZ hT 23 rfl (by decide) (by decide) ⟨rfl, rfl⟩ (fun q => ?_)
        exact V.sub (by repeat first | exact lsub.rf | refine lsub.same ?_ | refine lsub.drop ?_) (hIS q)
    · refine V_invV hZ me_X5_lend mi_X5_lend ml_L_63 (t_lendI Z.1 R W (x := r) hrd (fun i hi => nIC i hi hc)) dL_act_148 rfl rfl (by assumption) rfl rfl ⟨by decide, by decide⟩ (by first | decide | (simp [cat_rf, cat_ref, cat_int, cat_null]; done) | (simp [cat_rf, cat_ref, cat_int, cat_null, Value.category]; done)) ⟨by decide, by decide⟩ (fun _ _ hq => ?_) (fun _ _ hq => hq.elim)
      obtain ⟨rfl, rfl⟩ := hq
      refine VX_IO hZ hT 1 rfl (by decide) (by decide) ⟨rfl, rfl⟩ (fun q => ?_)
      exact V.sub (by repeat first | exact lsub.rf | refine lsub.same ?_ | refine lsub.drop ?_) (hIO q)
  have bRenew : bl x 14 ≠ 10 → bl x 14 ≠ 12 → V Z 199 [some (.ref (aH S)), some (.int x), some (.int (nI r)), some (.int (nI k)), some (.int (nI c)), none, none, none, none] [] h 0 0 := by
    intro hz1 hz2
    have hIS := hIS hz1 hz2
    refine V_aload_n hZ 0 dL_act_199 rfl rfl (by first | rfl | exact isR_rf _) ?_
    refine V_iload hZ dL_act_200 rfl ?_
    by_cases hc : c < nCp S
    · cases hd : cpRd (cps S c) with
      | none =>
        refine V_invV hZ me_X5_renew mi_X5_renew ml_L_69 (t_renew Z.1 R W hc (Or.inl hd)) dL_act_202 rfl rfl (by assumption) rfl rfl ⟨by decide, by decide⟩ (by first | decide | (simp [cat_rf, cat_ref, cat_int, cat_null]; done) | (simp [cat_rf, cat_ref, cat_int, cat_null, Value.category]; done)) ⟨by decide, by decide⟩ (fun _ _ hq => ?_) (fun _ _ hq => hq.elim)
        obtain ⟨rfl, rfl⟩ := hq
        refine VX_IS hZ hT 24 rfl (by decide) (by decide) ⟨rfl, rfl⟩ (fun q => ?_)
        exact V.sub (by repeat first | exact lsub.rf | refine lsub.same ?_ | refine lsub.drop ?_) (hIS q)
      | some y =>
        cases hb : renewB S c with
        | false =>
          refine V_invV hZ me_X5_renew mi_X5_renew ml_L_69 (t_renew Z.1 R W hc (Or.inr hb)) dL_act_202 rfl rfl (by assumption) rfl rfl ⟨by decide, by decide⟩ (by first | decide | (simp [cat_rf, cat_ref, cat_int, cat_null]; done) | (simp [cat_rf, cat_ref, cat_int, cat_null, Value.category]; done)) ⟨by decide, by decide⟩ (fun _ _ hq => ?_) (fun _ _ hq => hq.elim)
          obtain ⟨rfl, rfl⟩ := hq
          refine VX_IS hZ hT 24 rfl (by decide) (by decide) ⟨rfl, rfl⟩ (fun q => ?_)
          exact V.sub (by repeat first | exact lsub.rf | refine lsub.same ?_ | refine lsub.drop ?_) (hIS q)
        | true =>
          refine V_invV hZ me_X5_renew mi_X5_renew ml_L_69 (c_renew Z.1 R W hc hd hb) dL_act_202 rfl rfl (by assumption) rfl rfl ⟨by decide, by decide⟩ (by first | decide | (simp [cat_rf, cat_ref, cat_int, cat_null]; done) | (simp [cat_rf, cat_ref, cat_int, cat_null, Value.category]; done)) ⟨by decide, by decide⟩ (fun _ _ hq => hq.elim) ?_
          rintro _ g ⟨rfl, R2⟩
          obtain ⟨N, e1, e2⟩ := aRenew c y hc hd hb
          have e0 : cpDy (cps (renS S c y) c) = tdy S + daysN (rdKi (rds S y)) := by show cpDy (va_up (cps S) c (renC (cps S c) (tdy S + daysN (rdKi (rds S y)))) c) = _; rw [up_eq]
          have nw := N.w
          have na := N.a
          generalize renS S c y = T at *
          have gT := R2.hall
          rw [← na]
          refine V_aload_n hZ 0 dL_act_205 rfl rfl (by first | rfl | exact isR_rf _) ?_
          refine V_iload hZ dL_act_206 rfl ?_
          refine V_iconst (v := 3) hZ dL_act_208 (by decide) ?_
          refine V_invVp hZ me_X5_ofCopy mi_X5_ofCopy ml_L_66 (c_ofCopy Z.1 R2 nw (i := c) (k := 3) (N.c hc) (by decide)) dL_act_209 rfl rfl (by assumption) rfl rfl ⟨by decide, by decide⟩ (by first | decide | (simp [cat_rf, cat_ref, cat_int, cat_null]; done) | (simp [cat_rf, cat_ref, cat_int, cat_null, Value.category]; done)) ⟨by decide, by decide⟩ ?_
          refine V_icmp_ne (tgt := 240) hZ dL_act_212 (by decide) (fun z => absurd (e0.symm) z) (fun _ => ?_)
          refine V_aload_n hZ 0 dL_act_215 rfl rfl (by first | rfl | exact isR_rf _) ?_
          refine V_iload hZ dL_act_216 rfl ?_
          refine V_iconst (v := 5) hZ dL_act_218 (by decide) ?_
          refine V_invVp hZ me_X5_ofCopy mi_X5_ofCopy ml_L_66 (c_ofCopy Z.1 R2 nw (i := c) (k := 5) (N.c hc) (by decide)) dL_act_219 rfl rfl (by assumption) rfl rfl ⟨by decide, by decide⟩ (by first | decide | (simp [cat_rf, cat_ref, cat_int, cat_null]; done) | (simp [cat_rf, cat_ref, cat_int, cat_null, Value.category]; done)) ⟨by decide, by decide⟩ ?_
          refine V_if_le (tgt := 240) hZ dL_act_222 (by decide) (fun z => absurd z (e1)) (fun _ => ?_)
          refine V_aload_n hZ 0 dL_act_225 rfl rfl (by first | rfl | exact isR_rf _) ?_
          refine V_iload hZ dL_act_226 rfl ?_
          refine V_iconst (v := 5) hZ dL_act_228 (by decide) ?_
          refine V_invVp hZ me_X5_ofCopy mi_X5_ofCopy ml_L_66 (c_ofCopy Z.1 R2 nw (i := c) (k := 5) (N.c hc) (by decide)) dL_act_229 rfl rfl (by assumption) rfl rfl ⟨by decide, by decide⟩ (by first | decide | (simp [cat_rf, cat_ref, cat_int, cat_null]; done) | (simp [cat_rf, cat_ref, cat_int, cat_null, Value.category]; done)) ⟨by decide, by decide⟩ ?_
          refine V_iconst (v := 3) hZ dL_act_232 (by decide) ?_
          refine V_icmp_ge (tgt := 240) hZ dL_act_233 (by decide) (fun z => absurd z (e2)) (fun _ => ?_)
          refine V_iconst (v := 1) hZ dL_act_236 (by decide) ?_
          refine V_goto (tgt := 241) hZ dL_act_237 (by decide) ?_
          refine V_iret hZ hE rfl (by rfl) dL_act_241 (by decide) (by decide) ?_
          exact ⟨rfl, T, R2, N⟩
    · refine V_invV hZ me_X5_renew mi_X5_renew ml_L_69 (t_renewI Z.1 R (fun i hi => nIC i hi hc)) dL_act_202 rfl rfl (by assumption) rfl rfl ⟨by decide, by decide⟩ (by first | decide | (simp [cat_rf, cat_ref, cat_int, cat_null]; done) | (simp [cat_rf, cat_ref, cat_int, cat_null, Value.category]; done)) ⟨by decide, by decide⟩ (fun _ _ hq => ?_) (fun _ _ hq => hq.elim)
      obtain ⟨rfl, rfl⟩ := hq
      refine VX_IO hZ hT 2 rfl (by decide) (by decide) ⟨rfl, rfl⟩ (fun q => ?_)
      exact V.sub (by repeat first | exact lsub.rf | refine lsub.same ?_ | refine lsub.drop ?_) (hIO q)
  have bBack : bl x 14 ≠ 10 → bl x 14 ≠ 12 → V Z 242 [some (.ref (aH S)), some (.int x), some (.int (nI r)), some (.int (nI k)), some (.int (nI c)), none, none, none, none] [] h 0 0 := by
    intro hz1 hz2
    have hIS := hIS hz1 hz2
    refine V_aload_n hZ 0 dL_act_242 rfl rfl (by first | rfl | exact isR_rf _) ?_
    refine V_iload hZ dL_act_243 rfl ?_
    refine V_iconst (v := 1) hZ dL_act_245 (by decide) ?_
    by_cases hc : c < nCp S
    · refine V_invVp hZ me_X5_ofCopy mi_X5_ofCopy ml_L_66 (c_ofCopy Z.1 R W (i := c) (k := 1) hc (by decide)) dL_act_246 rfl rfl (by assumption) rfl rfl ⟨by decide, by decide⟩ (by first | decide | (simp [cat_rf, cat_ref, cat_int, cat_null]; done) | (simp [cat_rf, cat_ref, cat_int, cat_null, Value.category]; done)) ⟨by decide, by decide⟩ ?_
      refine V_iconst (v := 1) hZ dL_act_249 (by decide) ?_
      by_cases hp : cpPl (cps S c) = 1
      · refine V_icmp_ne (tgt := 263) hZ dL_act_250 (by decide) (fun z => absurd (hp) z) (fun _ => ?_)
        refine V_aload_n hZ 0 dL_act_253 rfl rfl (by first | rfl | exact isR_rf _) ?_
        refine V_iload hZ dL_act_254 rfl ?_
        refine V_iconst (v := 0) hZ dL_act_256 (by decide) ?_
        refine V_invVp hZ me_X5_fineIn mi_X5_fineIn ml_L_72 (c_fineIn Z.1 R W (c := c) (d := 0) hc (by decide) hp) dL_act_257 rfl rfl (by assumption) rfl rfl ⟨by decide, by decide⟩ (by first | decide | (simp [cat_rf, cat_ref, cat_int, cat_null]; done) | (simp [cat_rf, cat_ref, cat_int, cat_null, Value.category]; done)) ⟨by decide, by decide⟩ ?_
        refine V_goto (tgt := 264) hZ dL_act_260 (by decide) ?_
        refine V_istore hZ dL_act_264 (by decide) (by first | rfl | simp [okp, cat_rf, cat_ref, cat_int, cat_null]) ?_
        refine V.lvc (by simp only [List.set_cons_zero, List.set_cons_succ, Nat.reduceAdd]; rfl) ?_
        refine V_aload_n hZ 0 dL_act_266 rfl rfl (by first | rfl | exact isR_rf _) ?_
        refine V_iload hZ dL_act_267 rfl ?_
        cases hd : cpRd (cps S c) with
        | none =>
          refine V_invV hZ me_X5_back mi_X5_back ml_L_75 (t_back Z.1 R W hc (Or.inr hd)) dL_act_269 rfl rfl (by assumption) rfl rfl ⟨by decide, by decide⟩ (by first | decide | (simp [cat_rf, cat_ref, cat_int, cat_null]; done) | (simp [cat_rf, cat_ref, cat_int, cat_null, Value.category]; done)) ⟨by decide, by decide⟩ (fun _ _ hq => ?_) (fun _ _ hq => hq.elim)
          obtain ⟨rfl, rfl⟩ := hq
          refine VX_IS hZ hT 25 rfl (by decide) (by decide) ⟨rfl, rfl⟩ (fun q => ?_)
          exact V.sub (by repeat first | exact lsub.rf | refine lsub.same ?_ | refine lsub.drop ?_) (hIS q)
        | some y =>
          obtain ⟨N, e1, e2, e3⟩ := aBack c y hc hp hd
          refine V_invV hZ me_X5_back mi_X5_back ml_L_75 (c_back Z.1 R W hc hp hd) dL_act_269 rfl rfl (by assumption) rfl rfl ⟨by decide, by decide⟩ (by first | decide | (simp [cat_rf, cat_ref, cat_int, cat_null]; done) | (simp [cat_rf, cat_ref, cat_int, cat_null, Value.category]; done)) ⟨by decide, by decide⟩ (fun _ _ hq => hq.elim) ?_
          rintro _ g ⟨rfl, R2⟩
          have nw := N.w
          have na := N.a
          generalize backS S c y = T at *
          have gT := R2.hall
          rw [← na]
          refine V_iload hZ dL_act_272 rfl ?_
          refine V_icmp_ne (tgt := 300) hZ dL_act_274 (by decide) (fun z => absurd (e1) z) (fun _ => ?_)
          refine V_iload hZ dL_act_277 rfl ?_
          refine V_bipush (v := 40) hZ dL_act_279 (by decide) ?_
          refine V_icmp_gt (tgt := 300) hZ dL_act_281 (by decide) (fun z => absurd z (e2)) (fun _ => ?_)
          refine V_aload_n hZ 0 dL_act_284 rfl rfl (by first | rfl | exact isR_rf _) ?_
          refine V_iload hZ dL_act_285 rfl ?_
          refine V_iconst (v := 1) hZ dL_act_287 (by decide) ?_
          refine V_invVp hZ me_X5_ofCopy mi_X5_ofCopy ml_L_66 (c_ofCopy Z.1 R2 nw (i := c) (k := 1) (N.c hc) (by decide)) dL_act_288 rfl rfl (by assumption) rfl rfl ⟨by decide, by decide⟩ (by first | decide | (simp [cat_rf, cat_ref, cat_int, cat_null]; done) | (simp [cat_rf, cat_ref, cat_int, cat_null, Value.category]; done)) ⟨by decide, by decide⟩ ?_
          refine V_iconst (v := 2) hZ dL_act_291 (by decide) ?_
          refine V_irem hZ (by decide) dL_act_292 ?_
          refine V_if_ne (tgt := 300) hZ dL_act_293 (by decide) (fun z => absurd (rem2 e3) z) (fun _ => ?_)
          refine V_iconst (v := 1) hZ dL_act_296 (by decide) ?_
          refine V_goto (tgt := 301) hZ dL_act_297 (by decide) ?_
          refine V_iret hZ hE rfl (by rfl) dL_act_301 (by decide) (by decide) ?_
          exact ⟨rfl, T, R2, N⟩
      · refine V_icmp_ne (tgt := 263) hZ dL_act_250 (by decide) (fun _ => ?_) (fun z => absurd z (hp))
        refine V_iconst (v := 0) hZ dL_act_263 (by decide) ?_
        refine V_istore hZ dL_act_264 (by decide) (by first | rfl | simp [okp, cat_rf, cat_ref, cat_int, cat_null]) ?_
        refine V.lvc (by simp only [List.set_cons_zero, List.set_cons_succ, Nat.reduceAdd]; rfl) ?_
        refine V_aload_n hZ 0 dL_act_266 rfl rfl (by first | rfl | exact isR_rf _) ?_
        refine V_iload hZ dL_act_267 rfl ?_
        refine V_invV hZ me_X5_back mi_X5_back ml_L_75 (t_back Z.1 R W hc (Or.inl hp)) dL_act_269 rfl rfl (by assumption) rfl rfl ⟨by decide, by decide⟩ (by first | decide | (simp [cat_rf, cat_ref, cat_int, cat_null]; done) | (simp [cat_rf, cat_ref, cat_int, cat_null, Value.category]; done)) ⟨by decide, by decide⟩ (fun _ _ hq => ?_) (fun _ _ hq => hq.elim)
        obtain ⟨rfl, rfl⟩ := hq
        refine VX_IS hZ hT 25 rfl (by decide) (by decide) ⟨rfl, rfl⟩ (fun q => ?_)
        exact V.sub (by repeat first | exact lsub.rf | refine lsub.same ?_ | refine lsub.drop ?_) (hIS q)
    · refine V_invV hZ me_X5_ofCopy mi_X5_ofCopy ml_L_66 (t_ofCopy Z.1 R (fun i hi => nIC i hi hc)) dL_act_246 rfl rfl (by assumption) rfl rfl ⟨by decide, by decide⟩ (by first | decide | (simp [cat_rf, cat_ref, cat_int, cat_null]; done) | (simp [cat_rf, cat_ref, cat_int, cat_null, Value.category]; done)) ⟨by decide, by decide⟩ (fun _ _ hq => ?_) (fun _ _ hq => hq.elim)
      obtain ⟨rfl, rfl⟩ := hq
      refine VX_IO hZ hT 3 rfl (by decide) (by decide) ⟨rfl, rfl⟩ (fun q => ?_)
      exact V.sub (by repeat first | exact lsub.rf | refine lsub.same ?_ | refine lsub.drop ?_) (hIO q)
  have bAwait : bl x 14 ≠ 10 → bl x 14 ≠ 12 → V Z 302 [some (.ref (aH S)), some (.int x), some (.int (nI r)), some (.int (nI k)), some (.int (nI c)), none, none, none, none] [] h 0 0 := by
    intro hz1 hz2
    have hIS := hIS hz1 hz2
    refine V_aload_n hZ 0 dL_act_302 rfl rfl (by first | rfl | exact isR_rf _) ?_
    refine V_iload_n hZ 2 dL_act_303 rfl rfl ?_
    refine V_iload_n hZ 3 dL_act_304 rfl rfl ?_
    by_cases hk : k < nRc S
    · by_cases h1 : r ∈ lin S (live S k) ∨ ¬ fN (hasB S r (live S k)) 30 0 = none
      · refine V_invV hZ me_X5_await mi_X5_await ml_L_78 (t_await Z.1 R W (x := r) hrd hk h1) dL_act_305 rfl rfl (by assumption) rfl rfl ⟨by decide, by decide⟩ (by first | decide | (simp [cat_rf, cat_ref, cat_int, cat_null]; done) | (simp [cat_rf, cat_ref, cat_int, cat_null, Value.category]; done)) ⟨by decide, by decide⟩ (fun _ _ hq => ?_) (fun _ _ hq => hq.elim)
        obtain ⟨rfl, rfl⟩ := hq
        refine VX_IS hZ hT 26 rfl (by decide) (by decide) ⟨rfl, rfl⟩ (fun q => ?_)
        exact V.sub (by repeat first | exact lsub.rf | refine lsub.same ?_ | refine lsub.drop ?_) (hIS q)
      · have h2 : r ∉ lin S (live S k) := fun z => h1 (Or.inl z)
        have h3 : fN (hasB S r (live S k)) 30 0 = none := Classical.not_not.mp (fun z => h1 (Or.inr z))
        refine V_invV hZ me_X5_await mi_X5_await ml_L_78 (c_await Z.1 R W (x := r) hrd hk h2 h3) dL_act_305 rfl rfl (by assumption) rfl rfl ⟨by decide, by decide⟩ (by first | decide | (simp [cat_rf, cat_ref, cat_int, cat_null]; done) | (simp [cat_rf, cat_ref, cat_int, cat_null, Value.category]; done)) ⟨by decide, by decide⟩ (fun _ _ hq => hq.elim) ?_
        rintro _ g ⟨rfl, R2⟩
        obtain ⟨N, e1⟩ := aAwait r k hrd hk h2 h3
        have e0 : awaitN S r (live S k) = orN (fN (inB (joinS S r (live S k)) (live S k)) 30 0) := rfl
        generalize fN (inB (joinS S r (live S k)) (live S k)) 30 0 = o at e0 e1
        rw [e0]
        have nw := N.w
        have na := N.a
        generalize awaitS S r (live S k) = T at *
        have gT := R2.hall
        rw [← na]
        cases o with
        | none =>
          refine V_istore hZ dL_act_308 (by decide) (by first | rfl | simp [okp, cat_rf, cat_ref, cat_int, cat_null]) ?_
          refine V.lvc (by simp only [List.set_cons_zero, List.set_cons_succ, Nat.reduceAdd]; rfl) ?_
          refine V_iload hZ dL_act_310 rfl ?_
          refine V_if_lt (tgt := 346) hZ dL_act_312 (by decide) (fun _ => ?_) (fun z => absurd ((by decide)) z)
          refine V_iconst (v := 1) hZ dL_act_346 (by decide) ?_
          refine V_goto (tgt := 351) hZ dL_act_347 (by decide) ?_
          refine V_iret hZ hE rfl (by rfl) dL_act_351 (by decide) (by decide) ?_
          exact ⟨rfl, T, R2, N⟩
        | some y =>
          obtain ⟨e2, e3, e4, e5, e6⟩ := e1 y rfl
          have kr := N.r hk
          refine V_istore hZ dL_act_308 (by decide) (by first | rfl | simp [okp, cat_rf, cat_ref, cat_int, cat_null]) ?_
          refine V.lvc (by simp only [List.set_cons_zero, List.set_cons_succ, Nat.reduceAdd]; rfl) ?_
          refine V_iload hZ dL_act_310 rfl ?_
          refine V_if_lt (tgt := 346) hZ dL_act_312 (by decide) (fun z => absurd z ((nI_pos (n := y) (by omega)))) (fun _ => ?_)
          refine V_aload_n hZ 0 dL_act_315 rfl rfl (by first | rfl | exact isR_rf _) ?_
          refine V_iload hZ dL_act_316 rfl ?_
          refine V_iconst (v := 1) hZ dL_act_318 (by decide) ?_
          refine V_invVp hZ me_X5_ofCopy mi_X5_ofCopy ml_L_66 (c_ofCopy Z.1 R2 nw (i := y) (k := 1) (N.c e2) (by decide)) dL_act_319 rfl rfl (by assumption) rfl rfl ⟨by decide, by decide⟩ (by first | decide | (simp [cat_rf, cat_ref, cat_int, cat_null]; done) | (simp [cat_rf, cat_ref, cat_int, cat_null, Value.category]; done)) ⟨by decide, by decide⟩ ?_
          refine V_iconst (v := 2) hZ dL_act_322 (by decide) ?_
          refine V_icmp_ne (tgt := 350) hZ dL_act_323 (by decide) (fun z => absurd (e3) z) (fun _ => ?_)
          refine V_aload_n hZ 0 dL_act_326 rfl rfl (by first | rfl | exact isR_rf _) ?_
          refine V_iload hZ dL_act_327 rfl ?_
          refine V_iconst (v := 2) hZ dL_act_329 (by decide) ?_
          refine V_invVp hZ me_X5_ofCopy mi_X5_ofCopy ml_L_66 (c_ofCopy Z.1 R2 nw (i := y) (k := 2) (N.c e2) (by decide)) dL_act_330 rfl rfl (by assumption) rfl rfl ⟨by decide, by decide⟩ (by first | decide | (simp [cat_rf, cat_ref, cat_int, cat_null]; done) | (simp [cat_rf, cat_ref, cat_int, cat_null, Value.category]; done)) ⟨by decide, by decide⟩ ?_
          refine V_iload_n hZ 2 dL_act_333 rfl rfl ?_
          refine V_icmp_ne (tgt := 350) hZ dL_act_334 (by decide) (fun z => absurd ((show orN (cpRd (cps T y)) = nI r by rw [e4]; rfl)) z) (fun _ => ?_)
          refine V_aload_n hZ 0 dL_act_337 rfl rfl (by first | rfl | exact isR_rf _) ?_
          refine V_iload_n hZ 2 dL_act_338 rfl rfl ?_
          refine V_iload_n hZ 3 dL_act_339 rfl rfl ?_
          refine V_invV hZ me_X5_soon mi_X5_soon ml_L_81 (c_soon Z.1 R2 nw (x := r) (i := k) (N.d hrd) kr e5) dL_act_340 rfl rfl (by assumption) rfl rfl ⟨by decide, by decide⟩ (by first | decide | (simp [cat_rf, cat_ref, cat_int, cat_null]; done) | (simp [cat_rf, cat_ref, cat_int, cat_null, Value.category]; done)) ⟨by decide, by decide⟩ (fun _ _ hq => hq.elim) ?_
          rintro _ g2 ⟨rfl, R3⟩
          rw [show soonS T r (live T k) = T by simp [soonS, e6]] at R3
          rw [show soonN T r (live T k) = 0 by simp [soonN, e6]]
          refine V_if_ne (tgt := 350) hZ dL_act_343 (by decide) (fun z => absurd (rfl) z) (fun _ => ?_)
          refine V_iconst (v := 1) hZ dL_act_346 (by decide) ?_
          refine V_goto (tgt := 351) hZ dL_act_347 (by decide) ?_
          refine V_iret hZ hE rfl (by rfl) dL_act_351 (by decide) (by decide) ?_
          exact ⟨rfl, T, R3, N⟩
    · refine V_invV hZ me_X5_await mi_X5_await ml_L_78 (t_awaitI Z.1 R W (x := r) hrd (fun i hi => nIO i hi hk)) dL_act_305 rfl rfl (by assumption) rfl rfl ⟨by decide, by decide⟩ (by first | decide | (simp [cat_rf, cat_ref, cat_int, cat_null]; done) | (simp [cat_rf, cat_ref, cat_int, cat_null, Value.category]; done)) ⟨by decide, by decide⟩ (fun _ _ hq => ?_) (fun _ _ hq => hq.elim)
      obtain ⟨rfl, rfl⟩ := hq
      refine VX_IO hZ hT 4 rfl (by decide) (by decide) ⟨rfl, rfl⟩ (fun q => ?_)
      exact V.sub (by repeat first | exact lsub.rf | refine lsub.same ?_ | refine lsub.drop ?_) (hIO q)
  have bLeave : bl x 14 ≠ 10 → bl x 14 ≠ 12 → V Z 352 [some (.ref (aH S)), some (.int x), some (.int (nI r)), some (.int (nI k)), some (.int (nI c)), none, none, none, none] [] h 0 0 := by
    intro hz1 hz2
    have hIS := hIS hz1 hz2
    refine V_aload_n hZ 0 dL_act_352 rfl rfl (by first | rfl | exact isR_rf _) ?_
    refine V_iload_n hZ 2 dL_act_353 rfl rfl ?_
    refine V_iload_n hZ 3 dL_act_354 rfl rfl ?_
    by_cases hk : k < nRc S
    · by_cases h1 : r ∈ lin S (live S k)
      · refine V_invV hZ me_X5_leave mi_X5_leave ml_L_84 (c_leave Z.1 R W (x := r) hrd hk h1) dL_act_355 rfl rfl (by assumption) rfl rfl ⟨by decide, by decide⟩ (by first | decide | (simp [cat_rf, cat_ref, cat_int, cat_null]; done) | (simp [cat_rf, cat_ref, cat_int, cat_null, Value.category]; done)) ⟨by decide, by decide⟩ (fun _ _ hq => hq.elim) ?_
        rintro _ g ⟨rfl, R2⟩
        obtain ⟨N, e1⟩ := aLeave r k hrd hk h1
        have kr := N.r hk
        have nw := N.w
        have na := N.a
        generalize endS S r (live S k) = T at *
        have gT := R2.hall
        rw [← na]
        refine V_aload_n hZ 0 dL_act_358 rfl rfl (by first | rfl | exact isR_rf _) ?_
        refine V_iload_n hZ 3 dL_act_359 rfl rfl ?_
        refine V_iconst (v := 5) hZ dL_act_360 (by decide) ?_
        refine V_invVp hZ me_X5_ofRecord mi_X5_ofRecord ml_L_87 (c_ofRecord Z.1 R2 nw (i := k) (k := 5) kr (by decide)) dL_act_361 rfl rfl (by assumption) rfl rfl ⟨by decide, by decide⟩ (by first | decide | (simp [cat_rf, cat_ref, cat_int, cat_null]; done) | (simp [cat_rf, cat_ref, cat_int, cat_null, Value.category]; done)) ⟨by decide, by decide⟩ ?_
        refine V_icmp_ne (tgt := 371) hZ dL_act_364 (by decide) (fun z => absurd ((show _ = nI (lin T (live T k)).length by rw [e1])) z) (fun _ => ?_)
        refine V_iconst (v := 1) hZ dL_act_367 (by decide) ?_
        refine V_goto (tgt := 372) hZ dL_act_368 (by decide) ?_
        refine V_iret hZ hE rfl (by rfl) dL_act_372 (by decide) (by decide) ?_
        exact ⟨rfl, T, R2, N⟩
      · refine V_invV hZ me_X5_leave mi_X5_leave ml_L_84 (t_leave Z.1 R W (x := r) hrd hk h1) dL_act_355 rfl rfl (by assumption) rfl rfl ⟨by decide, by decide⟩ (by first | decide | (simp [cat_rf, cat_ref, cat_int, cat_null]; done) | (simp [cat_rf, cat_ref, cat_int, cat_null, Value.category]; done)) ⟨by decide, by decide⟩ (fun _ _ hq => ?_) (fun _ _ hq => hq.elim)
        obtain ⟨rfl, rfl⟩ := hq
        refine VX_IS hZ hT 27 rfl (by decide) (by decide) ⟨rfl, rfl⟩ (fun q => ?_)
        exact V.sub (by repeat first | exact lsub.rf | refine lsub.same ?_ | refine lsub.drop ?_) (hIS q)
    · refine V_invV hZ me_X5_leave mi_X5_leave ml_L_84 (t_leaveI Z.1 R W (x := r) hrd (fun i hi => nIO i hi hk)) dL_act_355 rfl rfl (by assumption) rfl rfl ⟨by decide, by decide⟩ (by first | decide | (simp [cat_rf, cat_ref, cat_int, cat_null]; done) | (simp [cat_rf, cat_ref, cat_int, cat_null, Value.category]; done)) ⟨by decide, by decide⟩ (fun _ _ hq => ?_) (fun _ _ hq => hq.elim)
      obtain ⟨rfl, rfl⟩ := hq
      refine VX_IO hZ hT 5 rfl (by decide) (by decide) ⟨rfl, rfl⟩ (fun q => ?_)
      exact V.sub (by repeat first | exact lsub.rf | refine lsub.same ?_ | refine lsub.drop ?_) (hIO q)
  have bPass : V Z 373 [some (.ref (aH S)), some (.int x), some (.int (nI r)), some (.int (nI k)), some (.int (nI c)), none, none, none, none] [] h 0 0 := by
    have hp := bl_lt (x >>> (6 &&& 31)) (n := 20) (by decide)
    refine V_aload_n hZ 0 dL_act_373 rfl rfl (by first | rfl | exact isR_rf _) ?_
    refine V_iconst (v := 1) hZ dL_act_374 (by decide) ?_
    refine V_iload_n hZ 1 dL_act_375 rfl rfl ?_
    refine V_bipush (v := 6) hZ dL_act_376 (by decide) ?_
    refine V_ishr hZ dL_act_378 ?_
    refine V_bipush (v := 20) hZ dL_act_379 (by decide) ?_
    refine V_invSp hZ me_L_below ms_L_below ml_L_22 (c_below Z.1 h (x >>> (6 &&& 31)) (n := 20) (by decide) (by decide)) dL_act_381 rfl rfl ⟨by decide, by decide⟩ (by first | decide | (simp [cat_rf, cat_ref, cat_int, cat_null]; done) | (simp [cat_rf, cat_ref, cat_int, cat_null, Value.category]; done)) ⟨by decide, by decide⟩ ?_
    refine V_iadd hZ dL_act_384 ?_
    refine V.stc (st' := [.int (nI (1 + bl (x >>> (6 &&& 31)) 20)), .ref (aH S)]) (by rw [← nI_add]; rfl) ?_
    refine V_invVp hZ me_X5_lostIn mi_X5_lostIn ml_L_90 (c_lostIn Z.1 R (d := 1 + bl (x >>> (6 &&& 31)) 20) (by omega) (by omega)) dL_act_385 rfl rfl (by assumption) rfl rfl ⟨by decide, by decide⟩ (by first | decide | (simp [cat_rf, cat_ref, cat_int, cat_null]; done) | (simp [cat_rf, cat_ref, cat_int, cat_null, Value.category]; done)) ⟨by decide, by decide⟩ ?_
    refine V_istore hZ dL_act_388 (by decide) (by first | rfl | simp [okp, cat_rf, cat_ref, cat_int, cat_null]) ?_
    refine V.lvc (by simp only [List.set_cons_zero, List.set_cons_succ, Nat.reduceAdd]; rfl) ?_
    refine V_aload_n hZ 0 dL_act_390 rfl rfl (by first | rfl | exact isR_rf _) ?_
    refine V_bipush (v := 8) hZ dL_act_391 (by decide) ?_
    refine V_invVp hZ me_X5_many mi_X5_many ml_L_34 (c_many Z.1 R W (k := 8) (by decide)) dL_act_393 rfl rfl (by assumption) rfl rfl ⟨by decide, by decide⟩ (by first | decide | (simp [cat_rf, cat_ref, cat_int, cat_null]; done) | (simp [cat_rf, cat_ref, cat_int, cat_null, Value.category]; done)) ⟨by decide, by decide⟩ ?_
    refine V_istore hZ dL_act_396 (by decide) (by first | rfl | simp [okp, cat_rf, cat_ref, cat_int, cat_null]) ?_
    refine V.lvc (by simp only [List.set_cons_zero, List.set_cons_succ, Nat.reduceAdd]; rfl) ?_
    refine V_aload_n hZ 0 dL_act_398 rfl rfl (by first | rfl | exact isR_rf _) ?_
    refine V_iconst (v := 1) hZ dL_act_399 (by decide) ?_
    refine V_iload_n hZ 1 dL_act_400 rfl rfl ?_
    refine V_bipush (v := 6) hZ dL_act_401 (by decide) ?_
    refine V_ishr hZ dL_act_403 ?_
    refine V_bipush (v := 20) hZ dL_act_404 (by decide) ?_
    refine V_invSp hZ me_L_below ms_L_below ml_L_22 (c_below Z.1 h (x >>> (6 &&& 31)) (n := 20) (by decide) (by decide)) dL_act_406 rfl rfl ⟨by decide, by decide⟩ (by first | decide | (simp [cat_rf, cat_ref, cat_int, cat_null]; done) | (simp [cat_rf, cat_ref, cat_int, cat_null, Value.category]; done)) ⟨by decide, by decide⟩ ?_
    refine V_iadd hZ dL_act_409 ?_
    refine V.stc (st' := [.int (nI (1 + bl (x >>> (6 &&& 31)) 20)), .ref (aH S)]) (by rw [← nI_add]; rfl) ?_
    generalize bl (x >>> (6 &&& 31)) 20 = p at hp ⊢
    refine V_invV hZ me_X5_pass mi_X5_pass ml_L_93 (c_pass Z.1 R W (d := 1 + p) (by omega) (by omega)) dL_act_410 rfl rfl (by assumption) rfl rfl ⟨by decide, by decide⟩ (by first | decide | (simp [cat_rf, cat_ref, cat_int, cat_null]; done) | (simp [cat_rf, cat_ref, cat_int, cat_null, Value.category]; done)) ⟨by decide, by decide⟩ (fun _ _ hq => hq.elim) ?_
    rintro _ g ⟨rfl, R2⟩
    obtain ⟨N, e1, e2⟩ := aPass (1 + p) (by omega) (by omega)
    rw [e1]
    have nw := N.w
    have na := N.a
    generalize (passS (1 + p) S).1 = T at *
    have gT := R2.hall
    rw [← na]
    refine V_iload hZ dL_act_413 rfl ?_
    refine V_icmp_ne (tgt := 436) hZ dL_act_415 (by decide) (fun z => absurd (rfl) z) (fun _ => ?_)
    refine V_aload_n hZ 0 dL_act_418 rfl rfl (by first | rfl | exact isR_rf _) ?_
    refine V_bipush (v := 8) hZ dL_act_419 (by decide) ?_
    refine V_invVp hZ me_X5_many mi_X5_many ml_L_34 (c_many Z.1 R2 nw (k := 8) (by decide)) dL_act_421 rfl rfl (by assumption) rfl rfl ⟨by decide, by decide⟩ (by first | decide | (simp [cat_rf, cat_ref, cat_int, cat_null]; done) | (simp [cat_rf, cat_ref, cat_int, cat_null, Value.category]; done)) ⟨by decide, by decide⟩ ?_
    refine V_iload hZ dL_act_424 rfl ?_
    refine V_iload hZ dL_act_426 rfl ?_
    refine V_iadd hZ dL_act_428 ?_
    refine V_icmp_ne (tgt := 436) hZ dL_act_429 (by decide) (fun z => absurd (e2) z) (fun _ => ?_)
    refine V_iconst (v := 1) hZ dL_act_432 (by decide) ?_
    refine V_goto (tgt := 437) hZ dL_act_433 (by decide) ?_
    refine V_iret hZ hE rfl (by rfl) dL_act_437 (by decide) (by decide) ?_
    exact ⟨rfl, T, R2, N⟩
  have bFind : bl x 14 ≠ 10 → bl x 14 ≠ 12 → V Z 438 [some (.ref (aH S)), some (.int x), some (.int (nI r)), some (.int (nI k)), some (.int (nI c)), none, none, none, none] [] h 0 0 := by
    intro hz1 hz2
    have hIS := hIS hz1 hz2
    refine V_aload_n hZ 0 dL_act_438 rfl rfl (by first | rfl | exact isR_rf _) ?_
    refine V_iload hZ dL_act_439 rfl ?_
    by_cases hc : c < nCp S
    · by_cases hp : cpPl (cps S c) = 3
      · cases hd : cpRd (cps S c) with
        | none =>
          refine V_invV hZ me_X5_find mi_X5_find ml_L_96 (t_find Z.1 R W hc (Or.inr hd)) dL_act_441 rfl rfl (by assumption) rfl rfl ⟨by decide, by decide⟩ (by first | decide | (simp [cat_rf, cat_ref, cat_int, cat_null]; done) | (simp [cat_rf, cat_ref, cat_int, cat_null, Value.category]; done)) ⟨by decide, by decide⟩ (fun _ _ hq => ?_) (fun _ _ hq => hq.elim)
          obtain ⟨rfl, rfl⟩ := hq
          refine VX_IS hZ hT 29 rfl (by decide) (by decide) ⟨rfl, rfl⟩ (fun q => ?_)
          exact V.sub (by repeat first | exact lsub.rf | refine lsub.same ?_ | refine lsub.drop ?_) (hIS q)
        | some y =>
          obtain ⟨N, e3⟩ := aFind c y hc hp hd
          refine V_invV hZ me_X5_find mi_X5_find ml_L_96 (c_find Z.1 R W hc hp hd) dL_act_441 rfl rfl (by assumption) rfl rfl ⟨by decide, by decide⟩ (by first | decide | (simp [cat_rf, cat_ref, cat_int, cat_null]; done) | (simp [cat_rf, cat_ref, cat_int, cat_null, Value.category]; done)) ⟨by decide, by decide⟩ (fun _ _ hq => hq.elim) ?_
          rintro _ g ⟨rfl, R2⟩
          have nw := N.w
          have na := N.a
          generalize findS S c y = T at *
          have gT := R2.hall
          rw [← na]
          refine V_if_lt (tgt := 463) hZ dL_act_444 (by decide) (fun z => absurd z ((maxI_0 _))) (fun _ => ?_)
          refine V_aload_n hZ 0 dL_act_447 rfl rfl (by first | rfl | exact isR_rf _) ?_
          refine V_iload hZ dL_act_448 rfl ?_
          refine V_iconst (v := 1) hZ dL_act_450 (by decide) ?_
          refine V_invVp hZ me_X5_ofCopy mi_X5_ofCopy ml_L_66 (c_ofCopy Z.1 R2 nw (i := c) (k := 1) (N.c hc) (by decide)) dL_act_451 rfl rfl (by assumption) rfl rfl ⟨by decide, by decide⟩ (by first | decide | (simp [cat_rf, cat_ref, cat_int, cat_null]; done) | (simp [cat_rf, cat_ref, cat_int, cat_null, Value.category]; done)) ⟨by decide, by decide⟩ ?_
          refine V_iconst (v := 2) hZ dL_act_454 (by decide) ?_
          refine V_irem hZ (by decide) dL_act_455 ?_
          refine V_if_ne (tgt := 463) hZ dL_act_456 (by decide) (fun z => absurd (rem2 e3) z) (fun _ => ?_)
          refine V_iconst (v := 1) hZ dL_act_459 (by decide) ?_
          refine V_goto (tgt := 464) hZ dL_act_460 (by decide) ?_
          refine V_iret hZ hE rfl (by rfl) dL_act_464 (by decide) (by decide) ?_
          exact ⟨rfl, T, R2, N⟩
      · refine V_invV hZ me_X5_find mi_X5_find ml_L_96 (t_find Z.1 R W hc (Or.inl hp)) dL_act_441 rfl rfl (by assumption) rfl rfl ⟨by decide, by decide⟩ (by first | decide | (simp [cat_rf, cat_ref, cat_int, cat_null]; done) | (simp [cat_rf, cat_ref, cat_int, cat_null, Value.category]; done)) ⟨by decide, by decide⟩ (fun _ _ hq => ?_) (fun _ _ hq => hq.elim)
        obtain ⟨rfl, rfl⟩ := hq
        refine VX_IS hZ hT 29 rfl (by decide) (by decide) ⟨rfl, rfl⟩ (fun q => ?_)
        exact V.sub (by repeat first | exact lsub.rf | refine lsub.same ?_ | refine lsub.drop ?_) (hIS q)
    · refine V_invV hZ me_X5_find mi_X5_find ml_L_96 (t_findI Z.1 R (fun i hi => nIC i hi hc)) dL_act_441 rfl rfl (by assumption) rfl rfl ⟨by decide, by decide⟩ (by first | decide | (simp [cat_rf, cat_ref, cat_int, cat_null]; done) | (simp [cat_rf, cat_ref, cat_int, cat_null, Value.category]; done)) ⟨by decide, by decide⟩ (fun _ _ hq => ?_) (fun _ _ hq => hq.elim)
      obtain ⟨rfl, rfl⟩ := hq
      refine VX_IO hZ hT 7 rfl (by decide) (by decide) ⟨rfl, rfl⟩ (fun q => ?_)
      exact V.sub (by repeat first | exact lsub.rf | refine lsub.same ?_ | refine lsub.drop ?_) (hIO q)
  have bPay : bl x 14 = 12 → V Z 465 [some (.ref (aH S)), some (.int x), some (.int (nI r)), some (.int (nI k)), some (.int (nI c)), none, none, none, none] [] h 0 0 := by
    intro hz1
    have hIA := hIA hz1
    refine V_aload_n hZ 0 dL_act_465 rfl rfl (by first | rfl | exact isR_rf _) ?_
    refine V_iload_n hZ 2 dL_act_466 rfl rfl ?_
    refine V_iconst (v := 1) hZ dL_act_467 (by decide) ?_
    refine V_iload_n hZ 1 dL_act_468 rfl rfl ?_
    refine V_bipush (v := 6) hZ dL_act_469 (by decide) ?_
    refine V_ishr hZ dL_act_471 ?_
    refine V_bipush (v := 30) hZ dL_act_472 (by decide) ?_
    refine V_invSp hZ me_L_below ms_L_below ml_L_22 (c_below Z.1 h (x >>> (6 &&& 31)) (n := 30) (by decide) (by decide)) dL_act_474 rfl rfl ⟨by decide, by decide⟩ (by first | decide | (simp [cat_rf, cat_ref, cat_int, cat_null]; done) | (simp [cat_rf, cat_ref, cat_int, cat_null, Value.category]; done)) ⟨by decide, by decide⟩ ?_
    have hp := bl_lt (x >>> (6 &&& 31)) (n := 30) (by decide)
    generalize bl (x >>> (6 &&& 31)) 30 = p at hp ⊢
    refine V_iadd hZ dL_act_477 ?_
    refine V.stc (st' := [.int (nI (1 + p)), .int (nI r), .ref (aH S)]) (by rw [← nI_add]; rfl) ?_
    by_cases ho : rdOw (rds S r) < nI (1 + p)
    · refine V_invV hZ me_X5_pay mi_X5_pay ml_L_99 (t_pay Z.1 R W (x := r) hrd (Or.inr ho)) dL_act_478 rfl rfl (by assumption) rfl rfl ⟨by decide, by decide⟩ (by first | decide | (simp [cat_rf, cat_ref, cat_int, cat_null]; done) | (simp [cat_rf, cat_ref, cat_int, cat_null, Value.category]; done)) ⟨by decide, by decide⟩ (fun _ _ hq => ?_) (fun _ _ hq => hq.elim)
      obtain ⟨rfl, rfl⟩ := hq
      refine VX_IA hZ hT 19 rfl (by decide) (by decide) ⟨rfl, rfl⟩ (fun q => ?_)
      exact V.sub (by repeat first | exact lsub.rf | refine lsub.same ?_ | refine lsub.drop ?_) (hIA q)
    · have h1 : ¬ nI (1 + p) < 1 := no_gt (m := 1 + p) (k := 1) (by omega) (by omega)
      refine V_invV hZ me_X5_pay mi_X5_pay ml_L_99 (c_pay Z.1 R W (x := r) hrd h1 ho) dL_act_478 rfl rfl (by assumption) rfl rfl ⟨by decide, by decide⟩ (by first | decide | (simp [cat_rf, cat_ref, cat_int, cat_null]; done) | (simp [cat_rf, cat_ref, cat_int, cat_null, Value.category]; done)) ⟨by decide, by decide⟩ (fun _ _ hq => hq.elim) ?_
      rintro _ g ⟨rfl, R2⟩
      have N := aPay r (nI (1 + p)) hrd h1 ho
      have e0 : rdOw (rds (payS S r (nI (1 + p))) r) = rdOw (rds S r) - nI (1 + p) := by show rdOw (va_up (rds S) r (rdKi (rds S r), rdOw (rds S r) - nI (1 + p)) r) = _; rw [up_eq]
      have nw := N.w
      have na := N.a
      generalize payS S r (nI (1 + p)) = T at *
      have gT := R2.hall
      rw [← na]
      refine V_aload_n hZ 0 dL_act_481 rfl rfl (by first | rfl | exact isR_rf _) ?_
      refine V_iload_n hZ 2 dL_act_482 rfl rfl ?_
      refine V_iconst (v := 2) hZ dL_act_483 (by decide) ?_
      refine V_invVp hZ me_X5_ofReader mi_X5_ofReader ml_L_102 (c_ofReader Z.1 R2 nw (i := r) (k := 2) (N.d hrd) (by decide)) dL_act_484 rfl rfl (by assumption) rfl rfl ⟨by decide, by decide⟩ (by first | decide | (simp [cat_rf, cat_ref, cat_int, cat_null]; done) | (simp [cat_rf, cat_ref, cat_int, cat_null, Value.category]; done)) ⟨by decide, by decide⟩ ?_
      refine V_icmp_ne (tgt := 494) hZ dL_act_487 (by decide) (fun z => absurd (e0.symm) z) (fun _ => ?_)
      refine V_iconst (v := 1) hZ dL_act_490 (by decide) ?_
      refine V_goto (tgt := 495) hZ dL_act_491 (by decide) ?_
      refine V_iret hZ hE rfl (by rfl) dL_act_495 (by decide) (by decide) ?_
      exact ⟨rfl, T, R2, N⟩
  have bElse : bl x 14 ≠ 10 → bl x 14 ≠ 12 → V Z 496 [some (.ref (aH S)), some (.int x), some (.int (nI r)), some (.int (nI k)), some (.int (nI c)), none, none, none, none] [] h 0 0 := by
    intro hz1 hz2
    have hIS := hIS hz1 hz2
    refine V_iload_n hZ 1 dL_act_496 rfl rfl ?_
    refine V_bipush (v := 7) hZ dL_act_497 (by decide) ?_
    refine V_ishr hZ dL_act_499 ?_
    refine V_iconst (v := 2) hZ dL_act_500 (by decide) ?_
    refine V_invSp hZ me_L_below ms_L_below ml_L_22 (c_below Z.1 h (x >>> (7 &&& 31)) (n := 2) (by decide) (by decide)) dL_act_501 rfl rfl ⟨by decide, by decide⟩ (by first | decide | (simp [cat_rf, cat_ref, cat_int, cat_null]; done) | (simp [cat_rf, cat_ref, cat_int, cat_null, Value.category]; done)) ⟨by decide, by decide⟩ ?_
    refine V_if_ne (tgt := 540) hZ dL_act_504 (by decide) (fun cz => ?_) (fun cz => ?_)
    · have hp := bl_lt (x >>> (6 &&& 31)) (n := 4) (by decide)
      refine V_aload_n hZ 0 dL_act_540 rfl rfl (by first | rfl | exact isR_rf _) ?_
      refine V_iload_n hZ 3 dL_act_541 rfl rfl ?_
      refine V_iload_n hZ 1 dL_act_542 rfl rfl ?_
      refine V_bipush (v := 6) hZ dL_act_543 (by decide) ?_
      refine V_ishr hZ dL_act_545 ?_
      refine V_iconst (v := 4) hZ dL_act_546 (by decide) ?_
      refine V_invSp hZ me_L_below ms_L_below ml_L_22 (c_below Z.1 h (x >>> (6 &&& 31)) (n := 4) (by decide) (by decide)) dL_act_547 rfl rfl ⟨by decide, by decide⟩ (by first | decide | (simp [cat_rf, cat_ref, cat_int, cat_null]; done) | (simp [cat_rf, cat_ref, cat_int, cat_null, Value.category]; done)) ⟨by decide, by decide⟩ ?_
      have eb : bl (x >>> (6 &&& 31)) 4 = bl (x >>> (6 &&& 31)) 4 := rfl
      generalize hb : bl (x >>> (6 &&& 31)) 4 = b at hp
      by_cases hk : k < nRc S ∧ b < nRc S
      · obtain ⟨hk, hbr⟩ := hk
        by_cases hl : rcWe (rcs S k) = none ∧ rcWe (rcs S b) = none ∧ k ≠ b
        · refine V_invV hZ me_X5_lay mi_X5_lay ml_L_105 (c_lay Z.1 R W hk hbr hl.1 hl.2.1 hl.2.2) dL_act_550 rfl rfl (by assumption) rfl rfl ⟨by decide, by decide⟩ (by first | decide | (simp [cat_rf, cat_ref, cat_int, cat_null]; done) | (simp [cat_rf, cat_ref, cat_int, cat_null, Value.category]; done)) ⟨by decide, by decide⟩ (fun _ _ hq => hq.elim) ?_
          rintro _ g ⟨rfl, R2, -⟩
          obtain ⟨N, e1⟩ := aLay k b hk hbr hl.1 hl.2.1 hl.2.2
          have kr := N.r hk
          have nw := N.w
          have na := N.a
          generalize layS S k b = T at *
          have gT := R2.hall
          rw [← na]
          refine V_aload_n hZ 0 dL_act_553 rfl rfl (by first | rfl | exact isR_rf _) ?_
          refine V_iload_n hZ 3 dL_act_554 rfl rfl ?_
          refine V_iconst (v := 4) hZ dL_act_555 (by decide) ?_
          refine V_invVp hZ me_X5_ofRecord mi_X5_ofRecord ml_L_87 (c_ofRecord Z.1 R2 nw (i := k) (k := 4) kr (by decide)) dL_act_556 rfl rfl (by assumption) rfl rfl ⟨by decide, by decide⟩ (by first | decide | (simp [cat_rf, cat_ref, cat_int, cat_null]; done) | (simp [cat_rf, cat_ref, cat_int, cat_null, Value.category]; done)) ⟨by decide, by decide⟩ ?_
          refine V_icmp_ne (tgt := 583) hZ dL_act_559 (by decide) (fun z => absurd ((show _ = nI (cn (notLostB T (live T k)) 30) by rw [e1])) z) (fun _ => ?_)
          refine V_aload_n hZ 0 dL_act_562 rfl rfl (by first | rfl | exact isR_rf _) ?_
          refine V_iload_n hZ 3 dL_act_563 rfl rfl ?_
          refine V_iconst (v := 3) hZ dL_act_564 (by decide) ?_
          refine V_invVp hZ me_X5_ofRecord mi_X5_ofRecord ml_L_87 (c_ofRecord Z.1 R2 nw (i := k) (k := 3) kr (by decide)) dL_act_565 rfl rfl (by assumption) rfl rfl ⟨by decide, by decide⟩ (by first | decide | (simp [cat_rf, cat_ref, cat_int, cat_null]; done) | (simp [cat_rf, cat_ref, cat_int, cat_null, Value.category]; done)) ⟨by decide, by decide⟩ ?_
          refine V_iload_n hZ 1 dL_act_568 rfl rfl ?_
          refine V_bipush (v := 6) hZ dL_act_569 (by decide) ?_
          refine V_ishr hZ dL_act_571 ?_
          refine V_iconst (v := 4) hZ dL_act_572 (by decide) ?_
          refine V_invSp hZ me_L_below ms_L_below ml_L_22 (c_below Z.1 g (x >>> (6 &&& 31)) (n := 4) (by decide) (by decide)) dL_act_573 rfl rfl ⟨by decide, by decide⟩ (by first | decide | (simp [cat_rf, cat_ref, cat_int, cat_null]; done) | (simp [cat_rf, cat_ref, cat_int, cat_null, Value.category]; done)) ⟨by decide, by decide⟩ ?_
          rw [hb]
          refine V_icmp_ne (tgt := 583) hZ dL_act_576 (by decide) (fun z => absurd ((show nI (live T k) = nI b by rw [e1])) z) (fun _ => ?_)
          refine V_iconst (v := 1) hZ dL_act_579 (by decide) ?_
          refine V_goto (tgt := 584) hZ dL_act_580 (by decide) ?_
          refine V_iret hZ hE rfl (by rfl) dL_act_584 (by decide) (by decide) ?_
          exact ⟨rfl, T, R2, N⟩
        · refine V_invV hZ me_X5_lay mi_X5_lay ml_L_105 (t_layX Z.1 R W hk hbr (Classical.byCases (fun z1 : rcWe (rcs S k) = none => Classical.byCases (fun z2 : rcWe (rcs S b) = none => Or.inr (Or.inr (Classical.not_not.mp (fun z3 => hl ⟨z1, z2, z3⟩)))) (fun z2 => Or.inr (Or.inl z2))) (fun z1 => Or.inl z1))) dL_act_550 rfl rfl (by assumption) rfl rfl ⟨by decide, by decide⟩ (by first | decide | (simp [cat_rf, cat_ref, cat_int, cat_null]; done) | (simp [cat_rf, cat_ref, cat_int, cat_null, Value.category]; done)) ⟨by decide, by decide⟩ (fun _ _ hq => ?_) (fun _ _ hq => hq.elim)
          obtain ⟨rfl, rfl⟩ := hq
          refine VX_IS hZ hT 32 rfl (by decide) (by decide) ⟨rfl, rfl⟩ (fun q => ?_)
          exact V.sub (by repeat first | exact lsub.rf | refine lsub.same ?_ | refine lsub.drop ?_) (hIS q)
      · refine V_invV hZ me_X5_lay mi_X5_lay ml_L_105 (t_layI Z.1 R W (Classical.byCases (fun z1 : k < nRc S => Or.inr (fun i hi z => by have := nI_inj (by omega) (by omega) z; exact hk ⟨z1, by omega⟩)) (fun z1 => Or.inl (fun i hi => nIO i hi z1)))) dL_act_550 rfl rfl (by assumption) rfl rfl ⟨by decide, by decide⟩ (by first | decide | (simp [cat_rf, cat_ref, cat_int, cat_null]; done) | (simp [cat_rf, cat_ref, cat_int, cat_null, Value.category]; done)) ⟨by decide, by decide⟩ (fun _ _ hq => ?_) (fun _ _ hq => hq.elim)
        obtain ⟨rfl, rfl⟩ := hq
        refine VX_IO hZ hT 10 rfl (by decide) (by decide) ⟨rfl, rfl⟩ (fun q => ?_)
        exact V.sub (by repeat first | exact lsub.rf | refine lsub.same ?_ | refine lsub.drop ?_) (hIO q)
    · refine V_aload_n hZ 0 dL_act_507 rfl rfl (by first | rfl | exact isR_rf _) ?_
      refine V_iconst (v := -1) hZ dL_act_508 (by decide) ?_
      refine V_iconst (v := 1) hZ dL_act_509 (by decide) ?_
      refine V_iload_n hZ 1 dL_act_510 rfl rfl ?_
      refine V_iconst (v := 4) hZ dL_act_511 (by decide) ?_
      refine V_ishr hZ dL_act_512 ?_
      refine V_bipush (v := 100) hZ dL_act_513 (by decide) ?_
      refine V_invSp hZ me_L_below ms_L_below ml_L_22 (c_below Z.1 h (x >>> (4 &&& 31)) (n := 100) (by decide) (by decide)) dL_act_515 rfl rfl ⟨by decide, by decide⟩ (by first | decide | (simp [cat_rf, cat_ref, cat_int, cat_null]; done) | (simp [cat_rf, cat_ref, cat_int, cat_null, Value.category]; done)) ⟨by decide, by decide⟩ ?_
      have hp := bl_lt (x >>> (4 &&& 31)) (n := 100) (by decide)
      generalize bl (x >>> (4 &&& 31)) 100 = p at hp ⊢
      refine V_iadd hZ dL_act_518 ?_
      refine V_bipush (v := 50) hZ dL_act_519 (by decide) ?_
      refine V.stc (st' := [.int (nI 50), .int (nI (1 + p)), .int (orN none), .ref (aH S)]) (by rw [← nI_add]; rfl) ?_
      by_cases hn : nRc S < 20
      · refine V_invV hZ me_X5_record mi_X5_record ml_L_30 (c_record Z.1 R W hn (o := none) (fun y hy => by cases hy) (t := 1 + p) (y := 50) (by omega) (by omega) (by decide)) dL_act_521 rfl rfl (by assumption) rfl rfl ⟨by decide, by decide⟩ (by first | decide | (simp [cat_rf, cat_ref, cat_int, cat_null]; done) | (simp [cat_rf, cat_ref, cat_int, cat_null, Value.category]; done)) ⟨by decide, by decide⟩ (fun _ _ hq => hq.elim) ?_
        rintro _ g ⟨rfl, q, q2, q3, R2⟩
        obtain ⟨N, e1⟩ := aRec q q2 q3 (1 + p) hn (by omega) (by omega)
        have nw := N.w
        have na := N.a
        generalize addRc S q q2 q3 (none, nI (1 + p), nI 50, none, 0) = T at *
        have gT := R2.hall
        rw [← na]
        refine V_aload_n hZ 0 dL_act_524 rfl rfl (by first | rfl | exact isR_rf _) ?_
        refine V_iconst (v := 2) hZ dL_act_525 (by decide) ?_
        refine V_invVp hZ me_X5_many mi_X5_many ml_L_34 (c_many Z.1 R2 nw (k := 2) (by decide)) dL_act_526 rfl rfl (by assumption) rfl rfl ⟨by decide, by decide⟩ (by first | decide | (simp [cat_rf, cat_ref, cat_int, cat_null]; done) | (simp [cat_rf, cat_ref, cat_int, cat_null, Value.category]; done)) ⟨by decide, by decide⟩ ?_
        refine V_iconst (v := 1) hZ dL_act_529 (by decide) ?_
        refine V_isub hZ dL_act_530 ?_
        refine V_icmp_lt (tgt := 538) hZ dL_act_531 (by decide) (fun z => absurd z (e1)) (fun _ => ?_)
        refine V_iconst (v := 1) hZ dL_act_534 (by decide) ?_
        refine V_goto (tgt := 539) hZ dL_act_535 (by decide) ?_
        refine V_iret hZ hE rfl (by rfl) dL_act_539 (by decide) (by decide) ?_
        exact ⟨rfl, T, R2, N⟩
      · refine V_invV hZ me_X5_record mi_X5_record ml_L_30 (t_record Z.1 R W (by omega) (o := none) (fun y hy => by cases hy) (t := 1 + p) (y := 50) (by omega) (by omega) (by decide)) dL_act_521 rfl rfl (by assumption) rfl rfl ⟨by decide, by decide⟩ (by first | decide | (simp [cat_rf, cat_ref, cat_int, cat_null]; done) | (simp [cat_rf, cat_ref, cat_int, cat_null, Value.category]; done)) ⟨by decide, by decide⟩ (fun _ _ hq => ?_) (fun _ _ hq => hq.elim)
        obtain ⟨rfl, rfl⟩ := hq
        refine VX_IS hZ hT 31 rfl (by decide) (by decide) ⟨rfl, rfl⟩ (fun q => ?_)
        exact V.sub (by repeat first | exact lsub.rf | refine lsub.same ?_ | refine lsub.drop ?_) (hIS q)
  rcases (by omega : bl x 14 = 0 ∨ bl x 14 = 1 ∨ bl x 14 = 2 ∨ bl x 14 = 3 ∨ bl x 14 = 4 ∨ bl x 14 = 5 ∨ bl x 14 = 6 ∨ bl x 14 = 7 ∨ bl x 14 = 8 ∨ bl x 14 = 9 ∨ bl x 14 = 10 ∨ bl x 14 = 11 ∨ bl x 14 = 12 ∨ bl x 14 = 13) with hz | hz | hz | hz | hz | hz | hz | hz | hz | hz | hz | hz | hz | hz
  · refine V.stc (st' := [.int (nI 0)]) (by rw [← hz]) ?_
    refine V_tableIn (off := 67) (tgt := 112) hZ dL_act_45 (by decide) (by decide) (by decide) (by decide) ?_
    exact bCopy (by rw [hz]; decide) (by rw [hz]; decide)
  · refine V.stc (st' := [.int (nI 1)]) (by rw [← hz]) ?_
    refine V_tableIn (off := 67) (tgt := 112) hZ dL_act_45 (by decide) (by decide) (by decide) (by decide) ?_
    exact bCopy (by rw [hz]; decide) (by rw [hz]; decide)
  · refine V.stc (st' := [.int (nI 2)]) (by rw [← hz]) ?_
    refine V_tableIn (off := 99) (tgt := 144) hZ dL_act_45 (by decide) (by decide) (by decide) (by decide) ?_
    exact bLend (by rw [hz]; decide) (by rw [hz]; decide)
  · refine V.stc (st' := [.int (nI 3)]) (by rw [← hz]) ?_
    refine V_tableIn (off := 99) (tgt := 144) hZ dL_act_45 (by decide) (by decide) (by decide) (by decide) ?_
    exact bLend (by rw [hz]; decide) (by rw [hz]; decide)
  · refine V.stc (st' := [.int (nI 4)]) (by rw [← hz]) ?_
    refine V_tableIn (off := 99) (tgt := 144) hZ dL_act_45 (by decide) (by decide) (by decide) (by decide) ?_
    exact bLend (by rw [hz]; decide) (by rw [hz]; decide)
  · refine V.stc (st' := [.int (nI 5)]) (by rw [← hz]) ?_
    refine V_tableIn (off := 154) (tgt := 199) hZ dL_act_45 (by decide) (by decide) (by decide) (by decide) ?_
    exact bRenew (by rw [hz]; decide) (by rw [hz]; decide)
  · refine V.stc (st' := [.int (nI 6)]) (by rw [← hz]) ?_
    refine V_tableIn (off := 197) (tgt := 242) hZ dL_act_45 (by decide) (by decide) (by decide) (by decide) ?_
    exact bBack (by rw [hz]; decide) (by rw [hz]; decide)
  · refine V.stc (st' := [.int (nI 7)]) (by rw [← hz]) ?_
    refine V_tableIn (off := 257) (tgt := 302) hZ dL_act_45 (by decide) (by decide) (by decide) (by decide) ?_
    exact bAwait (by rw [hz]; decide) (by rw [hz]; decide)
  · refine V.stc (st' := [.int (nI 8)]) (by rw [← hz]) ?_
    refine V_tableIn (off := 257) (tgt := 302) hZ dL_act_45 (by decide) (by decide) (by decide) (by decide) ?_
    exact bAwait (by rw [hz]; decide) (by rw [hz]; decide)
  · refine V.stc (st' := [.int (nI 9)]) (by rw [← hz]) ?_
    refine V_tableIn (off := 307) (tgt := 352) hZ dL_act_45 (by decide) (by decide) (by decide) (by decide) ?_
    exact bLeave (by rw [hz]; decide) (by rw [hz]; decide)
  · refine V.stc (st' := [.int (nI 10)]) (by rw [← hz]) ?_
    refine V_tableIn (off := 328) (tgt := 373) hZ dL_act_45 (by decide) (by decide) (by decide) (by decide) ?_
    exact bPass
  · refine V.stc (st' := [.int (nI 11)]) (by rw [← hz]) ?_
    refine V_tableIn (off := 393) (tgt := 438) hZ dL_act_45 (by decide) (by decide) (by decide) (by decide) ?_
    exact bFind (by rw [hz]; decide) (by rw [hz]; decide)
  · refine V.stc (st' := [.int (nI 12)]) (by rw [← hz]) ?_
    refine V_tableIn (off := 420) (tgt := 465) hZ dL_act_45 (by decide) (by decide) (by decide) (by decide) ?_
    exact bPay hz
  · refine V.stc (st' := [.int (nI 13)]) (by rw [← hz]) ?_
    refine V_tableOut (tgt := 496) hZ dL_act_45 (by decide) (by decide) ?_
    exact bElse (by rw [hz]; decide) (by rw [hz]; decide)

