/-! the checks: copies, readers, sums -/
theorem live_id {t : Nat} {S : St} {i : Nat} (h : rcWe (rcs S i) = none) : live S i = i := lv_stop (we := weS S) h 20
theorem cp_ok {t : Nat} {S : St} (ht : t ≤ 60) (I : Inv t S) {c : Nat} (hc : c < nCp S) : CpOK S c := by
  have htb := td_b I.1 (by omega)
  have hm : (-1 : Int32).toInt = -1 := by decide
  have h0 : (0 : Int32).toInt = 0 := by decide
  obtain ⟨hl, hs⟩ := I.2.1.1 c hc
  refine ⟨live_id (t := t) hl, ?_⟩
  obtain ⟨-, ⟨a1, a2, a3, a4⟩ | ⟨a1, ⟨x, x4, hx⟩, a3, a4, a5, -⟩ | ⟨a1, ⟨x, x4, hx⟩, a3, a4, a5⟩ | ⟨a1, ⟨x, x4, hx⟩, a3, a4⟩⟩ := id hs
  · exact Or.inl ⟨a1, a2, a3, a4⟩
  · refine Or.inr (Or.inl ⟨a1, ⟨x, by omega, hx⟩, fun z => by rw [z] at a3; omega, ?_, ?_⟩)
    · have e : (tdy S - cpDy (cps S c)).toInt = (tdy S).toInt - (cpDy (cps S c)).toInt := by
        rw [Int32.toInt_sub]
        exact Int.bmod_eq_of_le (by omega) (by omega)
      unfold lateC lateN maxI
      by_cases h : cpDy (cps S c) < tdy S
      · rw [if_pos ⟨a1, h⟩, if_pos]
        rw [Int32.lt_iff_toInt_lt] at h ⊢
        omega
      · rw [if_neg (fun z => h z.2), if_neg]
        rw [Int32.lt_iff_toInt_lt] at h ⊢
        omega
    · have := (late_29 I.1 (by omega) hs a1).2
      rw [Int32.le_iff_toInt_le]
      have h29 : (29 : Int32).toInt = 29 := by decide
      omega
  · refine Or.inr (Or.inr (Or.inl ⟨a1, ⟨x, by omega, hx⟩, fun z => by rw [z] at a3; omega, a5, ?_, ?_⟩))
    · rw [Int32.lt_iff_toInt_lt]; omega
    · have := i6 htb.1 (by omega) (k := 6) (by omega)
      have e : tdy S + 6 = tdy S + nI 6 := rfl
      rw [e, Int32.lt_iff_toInt_lt]; omega
  · exact Or.inr (Or.inr (Or.inr ⟨a1, ⟨x, by omega, hx⟩, a3, a4⟩))
theorem cn_inj {g : Nat → Nat} {n : Nat} {P : Nat → Bool} : ∀ (k : Nat) (Q : Nat → Bool), (∀ c, c < k → P c = true → g c < n ∧ Q (g c) = true) → (∀ c c', c < k → c' < k → P c = true → P c' = true → g c = g c' → c = c') → cn P k ≤ cn Q n := by
  intro k
  induction k with
  | zero => intro Q _ _; exact Nat.zero_le _
  | succ k ih =>
    intro Q h1 h2
    cases hp : P k with
    | false =>
      rw [cn_f hp]
      exact ih Q (fun c hc => h1 c (by omega)) (fun c c' hc hc' => h2 c c' (by omega) (by omega))
    | true =>
      obtain ⟨g1, g2⟩ := h1 k (by omega) hp
      have e := cn_up (P := fun i => Q i && decide (i ≠ g k)) (Q := Q) (i := g k) (fun i hi => by simp [hi]) n g1
      have hz : (true && decide (g k ≠ g k)) = false := by simp
      rw [g2, hz] at e
      simp only [Bool.toNat_true, Bool.toNat_false] at e
      have h3 := ih (fun i => Q i && decide (i ≠ g k)) (fun c hc hpc => by
        obtain ⟨g3, g4⟩ := h1 c (by omega) hpc
        have : g c ≠ g k := fun z => by have := h2 c k (by omega) (by omega) hpc hp z; omega
        exact ⟨g3, by simp [g4, this]⟩) (fun c c' hc hc' => h2 c c' (by omega) (by omega))
      rw [cn_t hp]
      omega
theorem cn_or {P Q R : Nat → Bool} (h : ∀ c, P c = true → Q c = true ∨ R c = true) : ∀ k, cn P k ≤ cn Q k + cn R k := by
  intro k
  induction k with
  | zero => exact Nat.le_refl _
  | succ k ih =>
    have : (P k).toNat ≤ (Q k).toNat + (R k).toNat := by
      cases hp : P k with
      | false => exact Nat.zero_le _
      | true =>
        rcases h k hp with z | z <;> rw [z] <;> simp
    simp only [cn]; omega
theorem cn_ex {P : Nat → Bool} : ∀ {k : Nat}, 0 < cn P k → ∃ c, c < k ∧ P c = true := by
  intro k
  induction k with
  | zero => intro h; cases h
  | succ k ih =>
    intro h
    cases hp : P k with
    | true => exact ⟨k, by omega, hp⟩
    | false =>
      rw [cn_f hp] at h
      obtain ⟨c, hc, e⟩ := ih h
      exact ⟨c, by omega, e⟩
theorem late_pos {S : St} {x c : Nat} (h : lateB S x c = true) : c < nCp S ∧ cpRd (cps S c) = some x ∧ cpPl (cps S c) = 1 := by
  simp only [lateB, decide_eq_true_eq] at h
  obtain ⟨h1, h2, h3⟩ := h
  refine ⟨h1, h2, Classical.byContradiction fun hp => ?_⟩
  rw [late_no hp] at h3
  exact absurd h3 (by decide)
theorem reason0 {S : St} {x c : Nat} (h : reasonN S x c = 0) : (cpPl (cps S c) = 0 ∨ asideB S (some x) (cpRc (cps S c)) c = true) ∧ ¬ 50 < rdOw (rds S x) ∧ ¬ 0 < nI (cn (lateB S x) 30) := by
  unfold reasonN at h
  by_cases h1 : ¬ cpPl (cps S c) = 0 ∧ asideB S (some x) (cpRc (cps S c)) c = false
  · rw [if_pos h1] at h; cases h
  · rw [if_neg h1] at h
    by_cases h2 : moreN (rdKi (rds S x)) ≤ nI (cn (ofB S (some x) 1) 30)
    · rw [if_pos h2] at h; cases h
    · rw [if_neg h2] at h
      by_cases h3 : 50 < rdOw (rds S x)
      · rw [if_pos h3] at h; cases h
      · rw [if_neg h3] at h
        by_cases h4 : 0 < nI (cn (lateB S x) 30)
        · rw [if_pos h4] at h; cases h
        · refine ⟨?_, h3, h4⟩
          by_cases h5 : cpPl (cps S c) = 0
          · exact Or.inl h5
          · right
            cases hb : asideB S (some x) (cpRc (cps S c)) c with
            | true => rfl
            | false => exact absurd ⟨h5, hb⟩ h1
theorem fine_sum {t : Nat} {S : St} (ht : t ≤ 60) (I : Inv t S) (x : Nat) : ∀ k, k ≤ 30 → 0 ≤ (sm (fineF S x) k).toInt ∧ (sm (fineF S x) k).toInt ≤ 40 * cn (lateB S x) k := by
  have h0 : (0 : Int32).toInt = 0 := by decide
  intro k
  induction k with
  | zero => intro _; simp [sm, cn, h0]
  | succ k ih =>
    intro hk
    obtain ⟨i1, i2⟩ := ih (by omega)
    have hcn := cn_le (P := lateB S x) k
    have hf : 0 ≤ (fineF S x k).toInt ∧ (fineF S x k).toInt ≤ 40 * (lateB S x k).toNat := by
      unfold fineF
      by_cases h : k < nCp S ∧ cpRd (cps S k) = some x
      · rw [if_pos h]
        have e : fineN (cpPl (cps S k)) (cpDy (cps S k)) (tdy S) = minI 40 (2 * lateC S k (tdy S)) := rfl
        rw [e]
        by_cases hp : cpPl (cps S k) = 1
        · have hl := late_29 I.1 (by omega) (I.2.1.1 k h.1).2 hp
          have hb := fine_b hl.1 hl.2
          refine ⟨hb.1, ?_⟩
          by_cases hz : 0 < lateC S k (tdy S)
          · have : lateB S x k = true := by simp only [lateB, decide_eq_true_eq]; exact ⟨h.1, h.2, hz⟩
            rw [this]
            simp
            omega
          · rw [Int32.lt_iff_toInt_lt, h0] at hz
            have : lateB S x k = false := by
              cases hb2 : lateB S x k with
              | false => rfl
              | true =>
                simp only [lateB, decide_eq_true_eq] at hb2
                have := hb2.2.2
                rw [Int32.lt_iff_toInt_lt, h0] at this
                omega
            rw [this]
            simp
            omega
        · rw [late_no hp]
          have e2 : (minI 40 (2 * 0)).toInt = 0 := by decide
          rw [e2]
          omega
      · rw [if_neg h, h0]
        omega
    have ha := i_add i1 hf.1 (by
      have : (lateB S x k).toNat ≤ 1 := by cases lateB S x k <;> decide
      omega)
    show 0 ≤ (sm (fineF S x) k + fineF S x k).toInt ∧ (sm (fineF S x) k + fineF S x k).toInt ≤ 40 * ((cn (lateB S x) k + (lateB S x k).toNat : Nat) : Int)
    rw [ha]
    omega
theorem rd_ok {t : Nat} {S : St} (ht : t ≤ 60) (I : Inv t S) {x : Nat} (hx : x < 4) : RdOK S x := by
  have h0 : (0 : Int32).toInt = 0 := by decide
  have l1 := cn_le (P := ofB S (some x) 1) 30
  have l2 := cn_le (P := ofB S (some x) 2) 30
  have l3 := cn_le (P := waitsB S x) 20
  have l4 := cn_le (P := lateB S x) 30
  have l5 := cn_le (P := mayB S x) 30
  have l6 := cn_le (P := atB S 0) 30
  obtain ⟨⟨k, hk, hki⟩, ho⟩ := I.1.2.2.2.2.2.1 x hx
  have hlent := I.2.1.2 x hx
  have late_le : cn (lateB S x) 30 ≤ cn (ofB S (some x) 1) 30 := cn_mono (fun c h => by
    obtain ⟨a1, a2, a3⟩ := late_pos h
    simp only [ofB, decide_eq_true_eq]
    exact ⟨a1, a3, a2⟩) 30
  have asd_le : cn (ofB S (some x) 2) 30 ≤ cn (waitsB S x) 20 := by
    refine cn_inj (g := fun c => cpRc (cps S c)) 30 (waitsB S x) (fun c _ h => ?_) (fun c c' _ _ h h' e => ?_)
    · simp only [ofB, decide_eq_true_eq] at h
      obtain ⟨a1, a2, a3⟩ := h
      have hr := W_rec I.1.w a1
      have hb := I.1.w.2.1
      have hm := ((I.2.2 c a1).1 x ⟨a2, a3, rfl⟩).1
      refine ⟨by omega, ?_⟩
      simp only [waitsB, hr, decide_true, Bool.true_and]
      simpa using hm
    · simp only [ofB, decide_eq_true_eq] at h h'
      exact (((I.2.2 c h.1).1 x ⟨h.2.1, h.2.2, rfl⟩).2 c' h'.1 ⟨h'.2.1, h'.2.2, e.symm⟩).symm
  have may_le : cn (mayB S x) 30 ≤ cn (atB S 0) 30 + cn (ofB S (some x) 2) 30 := cn_or (fun c h => by
    simp only [mayB, decide_eq_true_eq] at h
    rcases (reason0 h.2).1 with z | z
    · left; simp only [atB, decide_eq_true_eq]; exact ⟨h.1, z⟩
    · right
      obtain ⟨z1, z2⟩ := asB_iff.mp z
      simp only [ofB, decide_eq_true_eq]
      exact ⟨z1, z2.1, z2.2.1⟩) 30
  refine ⟨?_, nI_nlt late_le (by omega), nI_nlt asd_le (by omega), ?_, ?_, ?_, ?_⟩
  · show ¬ 2 + 2 * rdKi (rds S x) < nI (cn (ofB S (some x) 1) 30)
    have e : lentN S x = cn (ofB S (some x) 1) 30 := rfl
    rw [hki] at hlent ⊢
    have e4 : (moreN (nI k)).toInt = 2 + 2 * k ∧ (2 + 2 * nI k).toInt = 2 + 2 * (k : Int) := by
      rcases (by omega : k = 0 ∨ k = 1) with rfl | rfl <;> decide
    rw [Int32.lt_iff_toInt_lt, nI_toInt (by omega)]
    omega
  · show ¬ rdOw (rds S x) < 0
    rw [Int32.lt_iff_toInt_lt]; omega
  · show ¬ nI (cn (atB S 0) 30) + nI (cn (ofB S (some x) 2) 30) < nI (cn (mayB S x) 30)
    rw [nI_add]
    exact nI_nlt may_le (by omega)
  · by_cases hz : cn (mayB S x) 30 = 0
    · left
      rw [hz]
      decide
    · right
      obtain ⟨c, hc, hm⟩ := cn_ex (P := mayB S x) (k := 30) (by omega)
      simp only [mayB, decide_eq_true_eq] at hm
      exact ⟨(reason0 hm.2).2.1, (reason0 hm.2).2.2⟩
  · show sm (fineF S x) 30 ≤ 40 * nI (cn (lateB S x) 30)
    have h1 := fine_sum ht I x 30 (Nat.le_refl _)
    have h40 : (40 : Int32).toInt = 40 := by decide
    have e : (40 * nI (cn (lateB S x) 30)).toInt = 40 * (cn (lateB S x) 30 : Int) := by
      rw [Int32.toInt_mul, h40, nI_toInt (by omega)]
      exact Int.bmod_eq_of_le (by omega) (by omega)
    rw [Int32.le_iff_toInt_le, e]
    exact h1.2
/-! sums over the readers -/
theorem cn4 {P : Nat → Nat → Bool} {Q : Nat → Nat} (h : ∀ c, Q c = (P 0 c).toNat + (P 1 c).toNat + (P 2 c).toNat + (P 3 c).toNat) : ∀ k, smN Q k = cn (P 0) k + cn (P 1) k + cn (P 2) k + cn (P 3) k := by
  intro k
  induction k with
  | zero => rfl
  | succ k ih => have := h k; simp only [smN, cn]; omega
theorem sm4 (f : Nat → Nat) : sm (fun x => nI (f x)) 4 = nI (f 0 + f 1 + f 2 + f 3) := by
  show (((0 + nI (f 0)) + nI (f 1)) + nI (f 2)) + nI (f 3) = _
  rw [show (0 : Int32) = nI 0 from rfl, nI_add, nI_add, nI_add, nI_add, Nat.zero_add]
theorem len4 : ∀ (l : List Nat), l.Nodup → (∀ x ∈ l, x < 4) → l.length = cn (fun x => l.contains x) 4 := by
  intro l
  induction l with
  | nil => intro _ _; rfl
  | cons y l ih =>
    intro hn hl
    obtain ⟨n1, n2⟩ := List.nodup_cons.mp hn
    have e := cn_up (P := fun x => (y :: l).contains x) (Q := fun x => l.contains x) (i := y) (fun c hc => by simp [hc]) 4 (hl y List.mem_cons_self)
    have e1 : l.contains y = false := by simpa using n1
    have e2 : (y :: l).contains y = true := by simp
    rw [e1, e2] at e
    have h2 := ih n2 (fun x hx => hl x (List.mem_cons_of_mem _ hx))
    simp only [Bool.toNat_true, Bool.toNat_false] at e
    show l.length + 1 = _
    omega
theorem cn_smN {P : Nat → Bool} : ∀ k, smN (fun c => (P c).toNat) k = cn P k := by
  intro k
  induction k with
  | zero => rfl
  | succ k ih => simp only [smN, cn, ih]
theorem at_sum {t : Nat} {S : St} (I : Inv t S) {p : Int32} (hp : p = 1 ∨ p = 2) : nI (cn (atB S p) 30) = sm (fun x => nI (cn (ofB S (some x) p) 30)) 4 := by
  rw [sm4, ← cn_smN]
  congr 1
  refine cn4 (P := fun x => ofB S (some x) p) (fun c => ?_) 30
  by_cases hc : c < nCp S
  · by_cases h : cpPl (cps S c) = p
    · obtain ⟨x, x4, hx⟩ : ∃ x, x < 4 ∧ cpRd (cps S c) = some x := by
        obtain ⟨-, ⟨a, -⟩ | ⟨-, a, -⟩ | ⟨-, a, -⟩ | ⟨a, -⟩⟩ := (I.2.1.1 c hc).2
        · rw [h] at a; rcases hp with z | z <;> rw [z] at a <;> cases a
        · exact a
        · exact a
        · rw [h] at a; rcases hp with z | z <;> rw [z] at a <;> cases a
      simp only [atB, ofB, hc, h, hx, true_and, decide_true, Option.some.injEq]
      rcases (by omega : x = 0 ∨ x = 1 ∨ x = 2 ∨ x = 3) with rfl | rfl | rfl | rfl <;> decide
    · simp [atB, ofB, h]
  · simp [atB, ofB, hc]
theorem wait_sum {t : Nat} {S : St} (I : Inv t S) : ∃ w, w < 161 ∧ smN (waitF S) 20 = w ∧ sm (fun x => factD S x 3) 4 = nI w := by
  have e := cn4 (P := fun x => waitsB S x) (Q := waitF S) (fun c => by
    unfold waitF
    by_cases hc : c < nRc S
    · rw [if_pos hc, len4 (lin S c) (W_nod I.1.w hc) (fun x hx => by have := (W_lin I.1.w hc).2 x hx; rw [I.1.2.2.1] at this; exact this)]
      simp only [waitsB, hc, decide_true, Bool.true_and, cn]
      omega
    · rw [if_neg hc]
      simp [waitsB, hc]) 20
  refine ⟨smN (waitF S) 20, ?_, rfl, ?_⟩
  · rw [e]
    have c0 := cn_le (P := waitsB S 0) 20
    have c1 := cn_le (P := waitsB S 1) 20
    have c2 := cn_le (P := waitsB S 2) 20
    have c3 := cn_le (P := waitsB S 3) 20
    omega
  · have := sm4 (fun x => cn (waitsB S x) 20)
    rw [e]
    exact this
theorem owe_sum {t : Nat} {S : St} (I : Inv t S) : totN S 9 = sm (fun x => factD S x 2) 4 := by
  show sm (owedF S) 8 = _
  have h4 := I.1.2.2.1
  simp only [sm, owedF, h4, factD]
  simp
