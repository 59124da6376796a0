/-! the checks: records -/
theorem days_any (k : Int32) : 0 ≤ (daysN k).toInt ∧ (daysN k).toInt ≤ 28 := by
  unfold daysN
  split
  · decide
  · decide
theorem there_b {t : Nat} {S : St} (ht : t ≤ 60) (I : Inv t S) {c : Nat} (hc : c < nCp S) : 0 ≤ (thereC S c).toInt ∧ (thereC S c).toInt ≤ 28 := by
  have htb := td_b I.1 (by omega)
  have h0 : (0 : Int32).toInt = 0 := by decide
  unfold thereC thereN
  split
  · rename_i hp
    obtain ⟨-, ⟨a, -⟩ | ⟨-, -, a3, a4, a5, -⟩ | ⟨a, -⟩ | ⟨a, -⟩⟩ := (I.2.1.1 c hc).2
    · rw [hp] at a; cases a
    · have e : (cpDy (cps S c) - tdy S).toInt = (cpDy (cps S c)).toInt - (tdy S).toInt := by
        rw [Int32.toInt_sub]
        exact Int.bmod_eq_of_le (by omega) (by omega)
      unfold maxI
      split
      · rename_i h
        rw [Int32.lt_iff_toInt_lt] at h
        omega
      · rw [h0]; omega
    · rw [hp] at a; cases a
    · rw [hp] at a; cases a
  · split
    · exact days_any _
    · rw [h0]; omega
def TB (B : Int) (T : St) (l : Nat) : Prop := ∀ c, c < nCp T → cpRc (cps T c) = l → 0 ≤ (cpTh (cps T c)).toInt ∧ (cpTh (cps T c)).toInt ≤ B
theorem rk_tb {t : Nat} {S : St} (ht : t ≤ 60) (I : Inv t S) (l : Nat) : TB 28 (rkS S l) l := by
  have key : ∀ k, nrm (itN (rkStep l) k S) = nrm S ∧ ∀ c, c < k → c < nCp (itN (rkStep l) k S) → cpRc (cps (itN (rkStep l) k S) c) = l → 0 ≤ (cpTh (cps (itN (rkStep l) k S) c)).toInt ∧ (cpTh (cps (itN (rkStep l) k S) c)).toInt ≤ 28 := by
    intro k
    induction k with
    | zero => exact ⟨rfl, fun c h => absurd h (Nat.not_lt_zero _)⟩
    | succ k ih =>
      rw [itN]
      generalize itN (rkStep l) k S = U at *
      obtain ⟨h1, h2⟩ := ih
      unfold rkStep
      by_cases h : k < nCp U ∧ cpRc (cps U k) = l
      · rw [if_pos h]
        refine ⟨nrm_set.trans h1, fun c hc hc2 hr => ?_⟩
        by_cases hck : c = k
        · subst hck
          rw [cp_eq]
          exact there_b ht (inv_same h1 I) hc2
        · rw [cp_ne hck] at hr ⊢
          exact h2 c (by omega) hc2 hr
      · rw [if_neg h]
        refine ⟨h1, fun c hc hc2 hr => ?_⟩
        by_cases hck : c = k
        · subst hck; exact absurd ⟨hc2, hr⟩ h
        · exact h2 c (by omega) hc2 hr
  intro c hc hr
  have hn : nCp (rkS S l) = nCp S := nrm_nCp nrm_rk
  have h30 := I.1.n
  have k30 := key 30
  have e : itN (rkStep l) 30 S = rkS S l := rfl
  rw [e] at k30
  generalize rkS S l = U at *
  exact k30.2 c (by omega) hc hr
theorem ft_none {T : St} {r : Nat} : ∀ {k : Nat}, ftN T r k = none → ∀ c, c < k → notLostB T r c = false := by
  intro k
  induction k with
  | zero => intro _ c h; exact absurd h (Nat.not_lt_zero _)
  | succ k ih =>
    intro h c hc
    cases hb : ftB T r (ftN T r k) k with
    | true => rw [ftN_t hb] at h; cases h
    | false =>
      rw [ftN_f hb] at h
      by_cases hck : c = k
      · subst hck
        rw [h] at hb
        simpa [ftB, notLostB] using hb
      · exact ih h c (by omega)
theorem nrm_none {S T : St} (h : nrm T = nrm S) (r x : Nat) : noneA T r x = noneA S r x := by
  show noneA (nrm T) r x = noneA (nrm S) r x; rw [h]
theorem nrm_nl {S T : St} (h : nrm T = nrm S) (r c : Nat) : notLostB T r c = notLostB S r c := by
  show notLostB (nrm T) r c = notLostB (nrm S) r c; rw [h]
theorem serv_ok {t : Nat} (ht : t ≤ 60) {x r : Nat} : ∀ (l : List Nat) (T : St) (B : Int), Inv t T → TB B T r → 0 ≤ B → B + 28 * l.length ≤ 1000 → x ∈ l → noneA T r x = true → ((servN x r l T).1 = -1 ∧ ∀ c, c < 30 → notLostB T r c = false) ∨ 0 ≤ (servN x r l T).1.toInt := by
  intro l
  induction l with
  | nil => intro T B _ _ _ _ hx; cases hx
  | cons y l ih =>
    intro T B I hB h0 h1 hx hna
    rw [List.length_cons] at h1
    rw [servN]
    by_cases hy : noneA T r y = true
    · rw [if_pos hy]
      cases hf : ftN T r 30 with
      | none => exact Or.inl ⟨rfl, ft_none hf⟩
      | some c =>
        obtain ⟨f1, f2, -⟩ := ft_prop hf
        by_cases hyx : y = x
        · show (((if y = x then (cpTh (cps T c), T) else _).1 = _) ∧ _) ∨ 0 ≤ (if y = x then (cpTh (cps T c), T) else _).1.toInt
          rw [if_pos hyx]
          exact Or.inr (hB c f1 f2).1
        · have hx' : x ∈ l := by
            rcases List.mem_cons.mp hx with z | z
            · exact absurd z.symm hyx
            · exact z
          show (((if y = x then (cpTh (cps T c), T) else servN x r l (setCp T c (thd (cps T c) (cpTh (cps T c) + daysN (rdKi (rds T y)))))).1 = _) ∧ _) ∨ 0 ≤ (if y = x then (cpTh (cps T c), T) else servN x r l (setCp T c (thd (cps T c) (cpTh (cps T c) + daysN (rdKi (rds T y)))))).1.toInt
          rw [if_neg hyx]
          have hn : nrm (setCp T c (thd (cps T c) (cpTh (cps T c) + daysN (rdKi (rds T y))))) = nrm T := nrm_set
          have hd := days_any (rdKi (rds T y))
          have hc := hB c f1 f2
          have e : (cpTh (cps T c) + daysN (rdKi (rds T y))).toInt = (cpTh (cps T c)).toInt + (daysN (rdKi (rds T y))).toInt := i_add hc.1 hd.1 (by omega)
          have := ih (setCp T c (thd (cps T c) (cpTh (cps T c) + daysN (rdKi (rds T y))))) (B + 28) (inv_same hn I) (fun c' hc' hr => by
            by_cases hcc : c' = c
            · subst hcc
              rw [cp_eq]
              show 0 ≤ (cpTh (cps T c') + daysN (rdKi (rds T y))).toInt ∧ (cpTh (cps T c') + daysN (rdKi (rds T y))).toInt ≤ B + 28
              omega
            · rw [cp_ne hcc] at hr ⊢
              have := hB c' hc' hr
              omega) (by omega) (by omega) hx' (by rw [nrm_none hn]; exact hna)
          rcases this with ⟨g1, g2⟩ | g
          · exact Or.inl ⟨g1, fun c' hc' => by rw [← nrm_nl hn]; exact g2 c' hc'⟩
          · exact Or.inr g
    · rw [if_neg hy]
      have hx' : x ∈ l := by
        rcases List.mem_cons.mp hx with z | z
        · rw [← z] at hy; exact absurd hna hy
        · exact z
      exact ih T B I hB h0 (by omega) hx' hna
theorem anyB_ex {P : Nat → Bool} : ∀ {k : Nat}, anyB P k = true → ∃ c, P c = true := by
  intro k
  induction k with
  | zero => intro h; cases h
  | succ k ih =>
    intro h
    rw [anyB, Bool.or_eq_true] at h
    rcases h with z | z
    · exact ih z
    · exact ⟨k, z⟩
theorem likeT_self : ∀ k, k < 101 → 1 ≤ k → likeT (nI k) (nI k) = 50 := by decide +kernel
theorem likeY_50 : likeY (nI 50) (nI 50) = 20 := by decide +kernel
theorem likeT_le : ∀ k, k < 101 → ∀ j, j < 101 → 30 + likeT (nI k) (nI j) + 20 < 101 ∧ 0 + likeT (nI k) (nI j) + 20 < 101 := by decide +kernel
theorem like_self {t : Nat} {S : St} (I : Inv t S) {i : Nat} (hi : i < nRc S) : likeS S i i = 100 := by
  obtain ⟨-, ⟨k, k1, k2, hk⟩, hy⟩ := I.1.2.2.2.2.2.2.1 i hi
  show likeA (rcAu (rcs S i)) (rcAu (rcs S i)) + likeT (rcTi (rcs S i)) (rcTi (rcs S i)) + likeY (rcYe (rcs S i)) (rcYe (rcs S i)) = 100
  rw [hk, hy, likeT_self k (by omega) k1, likeY_50]
  simp [likeA]
theorem like_le {t : Nat} {S : St} (I : Inv t S) {i j : Nat} (hi : i < nRc S) (hj : j < nRc S) : likeS S i j < 101 := by
  obtain ⟨-, ⟨k, k1, k2, hk⟩, hy⟩ := I.1.2.2.2.2.2.2.1 i hi
  obtain ⟨-, ⟨k', k1', k2', hk'⟩, hy'⟩ := I.1.2.2.2.2.2.2.1 j hj
  show likeA (rcAu (rcs S i)) (rcAu (rcs S j)) + likeT (rcTi (rcs S i)) (rcTi (rcs S j)) + likeY (rcYe (rcs S i)) (rcYe (rcs S j)) < 101
  rw [hk, hk', hy, hy', likeY_50]
  have h := likeT_le k (by omega) k' (by omega)
  unfold likeA
  split
  · exact h.1
  · exact h.2
theorem rc_ok {t : Nat} {S : St} (ht : t ≤ 60) (I : Inv t S) {i : Nat} (hi : i < nRc S) : RcOK S i := by
  obtain ⟨rk, -, -, r3⟩ := live_rank I.1
  have hl := live_lt I.1.w hi
  have h20 := I.1.w.2.1
  refine ⟨live_id (t := t) (r3 i hi).1, fun x hx => ?_, like_self I hi, ?_, ?_⟩
  · generalize live S i = l at *
    have hlen := (W_lin I.1.w hl).1
    have hm : (-1 : Int32).toInt = -1 := by decide
    have h0 : (0 : Int32).toInt = 0 := by decide
    have hI2 : Inv t (rkS S l) := inv_same nrm_rk I
    have main : noneA S l x = true → ((servN x l (lin S l) (rkS S l)).1 = -1 ∧ ∀ c, c < 30 → notLostB S l c = false) ∨ 0 ≤ (servN x l (lin S l) (rkS S l)).1.toInt := fun hna => by
      have := serv_ok ht (lin S l) (rkS S l) 28 hI2 (rk_tb ht I l) (by omega) (by omega) hx (by rw [nrm_none nrm_rk]; exact hna)
      rcases this with ⟨g1, g2⟩ | g
      · exact Or.inl ⟨g1, fun c hc => by rw [← nrm_nl (nrm_rk (S := S) (r := l))]; exact g2 c hc⟩
      · exact Or.inr g
    have ev : noneA S l x = true → soonN S x l = (servN x l (lin S l) (rkS S l)).1 := fun h => by unfold soonN; rw [if_pos h]
    have ev0 : noneA S l x ≠ true → soonN S x l = 0 := fun h => by unfold soonN; rw [if_neg h]
    refine ⟨fun ha => ?_, ?_, fun hneg => ?_, ?_⟩
    · obtain ⟨c, hc⟩ := anyB_ex ha
      simp only [inB, decide_eq_true_eq] at hc
      obtain ⟨c1, c2, c3⟩ := hc
      obtain ⟨e, he, hea⟩ := (I.2.2 c c1).2 c3 x (by rw [c2]; exact hx)
      rw [c2] at hea
      exact ev0 (fun z => (noneA_iff I.1.n).mp z e he hea)
    · by_cases hna : noneA S l x = true
      · rw [ev hna, Int32.lt_iff_toInt_lt]
        rcases main hna with ⟨g1, -⟩ | g
        · rw [g1]; omega
        · omega
      · rw [ev0 hna]; decide
    · by_cases hna : noneA S l x = true
      · rw [ev hna] at hneg ⊢
        rcases main hna with ⟨g1, g2⟩ | g
        · refine ⟨g1, ?_⟩
          rw [cn_congr (Q := fun _ => false) g2]
          exact cn_zero (fun _ => rfl) 30
        · rw [Int32.lt_iff_toInt_lt] at hneg
          omega
      · rw [ev0 hna] at hneg
        exact absurd hneg (by decide)
    · refine cn_pos (c := l) (by omega) ?_
      simp only [waitsB, hl, decide_true, Bool.true_and]
      simpa using hx
  · unfold twinN
    cases hw : twN S i 20 with
    | none => rfl
    | some d =>
      have := like_le I hi (tw_prop hw).1
      show (if likeS S i d < 101 then (-1 : Int32) else nI d) = -1
      rw [if_pos this]
  · unfold twinN
    cases hw : twN S i 20 with
    | none =>
      intro z
      have z' : (-1 : Int32) = nI (live S i) := z
      exact nI_pos (n := live S i) (by omega) (by rw [← z']; decide)
    | some d =>
      obtain ⟨p1, -, p3⟩ := tw_prop hw
      intro z
      have z' : (if likeS S i d < 0 then (-1 : Int32) else nI d) = nI (live S i) := z
      split at z'
      · exact nI_pos (n := live S i) (by omega) (by rw [← z']; decide)
      · exact p3 (nI_inj (by omega) (by omega) z')
theorem chk_ok {t : Nat} {S : St} (ht : t ≤ 60) (I : Inv t S) : ChkOK S :=
  ⟨fun c hc => cp_ok ht I hc, I.1.2.2.2.1, fun i hi => rc_ok ht I (Nat.lt_of_lt_of_le hi I.1.2.2.2.1), I.1.2.2.1, fun x hx => rd_ok ht I hx, wait_sum I, owe_sum I, at_sum I (Or.inl rfl), at_sum I (Or.inr rfl)⟩
theorem op_inv {S : St} (O : Op 4 3 S) : Inv 0 S := by
  obtain ⟨W, h1, h2, h3, h4, h5, h6, h7⟩ := O
  have h0 : (0 : Int32).toInt = 0 := by decide
  have hlive : cn (liveB S) 20 = 3 := by
    have e : cn (liveB S) 20 = cn (fun c => decide (c < 3)) 20 := cn_congr (fun c _ => by
      unfold liveB
      by_cases hc : c < 3
      · obtain ⟨-, o, t, -, -, -, e⟩ := h7 c hc
        simp [h3, hc, e]
      · simp [h3, hc])
    rw [e]; decide
  refine ⟨⟨W, h1, h2, by omega, by rw [h5, h0]; omega, fun x hx => ?_, fun i hi => ?_, by omega, fun _ => 0, fun i hi => ⟨by show 0 + _ ≤ _; omega, fun j hj => ?_⟩⟩, ⟨fun c hc => by omega, fun x hx => ?_⟩, fun c hc => by omega⟩
  · obtain ⟨k, hk, e⟩ := h6 x hx
    rw [e]
    exact ⟨⟨k, hk, rfl⟩, by show 0 ≤ (0 : Int32).toInt; omega, by show (0 : Int32).toInt ≤ _; omega⟩
  · obtain ⟨-, o, t, ho, t1, t2, e⟩ := h7 i (by omega)
    rw [e]
    exact ⟨ho, ⟨t, t1, t2, rfl⟩, rfl⟩
  · obtain ⟨-, o, t, ho, t1, t2, e⟩ := h7 i (by omega)
    rw [e] at hj
    cases hj
  · have : lentN S x = 0 := cn_zero (fun c => by simp [ofB, h4]) 30
    rw [this]
    unfold moreN
    split <;> decide
theorem pur : Pur Inv := by
  refine ⟨fun S O => op_inv O, fun t S I => ⟨I.1.w, ?_⟩, fun t S ht I => ao_all ht I, fun t S ht I => chk_ok ht I, fun t S T h I => inv_same h I⟩
  show ¬ nI (cn (liveB S) 20) < 1
  exact no_gt (m := cn (liveB S) 20) (k := 1) I.1.2.2.2.2.2.2.2.1 (by have := cn_le (P := liveB S) 20; omega)
