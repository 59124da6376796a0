/-! turns that keep the invariant: copy, leave, lend, await, record -/
theorem ao_copy {t : Nat} {S : St} (ht : t < 60) (I : Inv t S) : AoCopy (Inv (t + 1)) S := by
  intro q i p hi hl hn hp1 hp2
  have W1 : Wf (addCp S q (newC i (nI p))) := wf_addCp I.1.w hn hi (fun r h => by cases h) (fun h => by cases h)
  have D1 : Dt t (addCp S q (newC i (nI p))) := ⟨W1, I.1.2⟩
  have e0 : cps (addCp S q (newC i (nI p))) (nCp S) = newC i (nI p) := up_eq
  have e1 : ∀ c, c ≠ nCp S → cps (addCp S q (newC i (nI p))) c = cps S c := fun c h => up_ne h
  have hlt : ∀ c, c < nCp (addCp S q (newC i (nI p))) → c ≠ nCp S → c < nCp S := fun c h hne => by
    have : c < nCp S + 1 := h
    omega
  have has : ∀ e x r, e < nCp (addCp S q (newC i (nI p))) → (As (addCp S q (newC i (nI p))) e x r ↔ e < nCp S ∧ As S e x r) := by
    intro e x r he
    by_cases hec : e = nCp S
    · subst hec
      unfold As
      rw [e0]
      exact ⟨(fun z => by cases z.1), fun z => absurd z.1 (Nat.lt_irrefl _)⟩
    · unfold As
      rw [e1 e hec]
      exact ⟨fun z => ⟨hlt e he hec, z⟩, fun z => z.2⟩
  refine nx_of (inv_up (inv_free (by omega) D1 (c := nCp S) (Nat.lt_succ_self _) ⟨p, hp1, by omega, by rw [e0]⟩ (by rw [e0]; exact hl) (fun c hc hne => ?_) (fun x hx => ?_) (fun c hc hne => ?_) (fun c hc hne => ?_) (fun x hx ha => ?_))) rfl rfl (Nat.le_succ _) (Nat.le_refl _) rfl
  · have := I.2.1.1 c (hlt c hc hne)
    unfold Sh
    rw [e1 c hne]
    exact this
  · have : lentN (addCp S q (newC i (nI p))) x ≤ lentN S x := by
      refine cn_mono (fun c h => ?_) 30
      simp only [ofB, decide_eq_true_eq] at h ⊢
      obtain ⟨b1, b2, b3⟩ := h
      by_cases hcc : c = nCp S
      · subst hcc
        rw [e0] at b2
        cases b2
      · rw [e1 c hcc] at b2 b3
        exact ⟨hlt c b1 hcc, b2, b3⟩
    have h2 := I.2.1.2 x hx
    show (lentN (addCp S q (newC i (nI p))) x : Int) ≤ (moreN (rdKi (rds S x))).toInt
    omega
  · intro x ha
    rw [e1 c hne] at ha ⊢
    obtain ⟨b1, b2⟩ := (I.2.2 c (hlt c hc hne)).1 x ((has _ _ _ hc).mp ha).2
    exact ⟨b1, fun e he hae => b2 e ((has _ _ _ he).mp hae).1 ((has _ _ _ he).mp hae).2⟩
  · intro hpl x hx
    rw [e1 c hne] at hpl hx ⊢
    obtain ⟨e, he, ha⟩ := (I.2.2 c (hlt c hc hne)).2 hpl x hx
    have he' : e < nCp S + 1 := by omega
    exact ⟨e, he', (has _ _ _ he').mpr ⟨he, ha⟩⟩
  · exact absurd ((has _ _ _ (Nat.lt_succ_self _)).mp ha).1 (Nat.lt_irrefl _)
/-- x waits for r no more: a whole turn -/
theorem inv_end {t : Nat} {S : St} {x r : Nat} (ht : t ≤ 61) (I : Inv t S) (hr : r < nRc S) : Inv t (endS S x r) ∧ rcs (endS S x r) = rcs S ∧ nCp (endS S x r) = nCp S ∧ tdy (endS S x r) = tdy S := by
  obtain ⟨D, h1, h2, h3, h4, h5, h6, h7⟩ := end_inv (x := x) ht I.1 hr (fun c hc => sh_pr (I.2.1.1 c hc).2) (fun c hc => (I.2.2 c hc).1) (fun c hc hp y hy _ => (I.2.2 c hc).2 hp y hy)
  refine ⟨⟨D, ⟨fun c hc => ?_, fun y hy => ?_⟩, fun c hc => h1 c (by rw [← h2]; exact hc)⟩, h3, h2, h5⟩
  · rw [h2] at hc
    rw [h3]
    rcases h7 c hc with e | ⟨-, a2, -, a4⟩
    · refine ⟨by rw [e]; exact (I.2.1.1 c hc).1, ?_⟩
      have := (I.2.1.1 c hc).2
      unfold Sh at this ⊢
      rw [e, h5]
      exact this
    · exact ⟨by rw [a4]; exact (I.2.1.1 c hc).1, a2⟩
  · have : lentN (endS S x r) y ≤ lentN S y := by
      refine cn_mono (fun c h => ?_) 30
      simp only [ofB, decide_eq_true_eq] at h ⊢
      obtain ⟨b1, b2, b3⟩ := h
      rw [h2] at b1
      rcases h7 c b1 with e | ⟨-, -, a3, -⟩
      · rw [e] at b2 b3; exact ⟨b1, b2, b3⟩
      · rw [b2] at a3
        rcases a3 with z | z <;> exact absurd z (by decide)
    have h8 := I.2.1.2 y hy
    rw [h4]
    omega
theorem ao_leave {t : Nat} {S : St} (ht : t < 60) (I : Inv t S) : AoLeave (Inv (t + 1)) S := by
  intro x i hx hi hm
  obtain ⟨I2, h1, h2, h3⟩ := inv_end (x := x) (by omega) I (live_lt I.1.w hi)
  have h5 : same5 S (endS S x (live S i)) := same5_end
  refine ⟨nx_of (inv_up I2) (aH_same h5) h3 (by rw [h2]; exact Nat.le_refl _) (by rw [nRc_same h5]; exact Nat.le_refl _) (congrArg (fun z => z.2.2.2.1) h5.2.1), ?_⟩
  show lvN (weS (endS S x (live S i))) 20 i = lvN (weS S) 20 i
  have : weS (endS S x (live S i)) = weS S := by unfold weS; rw [h1]
  rw [this]
theorem ao_lend {t : Nat} {S : St} (ht : t < 60) (I : Inv t S) : AoLend (Inv (t + 1)) S := by
  intro x c hx hc hz
  have hx4 : x < 4 := by rw [I.1.2.2.1] at hx; exact hx
  have hr := W_rec I.1.w hc
  have hday := day_i I.1 (by omega) hx4
  have htb := td_b I.1 (by omega)
  have h0i : (0 : Int32).toInt = 0 := by decide
  -- what reason 0 says
  have hz1 : ¬ (¬ cpPl (cps S c) = 0 ∧ asideB S (some x) (cpRc (cps S c)) c = false) := fun z => by
    unfold reasonN at hz; rw [if_pos z] at hz; cases hz
  have hz2 : ¬ moreN (rdKi (rds S x)) ≤ nI (cn (ofB S (some x) 1) 30) := fun z => by
    unfold reasonN at hz; rw [if_neg hz1, if_pos z] at hz; cases hz
  have hpl : cpPl (cps S c) = 0 ∨ As S c x (cpRc (cps S c)) := by
    by_cases h : cpPl (cps S c) = 0
    · exact Or.inl h
    · right
      cases hb : asideB S (some x) (cpRc (cps S c)) c with
      | false => exact absurd ⟨h, hb⟩ hz1
      | true => exact (asB_iff.mp hb).2
  have hp1 : cpPl (cps S c) ≠ 1 := by
    rcases hpl with h | h
    · rw [h]; decide
    · rw [h.1]; decide
  -- the state before the wait ends
  have W1 := wf_lendB I.1.w hx hc
  have e0 : cps (lendB S x c) c = lentC (cps S c) x (tdy S + daysN (rdKi (rds S x))) := up_eq
  have e1 : ∀ c', c' ≠ c → cps (lendB S x c) c' = cps S c' := fun c' h => up_ne h
  have erc : ∀ c', cpRc (cps (lendB S x c) c') = cpRc (cps S c') := fun c' => by
    by_cases h : c' = c
    · rw [h, e0]
    · rw [e1 c' h]
  have erw : ∀ i, rcWe (rcs (lendB S x c) i) = rcWe (rcs S i) ∧ rcAu (rcs (lendB S x c) i) = rcAu (rcs S i) ∧ rcTi (rcs (lendB S x c) i) = rcTi (rcs S i) ∧ rcYe (rcs (lendB S x c) i) = rcYe (rcs S i) := fun i => by
    show rcWe (va_up (rcs S) (cpRc (cps S c)) (lent1 (rcs S (cpRc (cps S c)))) i) = _ ∧ rcAu (va_up (rcs S) (cpRc (cps S c)) (lent1 (rcs S (cpRc (cps S c)))) i) = _ ∧ rcTi (va_up (rcs S) (cpRc (cps S c)) (lent1 (rcs S (cpRc (cps S c)))) i) = _ ∧ rcYe (va_up (rcs S) (cpRc (cps S c)) (lent1 (rcs S (cpRc (cps S c)))) i) = _
    by_cases h : i = cpRc (cps S c)
    · rw [h, up_eq]; exact ⟨rfl, rfl, rfl, rfl⟩
    · rw [up_ne h]; exact ⟨rfl, rfl, rfl, rfl⟩
  have elv : liveB (lendB S x c) = liveB S := by
    funext i
    unfold liveB
    rw [(erw i).1]
  have D1 : Dt t (lendB S x c) := by
    obtain ⟨d1, d2, d3, d4, d5, d6, d7, d8, rk, d9⟩ := I.1
    refine ⟨W1, d2, d3, d4, d5, d6, fun i hi => ?_, by rw [elv]; exact d8, rk, fun i hi => ?_⟩
    · obtain ⟨-, b2, b3, b4⟩ := erw i
      rw [b2, b3, b4]
      exact d7 i hi
    · rw [elv, (erw i).1]
      exact d9 i hi
  have has : ∀ e y r, As (lendB S x c) e y r ↔ e ≠ c ∧ As S e y r := by
    intro e y r
    by_cases hec : e = c
    · subst hec
      unfold As
      rw [e0]
      exact ⟨(fun z => by cases z.1), fun z => absurd rfl z.1⟩
    · unfold As
      rw [e1 e hec]
      exact ⟨fun z => ⟨hec, z⟩, fun z => z.2⟩
  have hs : ∀ c', c' < nCp S → Sh 0 (lendB S x c) c' := fun c' hc' => by
    by_cases h : c' = c
    · subst h
      unfold Sh
      rw [e0]
      refine ⟨sh_pr (I.2.1.1 c' hc').2, Or.inr (Or.inl ⟨rfl, ⟨x, hx4, rfl⟩, ?_, ?_, ?_, ?_, ?_⟩)⟩
      · show 0 ≤ (tdy S + daysN (rdKi (rds S x))).toInt; omega
      · show (tdy S).toInt ≤ (tdy S + daysN (rdKi (rds S x))).toInt + 29 + 0; omega
      · show (tdy S + daysN (rdKi (rds S x))).toInt ≤ (tdy S).toInt + 28; omega
      · show 0 ≤ (0 : Int32).toInt; omega
      · show (0 : Int32).toInt ≤ 2; omega
    · have := (I.2.1.1 c' hc').2
      unfold Sh at this ⊢
      rw [e1 c' h]
      exact this
  obtain ⟨D2, h1, h2, h3, h4, h5, h6, h7⟩ := end_inv (x := x) (r := cpRc (cps S c)) (S := lendB S x c) (by omega) D1 hr (fun c' hc' => sh_pr (hs c' hc')) (fun c' hc' y ha => by
    rw [erc] at ha ⊢
    obtain ⟨b1, b2⟩ := (I.2.2 c' hc').1 y ((has _ _ _).mp ha).2
    exact ⟨b1, fun e he hae => b2 e he ((has _ _ _).mp hae).2⟩) (fun c' hc' hp y hy hyr => by
    rw [erc] at hy hyr ⊢
    have hcc : c' ≠ c := fun z => by rw [z, e0] at hp; cases hp
    rw [e1 c' hcc] at hp
    obtain ⟨e, he, ha⟩ := (I.2.2 c' hc').2 hp y hy
    refine ⟨e, he, (has _ _ _).mpr ⟨fun z => ?_, ha⟩⟩
    subst z
    rcases hpl with h | h
    · exact absurd ha.1 (by rw [h]; decide)
    · have e5 : y = x := by
        have e6 := ha.2.1
        rw [h.2.1] at e6
        exact (Option.some.inj e6).symm
      rcases hyr with z | z
      · exact z e5
      · exact z ha.2.2.symm)
  have hT : lendS S x c = endS (lendB S x c) x (cpRc (cps S c)) := rfl
  have hcT : cps (lendS S x c) c = lentC (cps S c) x (tdy S + daysN (rdKi (rds S x))) := by
    rw [hT]
    rcases h7 c hc with e | ⟨a1, -⟩
    · rw [e, e0]
    · exact absurd rfl ((has _ _ _).mp a1).1
  have s5 : same5 (lendB S x c) (endS (lendB S x c) x (cpRc (cps S c))) := same5_end
  have I2 : Inv t (lendS S x c) := by
    rw [hT]
    refine ⟨D2, ⟨fun c' hc' => ?_, fun y hy => ?_⟩, fun c' hc' => h1 c' (by rw [← h2]; exact hc')⟩
    · rw [h2] at hc'
      rw [h3]
      have hl := (I.2.1.1 c' hc').1
      rcases h7 c' hc' with e | ⟨-, a2, -, a4⟩
      · refine ⟨by rw [e, erc, (erw _).1]; exact hl, ?_⟩
        have := hs c' hc'
        unfold Sh at this ⊢
        rw [e, h5]
        exact this
      · exact ⟨by rw [a4, erc, (erw _).1]; exact hl, a2⟩
    · have g1 : lentN (endS (lendB S x c) x (cpRc (cps S c))) y ≤ lentN (lendB S x c) y := by
        refine cn_mono (fun c' h => ?_) 30
        simp only [ofB, decide_eq_true_eq] at h ⊢
        obtain ⟨b1, b2, b3⟩ := h
        rw [h2] at b1
        rcases h7 c' b1 with e | ⟨-, -, a3, -⟩
        · rw [e] at b2 b3; exact ⟨b1, b2, b3⟩
        · rw [b2] at a3
          rcases a3 with z | z <;> exact absurd z (by decide)
      have g2 := cn_up (P := ofB (lendB S x c) (some y) 1) (Q := ofB S (some y) 1) (i := c) (fun c' h => by unfold ofB; rw [e1 c' h]) 30 (Nat.lt_of_lt_of_le hc I.1.n)
      have g3 : ofB S (some y) 1 c = false := by simp [ofB, hp1]
      have g4 : ofB (lendB S x c) (some y) 1 c = decide (y = x) := by
        unfold ofB
        rw [e0]
        have hc' : c < nCp (lendB S x c) := hc
        by_cases hyx : y = x
        · simp [hc', hyx]
        · have : ¬ x = y := fun z => hyx z.symm
          rw [decide_eq_false hyx]
          simp only [decide_eq_false_iff_not]
          exact fun z => this (Option.some.inj z.2.2)
      rw [g3, g4] at g2
      have g5 := I.2.1.2 y hy
      rw [h4]
      show (_ : Int) ≤ (moreN (rdKi (rds S y))).toInt
      have g6 : lentN (lendB S x c) y = cn (ofB (lendB S x c) (some y) 1) 30 := rfl
      have g7 : lentN S y = cn (ofB S (some y) 1) 30 := rfl
      by_cases hyx : y = x
      · subst hyx
        rw [Int32.le_iff_toInt_le, nI_toInt (by have := cn_le (P := ofB S (some y) 1) 30; omega)] at hz2
        simp at g2
        omega
      · simp [hyx] at g2
        omega
  have z1 : aH (lendS S x c) = aH S := by rw [hT]; have z := aH_same s5; exact z
  have z2 : tdy (lendS S x c) = tdy S := by rw [hT]; exact h5
  have z3 : nCp S ≤ nCp (lendS S x c) := by rw [hT, h2]; exact Nat.le_refl _
  have z4 : nRc S ≤ nRc (lendS S x c) := by rw [hT, nRc_same s5]; exact Nat.le_refl _
  have z5 : nRd (lendS S x c) = nRd S := by rw [hT]; have z := congrArg (fun z => z.2.2.2.1) s5.2.1; exact z
  refine ⟨nx_of (inv_up I2) z1 z2 z3 z4 z5, by rw [hcT], by rw [hcT], ?_⟩
  unfold lateC
  rw [hcT, z2]
  show lateN 1 (tdy S + daysN (rdKi (rds S x))) (tdy S) = 0
  unfold lateN
  rw [if_neg]
  intro z
  have := z.2
  rw [Int32.lt_iff_toInt_lt] at this
  omega
